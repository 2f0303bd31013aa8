-- the class: how a noise knocks, and all of a day
theorem z_bq1 (P R : Prop) [Decidable P] [Decidable R] : (decide R && !(decide P)) = decide (¬ P ∧ R) := by by_cases c1 : P <;> by_cases c2 : R <;> simp [c1, c2]
theorem z_bq2 (P R : Prop) [Decidable P] [Decidable R] : (decide P && !(decide R)) = decide (P ∧ ¬ R) := by by_cases c1 : P <;> by_cases c2 : R <;> simp [c1, c2]
theorem z_bq3 (P R K : Prop) [Decidable P] [Decidable R] [Decidable K] (v : Int) (h : K) : ((if decide (¬ P ∧ R) = true then v else 0) + (if decide (P ∧ ¬ R) = true then (1 : Int) else 0)) = if ¬ P ∧ R then v else if P ∧ ¬ R ∧ K then 1 else 0 := by by_cases c1 : P <;> by_cases c2 : R <;> simp [c1, c2, h]
section KNOCK
variable {A : kz_A} {q l : Int} {Q : Int → kp_W → Prop}
theorem z_bNot {x : Int} {t : Nat} (ht : t < 64) : kz_t (kp_xorL x (-1)) t = !(kz_t x t) := by rw [kz_xorL ht, kz_m1, Bool.xor_true]
theorem c_knock (hA : kz_I A) {i tap pump : Int} {b : kp_W} (hi : 0 ≤ i ∧ i < A.1 0) (hN : kz_Rn 11 A.1 b) (hT : kz_Bt A.1 q l 1 tap) (hP : kz_Bt A.1 q l 2 pump) (hw : kz_Wm A.1 q l b) (hS : kz_Sr A i b) {f : Int → kp_W → kp_R} (hk : ∀ σ', kz_Fn i b σ' → (∀ t, 0 ≤ t → t < 40 → σ' 52 (Int.toNat (i * 40 + t)) = kz_kn A q l i t) → kp_ok (f 0 σ') Q) : kp_ok (kp_bd (kf_X6_knock i tap pump b) f) Q := by
  have h10 := hA.1.1.1
  have hn := hA.1.2.2.2.1 i hi.1 hi.2
  have hi10 : 0 ≤ i ∧ i < 10 := ⟨hi.1, by omega⟩
  have e12 : b 12 (Int.toNat i) = A.1 (Int.toNat (250 + i)) := (hN.2.2 i hi.1 hi.2).2.1
  have e14 : b 14 (Int.toNat i) = A.1 (Int.toNat (270 + i)) := (hN.2.2 i hi.1 hi.2).2.2.2.1
  -- what went off, what went on
  have pre : ∀ t : Int, 0 ≤ t → t < 40 → kz_t (tap * 2 ^ 1) (Int.toNat t) = decide (0 < t ∧ kz_on A.1 q l 1 (t - 1)) := by
    intro t t0 t1
    rw [kz_shl]
    by_cases c : 1 ≤ Int.toNat t
    · have := hT.2 (t - 1) (by omega) (by omega)
      rw [decide_eq_true c, Bool.true_and, show Int.toNat t - 1 = Int.toNat (t - 1) by omega, this]
      congr 1
      exact propext ⟨fun h => ⟨by omega, h⟩, fun h => h.2⟩
    · rw [decide_eq_false c, Bool.false_and]
      exact (decide_eq_false (fun z => by omega)).symm
  have hoff : ∀ t : Int, 0 ≤ t → t < 40 → kz_t (kp_andL (kp_andL (tap * 2 ^ 1) (kp_xorL tap (-1))) 1099511627775) (Int.toNat t) = decide (¬ kz_on A.1 q l 1 t ∧ (0 < t ∧ kz_on A.1 q l 1 (t - 1))) := by
    intro t t0 t1
    rw [kz_andL (by omega), kz_andL (by omega), z_bNot (by omega), z_M, decide_eq_true (by omega : Int.toNat t < 40), Bool.and_true, pre t t0 t1, hT.2 t t0 t1]
    exact z_bq1 _ _
  have hon : ∀ t : Int, 0 ≤ t → t < 40 → kz_t (kp_andL tap (kp_xorL (tap * 2 ^ 1) (-1))) (Int.toNat t) = decide (kz_on A.1 q l 1 t ∧ ¬ (0 < t ∧ kz_on A.1 q l 1 (t - 1))) := by
    intro t t0 t1
    rw [kz_andL (by omega), z_bNot (by omega), pre t t0 t1, hT.2 t t0 t1]
    exact z_bq2 _ _
  have i1 := kz_andL_in (kp_andL (tap * 2 ^ 1) (kp_xorL tap (-1))) 1099511627775
  have i2 := kz_andL_in tap (kp_xorL (tap * 2 ^ 1) (-1))
  unfold kf_X6_knock
  refine k_bd (k_ck hi10 (k_lt (k_ck (by decide) (k_lt (k_ck (by decide) (k_lt (k_ck hi10 ?_)))))))
  rw [e12, e14]
  show kp_ok (kp_eq (A.1 (Int.toNat (250 + i))) 1 _ _) _
  have kin : kp_in (A.1 (Int.toNat (250 + i))) := ⟨by omega, by omega⟩
  have fin : ∀ σ' : kp_W, kz_Fn i b σ' → (∀ t, 0 ≤ t → t < 40 → σ' 52 (Int.toNat (i * 40 + t)) = kz_kn A q l i t) → kp_ok (some (0, σ')) (fun r σ => kp_ok (f r σ) Q) := fun σ' h1 h2 => k_some (hk σ' h1 h2)
  refine k_eq kin (by decide) (fun c => c_tick hA hi (Or.inl ⟨rfl, c⟩) hw hS fin) (fun c1 => ?_)
  refine k_eq kin (by decide) (fun c => c_mark hi10 i1 (by decide) (fun σ' h1 h2 => fin σ' h1 (fun t t0 t1 => ?_))) (fun c2 => ?_)
  · rw [h2 t t0 t1, z_knS (Or.inl c), hoff t t0 t1, kz_0, if_neg (c := false = true) (by decide), Int.add_zero]
    by_cases d : ¬ kz_on A.1 q l 1 t ∧ (0 < t ∧ kz_on A.1 q l 1 (t - 1))
    · rw [if_pos (decide_eq_true d), if_pos d]
    · rw [if_neg (fun z => d (of_decide_eq_true z)), if_neg d, if_neg (fun z => by omega)]
  have lasty : ∀ (c : Bool) (x : Int), kz_in40 x → (∀ t, 0 ≤ t → t < 40 → kz_t x (Int.toNat t) = decide (decide (kz_on A.1 q l 2 t) = c)) → (A.1 (Int.toNat (250 + i)) = 3 ∨ A.1 (Int.toNat (250 + i)) = 6) → c = decide (A.1 (Int.toNat (250 + i)) = 3) → kp_ok (kp_bd (kf_X6_lasting x (A.1 (Int.toNat (270 + i))) b) (fun r_2 σ_3 => kp_bd (kf_X6_mark i 0 0 r_2 σ_3) (fun r_3 σ_4 => some (0, σ_4)))) (fun r σ => kp_ok (f r σ) Q) := by
    intro c x hx hb hkd hc
    refine c_lasting hx hb ⟨hn.2.2.1.1, hn.2.2.1.2⟩ (fun y hy hyb => c_mark hi10 (by decide) (z_40L hy) (fun σ' h1 h2 => fin σ' h1 (fun t t0 t1 => ?_)))
    rw [h2 t t0 t1, z_knH hkd, kz_0, if_neg (c := false = true) (by decide), Int.zero_add, hyb t t0 t1, hc]
    by_cases d : (if A.1 (Int.toNat (270 + i)) = 0 then 1 else A.1 (Int.toNat (270 + i))) ≤ kz_rn A.1 q l (decide (A.1 (Int.toNat (250 + i)) = 3)) (t + 1)
    · rw [if_pos (decide_eq_true d), if_pos d]
    · rw [if_neg (by simpa using d), if_neg d]
  refine k_eq kin (by decide) (fun c => lasty true pump hP.1 (fun t t0 t1 => ?_) (Or.inl c) (decide_eq_true c).symm) (fun c3 => ?_)
  · rw [hP.2 t t0 t1]
    by_cases d : kz_on A.1 q l 2 t <;> simp [d]
  refine k_eq kin (by decide) (fun c => c_tick hA hi (Or.inr ⟨rfl, c⟩) hw hS fin) (fun c4 => ?_)
  refine k_eq kin (by decide) (fun c => c_mark hi10 i1 i2 (fun σ' h1 h2 => fin σ' h1 (fun t t0 t1 => ?_))) (fun c5 => ?_)
  · rw [h2 t t0 t1, z_knS (Or.inr c), hoff t t0 t1, hon t t0 t1]
    exact z_bq3 _ _ _ _ c
  refine k_eq kin (by decide) (fun c => lasty false _ (z_40and (Or.inr z_40M)) (fun t t0 t1 => ?_) (Or.inr c) (decide_eq_false c3).symm) (fun c6 => ?_)
  · rw [kz_andL (by omega), z_bNot (by omega), z_M, decide_eq_true (by omega : Int.toNat t < 40), Bool.and_true, hP.2 t t0 t1]
    by_cases d : kz_on A.1 q l 2 t <;> simp [d]
  refine k_ck hi10 (k_ck (by omega) (c_mark hi10 (by decide) (kz_andL_in _ _) (fun σ' h1 h2 => fin σ' h1 (fun t t0 t1 => ?_))))
  rw [h2 t t0 t1, z_knN c1 c2 c3 c4 c5 c6, kz_0, if_neg (c := false = true) (by decide), Int.zero_add, kz_andL (by omega), hS.2.2 t t0 t1, kz_shl]
  by_cases d : Int.toNat (A.1 (Int.toNat (270 + i))) ≤ Int.toNat t
  · rw [decide_eq_true d, Bool.true_and, z_tenth _ (by omega)]
    by_cases e : t % 10 = A.1 (Int.toNat (270 + i))
    · rw [decide_eq_true (by omega)]
      cases kz_an A.1 i t A.2
      · rw [if_pos (by decide), if_pos ⟨rfl, e⟩]
      · rw [if_neg (by decide), if_neg (by simp)]
    · rw [decide_eq_false (by omega), Bool.and_false, if_neg (by decide), if_neg (fun z => e z.2)]
  · rw [decide_eq_false d, Bool.false_and, Bool.and_false, if_neg (by decide), if_neg (fun z => by omega)]
/-- the sounds stand for a day -/
def kz_Sn (A : kz_A) (q l : Int) (σ : kp_W) : Prop := kz_Wm A.1 q l σ ∧ (∀ i, 0 ≤ i → i < A.1 0 → kz_Sr A i σ) ∧ ∀ i, 0 ≤ i → i < A.1 0 → ∀ t, 0 ≤ t → t < 40 → σ 52 (Int.toNat (i * 40 + t)) = kz_kn A q l i t
theorem c_ring (hA : kz_I A) {x tap pump : Int} {b : kp_W} (hH : kz_H A b) (hx : kz_Bt A.1 q l 0 x) (hT : kz_Bt A.1 q l 1 tap) (hP : kz_Bt A.1 q l 2 pump) (hS : ∀ i, 0 ≤ i → i < A.1 0 → kz_Sr A i b) {f : Int → kp_W → kp_R} (hk : ∀ σ', (∀ a, a ≠ 49 → a ≠ 52 → σ' a = b a) → kz_Sn A q l σ' → kp_ok (f 0 σ') Q) : kp_ok (kp_bd (kf_X9_ring x tap pump b) f) Q := by
  have h10 := hA.1.1.1
  refine k_bd ?_
  unfold kf_X9_ring
  refine c_warm hA hx hH.2.2.2.1 (fun σ1 f1 w1 => k_lt ?_)
  have loop : ∀ (m : Nat) (y : Int) (σ : kp_W), 0 ≤ y → y ≤ A.1 0 → A.1 0 - y < m → (∀ a, a ≠ 49 → a ≠ 52 → σ a = b a) → kz_Wm A.1 q l σ → (∀ i, 0 ≤ i → i < y → ∀ t, 0 ≤ t → t < 40 → σ 52 (Int.toNat (i * 40 + t)) = kz_kn A q l i t) → kp_ok (kl_X9_ring_18 tap pump m y σ (fun (σ_3 : kp_W) => some (0, σ_3))) (fun r σ => kp_ok (f r σ) Q) := by
    intro m
    induction m with
    | zero => intro y σ h0 h1 h2; omega
    | succ m ih =>
      intro y σ h0 h1 h2 hF hw hv
      have hR : kz_Rn 11 A.1 σ := by
        have := hH.2.2.2.2.2.2.1
        unfold kz_Rn at this ⊢
        rw [hF 11 (by decide) (by decide), hF (11 + 1) (by decide) (by decide), hF (11 + 2) (by decide) (by decide), hF (11 + 3) (by decide) (by decide), hF (11 + 4) (by decide) (by decide)]
        exact this
      have hSσ : ∀ i, 0 ≤ i → i < A.1 0 → kz_Sr A i σ := fun i i0 i1 => z_SrF (hF 50 (by decide) (by decide)) (hF 51 (by decide) (by decide)) (hF 53 (by decide) (by decide)) (hS i i0 i1)
      rw [kl_X9_ring_18, hR.1]
      refine k_ls ⟨by omega, by omega⟩ ⟨by omega, by omega⟩ (fun hy => c_knock hA ⟨h0, hy⟩ hR hT hP hw (hSσ y h0 hy) (fun σ2 f2 v2 => k_lt (ih _ _ (by omega) (by omega) (by omega) (fun a a0 a1 => ?_) ?_ (fun i i0 i1 t t0 t1 => ?_)))) (fun hy => k_some (hk σ hF ⟨hw, hSσ, fun i i0 i1 => hv i i0 (by omega)⟩))
      · rw [f2.1 a a1]; exact hF a a0 a1
      · unfold kz_Wm; rw [f2.1 49 (by decide)]; exact hw
      · by_cases h : i = y
        · subst h; exact v2 t t0 t1
        · rw [f2.2 (i * 40 + t) (by omega) (by omega)]; exact hv i i0 (by omega) t t0 t1
  exact loop kp_fu 0 σ1 (by decide) (by omega) (kp_fu_big (by omega)) (fun a a0 _ => f1 a a0) w1 (fun i i0 i1 => by omega)
theorem z_Bt0 (hA : kz_I A) {b : Nat} {w : Int} {σ : kp_W} (hw : 0 ≤ w ∧ w < 3) (h : kz_Rd b A.1 σ) : kz_Bt A.1 0 0 w (σ b (Int.toNat w)) := by
  obtain ⟨h1, h2⟩ := h w hw.1 hw.2
  refine ⟨h1, fun t t0 t1 => ?_⟩
  have hd := hA.1.2.2.1 (40 * w + t) (by omega) (by omega)
  rw [show 130 + (40 * w + t) = 130 + 40 * w + t by omega] at hd
  have e : (if w = 0 then t - 0 else t) = t := by split <;> omega
  have h3 := h2 t t0 t1
  unfold kz_on
  rw [e]
  cases c : kz_t (σ b (Int.toNat w)) (Int.toNat t)
  · rw [z_bit0.mpr c] at h3
    exact (decide_eq_false (fun z => by omega)).symm
  · have h4 : ¬ σ b (Int.toNat w) / 2 ^ (Int.toNat t) % 2 = 0 := fun z => by rw [z_bit0.mp z] at c; cases c
    exact (decide_eq_true ⟨rfl, t0, by omega⟩).symm
/-- what a question may change of the class -/
def kz_Fk (b σ : kp_W) : Prop := (∀ a, a ≠ 0 → a ≠ 49 → a ≠ 50 → a ≠ 51 → a ≠ 52 → a ≠ 53 → a ≠ 54 → a ≠ 43 → σ a = b a) ∧ ∀ j, j ≠ 6 → σ 0 j = b 0 j
theorem z_Fk0 {b : kp_W} : kz_Fk b b := ⟨fun _ _ _ _ _ _ _ _ _ => rfl, fun _ _ => rfl⟩
theorem z_FkT {a b c : kp_W} (h : kz_Fk a b) (h2 : kz_Fk b c) : kz_Fk a c := ⟨fun k a0 a1 a2 a3 a4 a5 a6 a7 => (h2.1 k a0 a1 a2 a3 a4 a5 a6 a7).trans (h.1 k a0 a1 a2 a3 a4 a5 a6 a7), fun j hj => (h2.2 j hj).trans (h.2 j hj)⟩
theorem z_FkH {b σ : kp_W} (f : kz_Fk b σ) (h : kz_H A b) : kz_H A σ := z_RhF (fun a h1 h2 => f.1 a (by omega) (by omega) (by omega) (by omega) (by omega) (by omega) (by omega) (by omega)) h
/-- the class, with the sounds as they stand where it says that they do -/
def kz_E (A : kz_A) (σ : kp_W) : Prop := kz_H A σ ∧ (σ 0 6 = 0 ∨ σ 0 6 = 1) ∧ (σ 0 6 = 1 → kz_Sn A 0 0 σ)
theorem c_settle (hA : kz_I A) {b : kp_W} (hE : kz_E A b) {f : Int → kp_W → kp_R} (hk : ∀ σ', kz_Fk b σ' → kz_H A σ' → σ' 0 6 = 1 → kz_Sn A 0 0 σ' → kp_ok (f 0 σ') Q) : kp_ok (kp_bd (kf_X9_settle b) f) Q := by
  have h10 := hA.1.1.1
  obtain ⟨hH, h01, h1⟩ := hE
  refine k_bd ?_
  unfold kf_X9_settle
  refine k_eq (by omega) (by decide) (fun c => k_lt ?_) (fun c => k_some (hk b z_Fk0 hH (by omega) (h1 (by omega))))
  have loop : ∀ (m : Nat) (y : Int) (σ : kp_W), 0 ≤ y → y ≤ A.1 0 → A.1 0 - y < m → (∀ a, a ≠ 50 → a ≠ 51 → a ≠ 53 → a ≠ 54 → σ a = b a) → (∀ i, 0 ≤ i → i < y → kz_Sr A i σ) → ∀ (k : kp_W → kp_R) (R : Int → kp_W → Prop), (∀ σ', (∀ a, a ≠ 50 → a ≠ 51 → a ≠ 53 → a ≠ 54 → σ' a = b a) → (∀ i, 0 ≤ i → i < A.1 0 → kz_Sr A i σ') → kp_ok (k σ') R) → kp_ok (kl_X9_settle_10 m y σ k) R := by
    intro m
    induction m with
    | zero => intro y σ h0 h1 h2; omega
    | succ m ih =>
      intro y σ h0 h1 h2 hF hv k R hk
      have hHσ : kz_H A σ := z_RhF (fun a h1 h2 => hF a (by omega) (by omega) (by omega) (by omega)) hH
      rw [kl_X9_settle_10, show σ 11 5 = A.1 0 from hHσ.2.2.2.2.2.2.1.1]
      refine k_ls ⟨by omega, by omega⟩ ⟨by omega, by omega⟩ (fun hy => c_read hA ⟨h0, hy⟩ hHσ (fun σ2 f2 v2 => k_lt (ih _ _ (by omega) (by omega) (by omega) (fun a a0 a1 a2 a3 => ?_) (fun i i0 i1 => ?_) k R hk))) (fun hy => hk σ hF (fun i i0 i1 => hv i i0 (by omega)))
      · rw [f2.1 a a0 a1 a2 a3]; exact hF a a0 a1 a2 a3
      · by_cases h : i = y
        · subst h; exact v2
        · have hvi := hv i i0 (by omega)
          refine ⟨fun t t0 t1 => ?_, ?_⟩
          · have e := f2.2.1 (i * 40 + t) (by omega) (by omega)
            rw [e.1, e.2]; exact hvi.1 t t0 t1
          · rw [f2.2.2 i i0 h]; exact hvi.2
  refine loop kp_fu 0 b (by decide) (by omega) (kp_fu_big (by omega)) (fun _ _ _ _ _ => rfl) (fun i i0 i1 => by omega) _ _ (fun σ1 f1 s1 => ?_)
  have hH1 : kz_H A σ1 := z_RhF (fun a h1 h2 => f1 a (by omega) (by omega) (by omega) (by omega)) hH
  refine c_ring hA hH1 (z_Bt0 hA (w := 0) (by decide) hH1.2.1) (z_Bt0 hA (w := 1) (by decide) hH1.2.1) (z_Bt0 hA (w := 2) (by decide) hH1.2.1) s1 (fun σ2 f2 s2 => k_lt (k_some (hk _ ⟨fun a a0 a1 a2 a3 a4 a5 a6 a7 => ?_, fun j hj => ?_⟩ ?_ ?_ ?_)))
  · rw [kp_up_ne a0, f2 a a1 a4]; exact f1 a a2 a3 a5 a6
  · rw [z_up0 hj, f2 0 (by decide) (by decide), f1 0 (by decide) (by decide) (by decide) (by decide)]
  · exact z_RhF (fun a h1 h2 => by rw [kp_up_ne (by omega)]; exact f2 a (by omega) (by omega)) hH1
  · rw [z_up0e]
  · obtain ⟨a1, a2, a3⟩ := s2
    refine ⟨?_, fun i i0 i1 => z_SrF (by rw [kp_up_ne (by decide)]) (by rw [kp_up_ne (by decide)]) (by rw [kp_up_ne (by decide)]) (a2 i i0 i1), fun i i0 i1 t t0 t1 => by rw [kp_up_ne (by decide)]; exact a3 i i0 i1 t t0 t1⟩
    unfold kz_Wm; rw [kp_up_ne (by decide)]; exact a1
end KNOCK
