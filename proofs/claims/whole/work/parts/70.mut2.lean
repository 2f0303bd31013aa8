-- the class: day, feed, noise, still, note, clear
section CN
variable {A : kz_A} {σ : kp_W}
/-- after a change: the class holds the new state -/
def kz_New (A : kz_A) (s : Nat → Int) (b σ : kp_W) : Prop := kz_E (s, A.2) σ ∧ kz_Fh b σ
theorem z_E0 {B : kz_A} (h : kz_H B σ) (h6 : σ 0 6 = 0) : kz_E B σ := ⟨h, Or.inl h6, fun z => by omega⟩
theorem c_dayA (hA : kz_I A) (hE : kz_E A σ) {w v : Int} (hw : kp_in w) (hv : kp_inL v) : kp_ok (kf_X9_day w v σ) (fun r σ' => r = (kz_oDay A.1 w v).1 ∧ kz_New A (kz_oDay A.1 w v).2 σ σ') := by
  have hH := hE.1
  unfold kf_X9_day kz_oDay
  refine k_ls hw (by decide) (fun c => k_some ⟨by rw [if_pos (by omega)], by rw [if_pos (by omega)]; exact ⟨hE, z_Fh0⟩⟩) (fun c => k_ls hw (by decide) (fun d => k_ck ⟨hv, by decide⟩ ?_) (fun d => k_some ⟨by rw [if_pos (by omega)], by rw [if_pos (by omega)]; exact ⟨hE, z_Fh0⟩⟩))
  rw [if_neg (by omega)]
  refine k_ls z_cmpin (by decide) (fun e => k_some ?_) (fun e => k_ck ⟨hv, by decide⟩ (k_ls (by decide) z_cmpin (fun g => k_some ?_) (fun g => ?_)))
  · rw [if_pos (z_cmp.mp e)]; exact ⟨rfl, hE, z_Fh0⟩
  · have hge : 1099511627776 ≤ v := by
      unfold kp_cmp at g
      repeat' split at g
      all_goals omega
    rw [if_neg (by omega), if_pos hge]; exact ⟨rfl, hE, z_Fh0⟩
  · have e' : 0 ≤ v := Int.not_lt.mp (fun h => e (z_cmp.mpr h))
    have g' : v < 1099511627776 := by
      unfold kp_cmp at g
      repeat' split at g
      all_goals omega
    rw [if_neg (by omega), if_neg (by omega)]
    have hd := hH.2.1 w (by omega) d
    have hcell : kp_bcL (σ 2 (Int.toNat w)) = kp_sm (fun t => A.1 (Int.toNat (130 + 40 * w + t))) 40 := by
      rw [z_bcL (show kz_in40 (σ 2 (Int.toNat w)) from hd.1)]
      exact kp_sm_cong (fun t t0 t1 => hd.2 t t0 t1)
    refine k_ck ⟨by omega, d⟩ (k_lt (k_ck ⟨by omega, d⟩ (k_lt (k_lt (k_some ⟨hcell, z_E0 ?_ z_up0e, z_Fh6 (z_FhU (by omega) z_Fh0)⟩)))))
    refine z_RhF (fun a h1 h2 => kp_up_ne (by omega)) (σ := kp_up σ 2 (Int.toNat w) v) ?_
    obtain ⟨h1, h2, h3, h4, h5, h6, h7, h8⟩ := hH
    have es : ∀ i : Int, 0 ≤ i → ¬ (130 + 40 * w ≤ i ∧ i < 130 + 40 * w + 40) → kz_dyN A.1 w v 40 (Int.toNat i) = A.1 (Int.toNat i) := fun i i0 hi => by rw [z_dyv (by omega) i0, if_neg (by omega)]
    have el : ∀ i : Nat, i < 5 → kz_dyN A.1 w v 40 i = A.1 i := fun i hi => by
      have := es (i : Int) (by omega) (by omega)
      rw [Int.toNat_natCast] at this; exact this
    refine ⟨?_, ?_, z_RtS (el 3 (by decide)) hA.1.1.2.2.2.1.2 (fun i i0 i1 => es i (by omega) (by omega)) (z_RtF (kp_up_ne (by decide)) (kp_up_ne (by decide)) h3), z_RuS hA.1.1.2.2.2.2.1 (el 4 (by decide)) (fun i i0 => es i (by omega) (by omega)) (z_RuF (kp_up_ne (by decide)) h4), z_RcF (fun a q1 q2 => kp_up_ne (by omega)) h5, z_RgF (kp_up_ne (by decide)) h6, z_RnS (el 0 (by decide)) hA.1.1.1.2 (fun i i0 i1 => es i (by omega) (by omega)) (z_RnF (kp_up_ne (by decide)) (kp_up_ne (by decide)) (kp_up_ne (by decide)) (kp_up_ne (by decide)) (kp_up_ne (by decide)) h7), z_RbS (el 2 (by decide)) hA.1.1.2.2.1.2 (fun i i0 i1 => es i (by omega) (by omega)) (z_RbF (kp_up_ne (by decide)) (kp_up_ne (by decide)) (kp_up_ne (by decide)) (kp_up_ne (by decide)) h8)⟩
    · rw [kp_up_ne (by decide)]; exact h1.trans (el 1 (by decide)).symm
    · intro u u0 u1
      show kz_in40 (kp_up σ 2 (Int.toNat w) v 2 (Int.toNat u)) ∧ ∀ t, 0 ≤ t → t < 40 → kp_up σ 2 (Int.toNat w) v 2 (Int.toNat u) / 2 ^ (Int.toNat t) % 2 = kz_dyN A.1 w v 40 (Int.toNat (130 + 40 * u + t))
      rw [kp_up_eq]
      by_cases hu : u = w
      · rw [if_pos (by rw [hu])]
        refine ⟨⟨e', g'⟩, fun t t0 t1 => ?_⟩
        rw [z_dyv (by omega) (by omega), if_pos (by omega), show 130 + 40 * u + t - (130 + 40 * w) = t by omega]
      · rw [if_neg (by omega)]
        refine ⟨(h2 u u0 u1).1, fun t t0 t1 => ?_⟩
        rw [es _ (by omega) (by omega)]; exact (h2 u u0 u1).2 t t0 t1
theorem c_stillA (hA : kz_I A) (hE : kz_E A σ) {n b : Int} (hn : kp_in n) (hb : kp_in b) : kp_ok (kf_X9_still n b σ) (fun r σ' => r = (kz_oStill A.1 n b).1 ∧ kz_New A (kz_oStill A.1 n b).2 σ σ') := by
  have h10 := hA.1.1.1
  have hH := hE.1
  have hs := z_still hA hH
  unfold kf_X9_still kz_oStill
  refine k_e (c_has hA hH hn) (k_b (fun c => k_some ?_) (fun c => k_ck ⟨⟨by omega, by omega⟩, by omega, by omega⟩ (k_lt ?_)))
  · rw [if_pos c]; exact ⟨rfl, hE, z_Fh0⟩
  rw [if_neg (fun z => z c), kz_and1]
  have hN := (show kz_Rn 11 A.1 σ from hH.2.2.2.2.2.2.1)
  obtain ⟨g1, g2, g3, g4, g5⟩ := hN.2.2 n c.1 c.2
  have es : ∀ (x i : Int), 0 ≤ i → ¬ i = 290 + n → kz_set A.1 (Int.toNat (290 + n)) x (Int.toNat i) = A.1 (Int.toNat i) := fun x i i0 hi => by rw [z_setI (by omega) i0, if_neg hi]
  have el : ∀ (x : Int) (i : Nat), i < 5 → kz_set A.1 (Int.toNat (290 + n)) x i = A.1 i := fun x i hi => z_setN (by omega) (by omega)
  have go : ∀ (m x : Int), (0 ≤ m ∧ m < 2 ^ (Int.toNat (A.1 0))) → (∀ o : Int, 0 ≤ o → o < A.1 0 → kz_t m (Int.toNat o) = if o = n then decide (x = 1) else kz_t (σ 11 4) (Int.toNat o)) → (x = 0 ∨ x = 1) → kz_New A (kz_set A.1 (Int.toNat (290 + n)) x) σ (kp_up σ 11 4 m) := by
    intro m x hm hb hx
    refine ⟨⟨?_, ?_, fun z => ?_⟩, z_FhU (by omega) z_Fh0⟩
    · obtain ⟨h1, h2, h3, h4, h5, h6, h7, h8⟩ := hH
      refine ⟨?_, z_RdS (fun i i0 i1 => es x i (by omega) (by omega)) (z_RdF (kp_up_ne (by decide)) h2), z_RtS (el x 3 (by decide)) hA.1.1.2.2.2.1.2 (fun i i0 i1 => es x i (by omega) (by omega)) (z_RtF (kp_up_ne (by decide)) (kp_up_ne (by decide)) h3), z_RuS hA.1.1.2.2.2.2.1 (el x 4 (by decide)) (fun i i0 => es x i (by omega) (by omega)) (z_RuF (kp_up_ne (by decide)) h4), z_RcF (fun a q1 q2 => kp_up_ne (by omega)) h5, z_RgF (kp_up_ne (by decide)) h6, ?_, z_RbS (el x 2 (by decide)) hA.1.1.2.2.1.2 (fun i i0 i1 => es x i (by omega) (by omega)) (z_RbF (kp_up_ne (by decide)) (kp_up_ne (by decide)) (kp_up_ne (by decide)) (kp_up_ne (by decide)) h8)⟩
      · rw [kp_up_ne (by decide)]; exact h1.trans (el x 1 (by decide)).symm
      · show kz_Rn 11 (kz_set A.1 (Int.toNat (290 + n)) x) (kp_up σ 11 4 m)
        unfold kz_Rn
        rw [el x 0 (by decide), kp_up_eq, if_neg (by decide), z_up0e, kp_up_ne (by decide), kp_up_ne (by decide), kp_up_ne (by decide), kp_up_ne (by decide)]
        refine ⟨h7.1, hm, fun o o0 o1 => ?_⟩
        obtain ⟨q1, q2, q3, q4, q5⟩ := h7.2.2 o o0 o1
        rw [es x (250 + o) (by omega) (by omega), es x (260 + o) (by omega) (by omega), es x (270 + o) (by omega) (by omega), es x (280 + o) (by omega) (by omega), z_setI (by omega) (by omega)]
        refine ⟨?_, q2, q3, q4, q5⟩
        rw [kz_bit01, hb o o0 o1]
        by_cases h : o = n
        · rw [if_pos h, if_pos (c := 290 + o = 290 + n) (by rw [h])]
          rcases hx with rfl | rfl <;> rfl
        · rw [if_neg h, if_neg (c := 290 + o = 290 + n) (by omega), ← kz_bit01]; exact q1
    · rw [kp_up_ne (by decide)]; exact hE.2.1
    · rw [kp_up_ne (by decide)] at z
      have hS := hE.2.2 z
      have hS' : kz_Sn A 0 0 (kp_up σ 11 4 m) := by
        obtain ⟨a1, a2, a3⟩ := hS
        refine ⟨?_, fun i i0 i1 => z_SrF (kp_up_ne (by decide)) (kp_up_ne (by decide)) (kp_up_ne (by decide)) (a2 i i0 i1), fun i i0 i1 t t0 t1 => by rw [kp_up_ne (by decide)]; exact a3 i i0 i1 t t0 t1⟩
        unfold kz_Wm; rw [kp_up_ne (by decide)]; exact a1
      exact z_agSn (s := A.1) (s' := kz_set A.1 (Int.toNat (290 + n)) x) (cls := A.2) hA.1.1.2.2.2.2.1 ⟨el x 4 (by decide), fun i i0 i1 => es x i (by omega) (by omega)⟩ (el x 0 (by decide)) (fun o o0 o1 => ⟨es x _ (by omega) (by omega), es x _ (by omega) (by omega), es x _ (by omega) (by omega), es x _ (by omega) (by omega)⟩) (by decide) hS'
  have p10 := z_p10 h10.1 (c := 10) (by omega)
  have bigs : ∀ i : Nat, Int.toNat (A.1 0) ≤ i → kz_t (σ 11 4) i = false := fun i hi => kz_big hN.2.1 hi
  refine k_eq hb (by decide) (fun d => k_ck ⟨c.1, by omega⟩ (k_lt (k_some ⟨g1, ?_⟩))) (fun d => k_ck ⟨c.1, by omega⟩ (k_lt (k_some ⟨g1, ?_⟩)))
  · rw [if_pos d]
    refine go _ 0 ?_ (fun o o0 o1 => ?_) (Or.inl rfl)
    · exact kz_small32 (k := Int.toNat (A.1 0)) (by omega) (kz_and_in _ _) (fun i h1 h2 => by rw [kz_and h2, bigs i h1, Bool.false_and])
    · rw [kz_and (by omega), kz_xor (by omega), kz_m1, kz_pw1, Bool.xor_true]
      by_cases h : o = n
      · rw [if_pos h, h, decide_eq_true rfl]; simp
      · rw [if_neg h, decide_eq_false (by omega)]; simp
  · rw [if_neg d]
    refine go _ 1 ?_ (fun o o0 o1 => ?_) (Or.inr rfl)
    · exact kz_small32 (k := Int.toNat (A.1 0)) (by omega) (kz_or_in _ _) (fun i h1 h2 => by rw [kz_or h2, bigs i h1, kz_pw1, decide_eq_false (by omega)]; rfl)
    · rw [kz_or (by omega), kz_pw1]
      by_cases h : o = n
      · rw [if_pos h, h, decide_eq_true rfl]; simp
      · rw [if_neg h, decide_eq_false (by omega)]; simp
end CN
