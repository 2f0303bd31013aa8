-- the class: feed, noise, note, clear
section CP
variable {A : kz_A} {σ : kp_W}
/-- the sounds stand after a change of home and of state that they do not hang on -/
theorem z_newS {s' : Nat → Int} {σ' : kp_W} (hA : kz_I A) (hE : kz_E A σ) (hH : kz_H (s', A.2) σ') (e0 : σ' 0 = σ 0) (e : ∀ a, 49 ≤ a → a ≤ 53 → σ' a = σ a) (hag : kz_ag A.1 s') (hs0 : s' 0 = A.1 0) (ho : ∀ o, 0 ≤ o → o < A.1 0 → kz_ao A.1 s' o) : kz_E (s', A.2) σ' := by
  refine ⟨hH, by rw [e0]; exact hE.2.1, fun z => ?_⟩
  rw [e0] at z
  obtain ⟨a1, a2, a3⟩ := hE.2.2 z
  refine z_agSn (s := A.1) (cls := A.2) hA.1.1.2.2.2.2.1 hag hs0 ho (by decide) ⟨?_, fun i i0 i1 => z_SrF (e _ (by omega) (by omega)) (e _ (by omega) (by omega)) (e _ (by omega) (by omega)) (a2 i i0 i1), fun i i0 i1 t t0 t1 => by rw [e 52 (by omega) (by omega)]; exact a3 i i0 i1 t t0 t1⟩
  unfold kz_Wm; rw [e 49 (by omega) (by omega)]; exact a1
theorem c_feedA (hA : kz_I A) (hE : kz_E A σ) {v n : Int} (hv : kp_inL v) (hn : kp_in n) : kp_ok (kf_X9_feed v n σ) (fun r σ' => r = (kz_oFeed A.1 v n).1 ∧ kz_New A (kz_oFeed A.1 v n).2 σ σ') := by
  have h3 := hA.1.1.2.2.2.1
  have hH := hE.1
  have hT : kz_Rt 3 A.1 σ := hH.2.2.1
  unfold kf_X9_feed kz_oFeed
  rw [hT.1]
  refine k_ls hn (by decide) (fun c => k_some ⟨by rw [if_pos (by omega)], by rw [if_pos (by omega)]; exact ⟨hE, z_Fh0⟩⟩) (fun c => k_ls (by decide) hn (fun d => k_some ⟨by rw [if_pos (by omega)], by rw [if_pos (by omega)]; exact ⟨hE, z_Fh0⟩⟩) (fun d => ?_))
  rw [if_neg (by omega)]
  refine k_ls (by decide) ⟨by omega, by omega⟩ (fun e => k_some ⟨by rw [if_pos e], by rw [if_pos e]; exact ⟨hE, z_Fh0⟩⟩) (fun e => k_lt ?_)
  rw [if_neg e]
  have loop : ∀ (m : Nat) (k : Nat) (σ2 : kp_W), (k : Int) ≤ n → n - (k : Int) < m → (∀ a, a ≠ 3 → a ≠ 4 → σ2 a = σ a) → σ2 3 1 = A.1 3 + (k : Int) → (∀ i, 0 ≤ i → i < A.1 3 + (k : Int) → σ2 4 (Int.toNat i) = kz_fdN A.1 v n k (Int.toNat (10 + i))) → kp_ok (kl_X9_feed_39 v m (n - 1 - (k : Int)) σ2 (fun (σ_2 : kp_W) => some ((σ_2 3 1), σ_2))) (fun r σ' => r = A.1 3 + n ∧ kz_New A (kz_fdN A.1 v n (Int.toNat n)) σ σ') := by
    intro m
    induction m with
    | zero => intro k σ2 h0 h1; omega
    | succ m ih =>
      intro k σ2 h0 h1 hF h31 hv4
      rw [kl_X9_feed_39]
      refine k_ls ⟨by omega, by omega⟩ (by decide) (fun hx => k_some ?_) (fun hx => k_ck ⟨hv, by omega, by omega⟩ (k_bd ?_))
      · have hk : (k : Int) = n := by omega
        have hkn : Int.toNat n = k := by omega
        rw [hkn]
        refine ⟨by omega, ?_⟩
        have es : ∀ i : Int, 0 ≤ i → ¬ i = 3 → ¬ (10 ≤ i ∧ i < 130) → kz_fdN A.1 v n k (Int.toNat i) = A.1 (Int.toNat i) := fun i i0 i3 hi => by rw [z_fdv h3.1 i0 i3, if_neg (by omega)]
        have el : ∀ i : Nat, i < 5 → i ≠ 3 → kz_fdN A.1 v n k i = A.1 i := fun i hi hi3 => by
          have := es (i : Int) (by omega) (by omega) (by omega)
          rw [Int.toNat_natCast] at this; exact this
        obtain ⟨h1', h2', h3', h4', h5', h6', h7', h8'⟩ := hH
        refine ⟨z_newS hA hE ⟨?_, z_RdS (fun i i0 i1 => es i (by omega) (by omega) (by omega)) (z_RdF (hF _ (by decide) (by decide)) h2'), ⟨?_, ?_⟩, z_RuS hA.1.1.2.2.2.2.1 (el 4 (by decide) (by decide)) (fun i i0 => es i (by omega) (by omega) (by omega)) (z_RuF (hF _ (by decide) (by decide)) h4'), z_RcF (fun a q1 q2 => hF a (by omega) (by omega)) h5', z_RgF (hF _ (by decide) (by decide)) h6', z_RnS (el 0 (by decide) (by decide)) hA.1.1.1.2 (fun i i0 i1 => es i (by omega) (by omega) (by omega)) (z_RnF (hF _ (by decide) (by decide)) (hF _ (by decide) (by decide)) (hF _ (by decide) (by decide)) (hF _ (by decide) (by decide)) (hF _ (by decide) (by decide)) h7'), z_RbS (el 2 (by decide) (by decide)) hA.1.1.2.2.1.2 (fun i i0 i1 => es i (by omega) (by omega) (by omega)) (z_RbF (hF _ (by decide) (by decide)) (hF _ (by decide) (by decide)) (hF _ (by decide) (by decide)) (hF _ (by decide) (by decide)) h8')⟩ (hF 0 (by decide) (by decide)) (fun a a0 a1 => hF a (by omega) (by omega)) ⟨el 4 (by decide) (by decide), fun i i0 i1 => es i (by omega) (by omega) (by omega)⟩ (el 0 (by decide) (by decide)) (fun o o0 o1 => ⟨es _ (by omega) (by omega) (by omega), es _ (by omega) (by omega) (by omega), es _ (by omega) (by omega) (by omega), es _ (by omega) (by omega) (by omega)⟩), ⟨fun a a0 a1 a2 => hF a (by omega) (by omega), fun j _ => by rw [hF 0 (by decide) (by decide)]⟩⟩
        · rw [hF 1 (by decide) (by decide)]; exact h1'.trans (el 1 (by decide) (by decide)).symm
        · show σ2 3 1 = kz_fdN A.1 v n k 3
          rw [z_fd3 h3.1]; exact h31
        · show ∀ i, 0 ≤ i → i < kz_fdN A.1 v n k 3 → σ2 4 (Int.toNat i) = kz_fdN A.1 v n k (Int.toNat (10 + i))
          rw [z_fd3 h3.1]; exact hv4
      · unfold kf_X7_add
        rw [h31, kz_and255]
        refine k_ls ⟨by omega, by omega⟩ (by decide) (fun z => by omega) (fun _ => k_ls ⟨by omega, by omega⟩ (by decide) (fun _ => k_ck ⟨by omega, by omega⟩ (k_lt (k_lt (k_some (k_lt ?_))))) (fun z => by omega))
        have := ih (k + 1) (kp_up (kp_up σ2 4 (Int.toNat (A.1 3 + (k : Int))) (v / 2 ^ (Int.toNat (8 * (n - 1 - (k : Int)))) % 256)) 3 1 (kp_up σ2 4 (Int.toNat (A.1 3 + (k : Int))) (v / 2 ^ (Int.toNat (8 * (n - 1 - (k : Int)))) % 256) 3 1 + 1)) (by omega) (by omega) (fun a a3 a4 => by rw [kp_up_ne a3, kp_up_ne a4]; exact hF a a3 a4) (by rw [z_up0e, kp_up_ne (by decide), h31]; omega) (fun i i0 i1 => ?_)
        · rw [show n - 1 - (k : Int) + -1 = n - 1 - ((k + 1 : Nat) : Int) by omega]
          exact this
        · rw [kp_up_ne (by decide), kp_up_eq, z_fdv h3.1 (by omega) (by omega)]
          by_cases h : i = A.1 3 + (k : Int)
          · rw [if_pos (by rw [h]), if_pos (by omega), h, show 10 + (A.1 3 + (k : Int)) - (10 + A.1 3) = (k : Int) by omega]
          · rw [if_neg (by omega), hv4 i i0 (by omega), z_fdv h3.1 (by omega) (by omega)]
            by_cases q : 10 + A.1 3 ≤ 10 + i ∧ 10 + i < 10 + A.1 3 + (k : Int)
            · rw [if_pos q, if_pos (by omega)]
            · rw [if_neg q, if_neg (by omega)]
  have := loop kp_fu 0 σ (by omega) (kp_fu_big (by omega)) (fun _ _ _ => rfl) (by rw [hT.1]; omega) (fun i i0 i1 => hT.2 i i0 (by omega))
  rw [show n - 1 - ((0 : Nat) : Int) = n - 1 by omega] at this
  exact this
theorem c_clearA (hA : kz_I A) (hE : kz_E A σ) : kp_ok (kf_X9_clear σ) (fun r σ' => r = (kz_oClear A.1).1 ∧ kz_New A (kz_oClear A.1).2 σ σ') := by
  have hH := hE.1
  obtain ⟨h1, h2, h3, h4, h5, h6, h7, h8⟩ := hH
  have es : ∀ i : Int, 0 ≤ i → ¬ i = 2 → kz_set A.1 2 0 (Int.toNat i) = A.1 (Int.toNat i) := fun i i0 hi => z_setT (by omega) i0
  have el : ∀ i : Nat, i ≠ 2 → kz_set A.1 2 0 i = A.1 i := fun i hi => by rw [z_set, if_neg hi]
  unfold kf_X9_clear
  refine k_lt (k_lt (k_some ⟨h8.1, z_newS hA hE ⟨?_, z_RdS (fun i i0 i1 => es i (by omega) (by omega)) (z_RdF (kp_up_ne (by decide)) h2), z_RtS (el 3 (by decide)) hA.1.1.2.2.2.1.2 (fun i i0 i1 => es i (by omega) (by omega)) (z_RtF (kp_up_ne (by decide)) (kp_up_ne (by decide)) h3), z_RuS hA.1.1.2.2.2.2.1 (el 4 (by decide)) (fun i i0 => es i (by omega) (by omega)) (z_RuF (kp_up_ne (by decide)) h4), z_RcF (fun a q1 q2 => kp_up_ne (by omega)) h5, z_RgF (kp_up_ne (by decide)) h6, z_RnS (el 0 (by decide)) hA.1.1.1.2 (fun i i0 i1 => es i (by omega) (by omega)) (z_RnF (kp_up_ne (by decide)) (kp_up_ne (by decide)) (kp_up_ne (by decide)) (kp_up_ne (by decide)) (kp_up_ne (by decide)) h7), ⟨z_up0e, fun r r0 r1 => ?_⟩⟩ (kp_up_ne (by decide)) (fun a a0 a1 => kp_up_ne (by omega)) ⟨el 4 (by decide), fun i i0 i1 => es i (by omega) (by omega)⟩ (el 0 (by decide)) (fun o o0 o1 => ⟨es _ (by omega) (by omega), es _ (by omega) (by omega), es _ (by omega) (by omega), es _ (by omega) (by omega)⟩), z_FhU (by omega) z_Fh0⟩))
  · rw [kp_up_ne (by decide)]; exact h1.trans (el 1 (by decide)).symm
  · have : kz_set A.1 2 0 2 = 0 := by rw [z_set, if_pos rfl]
    have r1' : r < kz_set A.1 2 0 2 := r1
    omega
end CP
