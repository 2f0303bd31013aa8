-- the class: noise, note
section CQ
variable {A : kz_A} {σ : kp_W}
theorem c_noteA (hA : kz_I A) (hE : kz_E A σ) {p t n : Int} (hp : kp_in p) (ht : kp_in t) (hn : kp_in n) : kp_ok (kf_X9_note p t n σ) (fun r σ' => r = (kz_oNote A.1 p t n).1 ∧ kz_New A (kz_oNote A.1 p t n).2 σ σ') := by
  have h12 := hA.1.1.2.2.1
  have hH := hE.1
  obtain ⟨h1, h2, h3, h4, h5, h6, h7, h8⟩ := hH
  have e3 : σ 16 3 = A.1 2 := h8.1
  unfold kf_X9_note kz_oNote
  refine k_e (c_isPlace hp) (k_b (fun c => k_some ⟨by rw [if_pos c], by rw [if_pos c]; exact ⟨hE, z_Fh0⟩⟩) (fun c => k_e (c_isMinute ht) (k_b (fun d => k_some ⟨by rw [if_neg (fun z => z c), if_pos d], by rw [if_neg (fun z => z c), if_pos d]; exact ⟨hE, z_Fh0⟩⟩) (fun d => ?_))))
  rw [if_neg (fun z => z c), if_neg (fun z => z d), e3]
  refine k_ls hn (by decide) (fun e => k_some ⟨by rw [if_pos (by omega)], by rw [if_pos (by omega)]; exact ⟨hE, z_Fh0⟩⟩) (fun e => k_ls (by decide) hn (fun f => k_some ⟨by rw [if_pos (by omega)], by rw [if_pos (by omega)]; exact ⟨hE, z_Fh0⟩⟩) (fun f => ?_))
  rw [if_neg (by omega)]
  refine k_ls ⟨by omega, by omega⟩ (by decide) (fun g => k_bd ?_) (fun g => k_some ⟨by rw [if_pos (by omega)], by rw [if_pos (by omega)]; exact ⟨hE, z_Fh0⟩⟩)
  rw [if_neg (by omega)]
  unfold kf_X4_add
  rw [e3]
  refine k_ls ⟨by omega, by omega⟩ (by decide) (fun z => by omega) (fun _ => k_ls ⟨by omega, by omega⟩ (by decide) (fun _ => k_ck ⟨by omega, by omega⟩ (k_lt ?_)) (fun z => by omega))
  simp only [kp_up_ne (show (16 : Nat) ≠ 17 by decide), kp_up_ne (show (16 : Nat) ≠ 18 by decide), kp_up_ne (show (16 : Nat) ≠ 19 by decide), e3]
  refine k_ck ⟨by omega, by omega⟩ (k_lt ?_)
  simp only [kp_up_ne (show (16 : Nat) ≠ 17 by decide), kp_up_ne (show (16 : Nat) ≠ 18 by decide), kp_up_ne (show (16 : Nat) ≠ 19 by decide), e3]
  refine k_ck ⟨by omega, by omega⟩ (k_lt ?_)
  simp only [kp_up_ne (show (16 : Nat) ≠ 17 by decide), kp_up_ne (show (16 : Nat) ≠ 18 by decide), kp_up_ne (show (16 : Nat) ≠ 19 by decide), e3]
  refine k_lt (k_some (k_some ?_))
  generalize hs' : kz_set (kz_set (kz_set (kz_set A.1 (Int.toNat (300 + A.1 2)) p) (Int.toNat (312 + A.1 2)) t) (Int.toNat (324 + A.1 2)) n) 2 (A.1 2 + 1) = s'
  have es : ∀ i : Int, 0 ≤ i → ¬ i = 2 → ¬ i = 300 + A.1 2 → ¬ i = 312 + A.1 2 → ¬ i = 324 + A.1 2 → s' (Int.toNat i) = A.1 (Int.toNat i) := fun i i0 a1 a2 a3 a4 => by
    rw [← hs', z_setT (by omega) i0, z_setI (by omega) i0, if_neg a4, z_setI (by omega) i0, if_neg a3, z_setI (by omega) i0, if_neg a2]
  have el : ∀ i : Nat, i < 5 → i ≠ 2 → s' i = A.1 i := fun i hi h2 => by
    have := es (i : Int) (by omega) (by omega) (by omega) (by omega) (by omega)
    rw [Int.toNat_natCast] at this; exact this
  have s2 : s' 2 = A.1 2 + 1 := by rw [← hs', z_set, if_pos rfl]
  have b1 : ∀ r : Int, 0 ≤ r → s' (Int.toNat (300 + r)) = if r = A.1 2 then p else s' (Int.toNat (300 + r)) := fun r r0 => by
    by_cases h : r = A.1 2
    · rw [if_pos h, ← hs', h, z_setT (by omega) (by omega), z_setI (by omega) (by omega), if_neg (by omega), z_setI (by omega) (by omega), if_neg (by omega), z_setI (by omega) (by omega), if_pos rfl]
    · rw [if_neg h]
  have b2 : ∀ r : Int, 0 ≤ r → s' (Int.toNat (312 + r)) = if r = A.1 2 then t else s' (Int.toNat (312 + r)) := fun r r0 => by
    by_cases h : r = A.1 2
    · rw [if_pos h, ← hs', h, z_setT (by omega) (by omega), z_setI (by omega) (by omega), if_neg (by omega), z_setI (by omega) (by omega), if_pos rfl]
    · rw [if_neg h]
  have b3 : ∀ r : Int, 0 ≤ r → s' (Int.toNat (324 + r)) = if r = A.1 2 then n else s' (Int.toNat (324 + r)) := fun r r0 => by
    by_cases h : r = A.1 2
    · rw [if_pos h, ← hs', h, z_setT (by omega) (by omega), z_setI (by omega) (by omega), if_pos rfl]
    · rw [if_neg h]
  refine ⟨?_, ?_⟩
  · rw [z_up0e]
  generalize hτ : kp_up (kp_up (kp_up (kp_up σ 17 (Int.toNat (A.1 2)) p) 18 (Int.toNat (A.1 2)) t) 19 (Int.toNat (A.1 2)) n) 16 3 (A.1 2 + 1) = τ
  have F : ∀ a, ¬ (16 ≤ a ∧ a ≤ 19) → τ a = σ a := fun a ha => by rw [← hτ, kp_up_ne (by omega), kp_up_ne (by omega), kp_up_ne (by omega), kp_up_ne (by omega)]
  have t16 : τ 16 3 = A.1 2 + 1 := by rw [← hτ, z_up0e]
  have t17 : ∀ j, τ 17 j = if j = Int.toNat (A.1 2) then p else σ 17 j := fun j => by rw [← hτ, kp_up_ne (by decide), kp_up_ne (by decide), kp_up_ne (by decide), kp_up_eq]
  have t18 : ∀ j, τ 18 j = if j = Int.toNat (A.1 2) then t else σ 18 j := fun j => by rw [← hτ, kp_up_ne (by decide), kp_up_ne (by decide), kp_up_eq, kp_up_ne (by decide)]
  have t19 : ∀ j, τ 19 j = if j = Int.toNat (A.1 2) then n else σ 19 j := fun j => by rw [← hτ, kp_up_ne (by decide), kp_up_eq, kp_up_ne (by decide), kp_up_ne (by decide)]
  refine ⟨z_newS hA hE ⟨?_, z_RdS (fun i i0 i1 => es i (by omega) (by omega) (by omega) (by omega) (by omega)) (z_RdF (F _ (by omega)) h2), z_RtS (el 3 (by decide) (by decide)) hA.1.1.2.2.2.1.2 (fun i i0 i1 => es i (by omega) (by omega) (by omega) (by omega) (by omega)) (z_RtF (F _ (by omega)) (F _ (by omega)) h3), z_RuS hA.1.1.2.2.2.2.1 (el 4 (by decide) (by decide)) (fun i i0 => es i (by omega) (by omega) (by omega) (by omega) (by omega)) (z_RuF (F _ (by omega)) h4), z_RcF (fun a q1 q2 => F a (by omega)) h5, z_RgF (F _ (by omega)) h6, z_RnS (el 0 (by decide) (by decide)) hA.1.1.1.2 (fun i i0 i1 => es i (by omega) (by omega) (by omega) (by omega) (by omega)) (z_RnF (F _ (by omega)) (F _ (by omega)) (F _ (by omega)) (F _ (by omega)) (F _ (by omega)) h7), ⟨?_, fun r r0 r1 => ?_⟩⟩ (F 0 (by omega)) (fun a a0 a1 => F a (by omega)) ⟨el 4 (by decide) (by decide), fun i i0 i1 => es i (by omega) (by omega) (by omega) (by omega) (by omega)⟩ (el 0 (by decide) (by decide)) (fun o o0 o1 => ?_), ⟨fun a a0 a1 a2 => F a (by omega), fun j _ => by rw [F 0 (by omega)]⟩⟩
  · rw [F 1 (by omega)]; exact h1.trans (el 1 (by decide) (by decide)).symm
  · exact t16.trans s2.symm
  · have r1' : r < s' 2 := r1
    rw [s2] at r1'
    show τ 17 (Int.toNat r) = s' (Int.toNat (300 + r)) ∧ τ 18 (Int.toNat r) = s' (Int.toNat (312 + r)) ∧ τ 19 (Int.toNat r) = s' (Int.toNat (324 + r))
    rw [t17, t18, t19]
    by_cases h : r = A.1 2
    · rw [if_pos (by rw [h]), if_pos (by rw [h]), if_pos (by rw [h]), b1 r r0, b2 r r0, b3 r r0, if_pos h, if_pos h, if_pos h]
      exact ⟨rfl, rfl, rfl⟩
    · rw [if_neg (by omega), if_neg (by omega), if_neg (by omega), es (300 + r) (by omega) (by omega) (by omega) (by omega) (by omega), es (312 + r) (by omega) (by omega) (by omega) (by omega) (by omega), es (324 + r) (by omega) (by omega) (by omega) (by omega) (by omega)]
      exact h8.2 r r0 (by omega)
  · have h10 := hA.1.1.1
    exact ⟨es _ (by omega) (by omega) (by omega) (by omega) (by omega), es _ (by omega) (by omega) (by omega) (by omega) (by omega), es _ (by omega) (by omega) (by omega) (by omega) (by omega), es _ (by omega) (by omega) (by omega) (by omega) (by omega)⟩
theorem c_noiseA (hA : kz_I A) (hE : kz_E A σ) {k p v l : Int} (hk : kp_in k) (hp : kp_in p) (hv : kp_in v) (hl : kp_in l) : kp_ok (kf_X9_noise k p v l σ) (fun r σ' => r = (kz_oNoise A.1 k p v l).1 ∧ kz_New A (kz_oNoise A.1 k p v l).2 σ σ') := by
  have h10 := hA.1.1.1
  have hH := hE.1
  obtain ⟨h1, h2, h3, h4, h5, h6, h7, h8⟩ := hH
  have e5 : σ 11 5 = A.1 0 := h7.1
  unfold kf_X9_noise kz_oNoise
  refine k_e (c_isKind hk) (k_b (fun c => k_some ⟨by rw [if_pos c], by rw [if_pos c]; exact ⟨hE, z_Fh0⟩⟩) (fun c => k_e (c_isPlace hp) (k_b (fun d => k_some ⟨by rw [if_neg (fun z => z c), if_pos d], by rw [if_neg (fun z => z c), if_pos d]; exact ⟨hE, z_Fh0⟩⟩) (fun d => ?_))))
  rw [if_neg (fun z => z c), if_neg (fun z => z d), e5]
  refine k_ls hv (by decide) (fun e => k_some ⟨by rw [if_pos (by omega)], by rw [if_pos (by omega)]; exact ⟨hE, z_Fh0⟩⟩) (fun e => k_ls (by decide) hv (fun f => k_some ⟨by rw [if_pos (by omega)], by rw [if_pos (by omega)]; exact ⟨hE, z_Fh0⟩⟩) (fun f => ?_))
  rw [if_neg (by omega)]
  refine k_ls hl (by decide) (fun g => k_some ⟨by rw [if_pos (by omega)], by rw [if_pos (by omega)]; exact ⟨hE, z_Fh0⟩⟩) (fun g => k_ls (by decide) hl (fun g2 => k_some ⟨by rw [if_pos (by omega)], by rw [if_pos (by omega)]; exact ⟨hE, z_Fh0⟩⟩) (fun g2 => ?_))
  rw [if_neg (by omega)]
  refine k_ls ⟨by omega, by omega⟩ (by decide) (fun q => k_lt (k_bd ?_)) (fun q => k_some ⟨by rw [if_pos (by omega)], by rw [if_pos (by omega)]; exact ⟨hE, z_Fh0⟩⟩)
  rw [if_neg (by omega)]
  unfold kf_X3_add
  have e5' : kp_up σ 0 6 0 11 5 = A.1 0 := by rw [kp_up_ne (by decide)]; exact e5
  rw [e5']
  refine k_ls ⟨by omega, by omega⟩ (by decide) (fun z => by omega) (fun _ => k_ls ⟨by omega, by omega⟩ (by decide) (fun _ => k_ck ⟨by omega, by omega⟩ (k_lt ?_)) (fun z => by omega))
  simp only [kp_up_ne (show (11 : Nat) ≠ 12 by decide), kp_up_ne (show (11 : Nat) ≠ 13 by decide), kp_up_ne (show (11 : Nat) ≠ 14 by decide), kp_up_ne (show (11 : Nat) ≠ 15 by decide), e5']
  refine k_ck ⟨by omega, by omega⟩ (k_lt ?_)
  simp only [kp_up_ne (show (11 : Nat) ≠ 12 by decide), kp_up_ne (show (11 : Nat) ≠ 13 by decide), kp_up_ne (show (11 : Nat) ≠ 14 by decide), kp_up_ne (show (11 : Nat) ≠ 15 by decide), e5']
  refine k_ck ⟨by omega, by omega⟩ (k_lt ?_)
  simp only [kp_up_ne (show (11 : Nat) ≠ 12 by decide), kp_up_ne (show (11 : Nat) ≠ 13 by decide), kp_up_ne (show (11 : Nat) ≠ 14 by decide), kp_up_ne (show (11 : Nat) ≠ 15 by decide), e5']
  refine k_ck ⟨by omega, by omega⟩ (k_lt ?_)
  simp only [kp_up_ne (show (11 : Nat) ≠ 12 by decide), kp_up_ne (show (11 : Nat) ≠ 13 by decide), kp_up_ne (show (11 : Nat) ≠ 14 by decide), kp_up_ne (show (11 : Nat) ≠ 15 by decide), e5']
  refine k_lt (k_some (k_some ⟨rfl, ?_⟩))
  generalize hs' : kz_set (kz_set (kz_set (kz_set (kz_set (kz_set A.1 (Int.toNat (250 + A.1 0)) k) (Int.toNat (260 + A.1 0)) p) (Int.toNat (270 + A.1 0)) v) (Int.toNat (280 + A.1 0)) l) (Int.toNat (290 + A.1 0)) 0) 0 (A.1 0 + 1) = s'
  have es : ∀ i : Int, 0 ≤ i → ¬ i = 0 → ¬ i = 250 + A.1 0 → ¬ i = 260 + A.1 0 → ¬ i = 270 + A.1 0 → ¬ i = 280 + A.1 0 → ¬ i = 290 + A.1 0 → s' (Int.toNat i) = A.1 (Int.toNat i) := fun i i0 a1 a2 a3 a4 a5 a6 => by
    rw [← hs', z_setT (by omega) i0, z_setI (by omega) i0, if_neg a6, z_setI (by omega) i0, if_neg a5, z_setI (by omega) i0, if_neg a4, z_setI (by omega) i0, if_neg a3, z_setI (by omega) i0, if_neg a2]
  have el : ∀ i : Nat, i < 5 → i ≠ 0 → s' i = A.1 i := fun i hi h2 => by
    have := es (i : Int) (by omega) (by omega) (by omega) (by omega) (by omega) (by omega) (by omega)
    rw [Int.toNat_natCast] at this; exact this
  have s0 : s' 0 = A.1 0 + 1 := by rw [← hs', z_set, if_pos rfl]
  have n5 : s' (Int.toNat (290 + A.1 0)) = 0 := by rw [← hs', z_setT (by omega) (by omega), z_setI (by omega) (by omega), if_pos rfl]
  have n4 : s' (Int.toNat (280 + A.1 0)) = l := by rw [← hs', z_setT (by omega) (by omega), z_setI (by omega) (by omega), if_neg (by omega), z_setI (by omega) (by omega), if_pos rfl]
  have n3 : s' (Int.toNat (270 + A.1 0)) = v := by rw [← hs', z_setT (by omega) (by omega), z_setI (by omega) (by omega), if_neg (by omega), z_setI (by omega) (by omega), if_neg (by omega), z_setI (by omega) (by omega), if_pos rfl]
  have n2 : s' (Int.toNat (260 + A.1 0)) = p := by rw [← hs', z_setT (by omega) (by omega), z_setI (by omega) (by omega), if_neg (by omega), z_setI (by omega) (by omega), if_neg (by omega), z_setI (by omega) (by omega), if_neg (by omega), z_setI (by omega) (by omega), if_pos rfl]
  have n1 : s' (Int.toNat (250 + A.1 0)) = k := by rw [← hs', z_setT (by omega) (by omega), z_setI (by omega) (by omega), if_neg (by omega), z_setI (by omega) (by omega), if_neg (by omega), z_setI (by omega) (by omega), if_neg (by omega), z_setI (by omega) (by omega), if_neg (by omega), z_setI (by omega) (by omega), if_pos rfl]
  generalize hτ : kp_up (kp_up (kp_up (kp_up (kp_up (kp_up σ 0 6 0) 12 (Int.toNat (A.1 0)) k) 13 (Int.toNat (A.1 0)) p) 14 (Int.toNat (A.1 0)) v) 15 (Int.toNat (A.1 0)) l) 11 5 (A.1 0 + 1) = τ
  have F : ∀ a, ¬ a = 0 → ¬ (11 ≤ a ∧ a ≤ 15) → τ a = σ a := fun a a0 ha => by rw [← hτ, kp_up_ne (by omega), kp_up_ne (by omega), kp_up_ne (by omega), kp_up_ne (by omega), kp_up_ne (by omega), kp_up_ne (by omega)]
  have t0 : ∀ j, τ 0 j = kp_up σ 0 6 0 0 j := fun j => by rw [← hτ, kp_up_ne (by decide), kp_up_ne (by decide), kp_up_ne (by decide), kp_up_ne (by decide), kp_up_ne (by decide)]
  have t11 : ∀ j, τ 11 j = if j = 5 then A.1 0 + 1 else σ 11 j := fun j => by rw [← hτ, kp_up_eq, kp_up_ne (by decide), kp_up_ne (by decide), kp_up_ne (by decide), kp_up_ne (by decide), kp_up_ne (by decide)]
  have t12 : ∀ j, τ 12 j = if j = Int.toNat (A.1 0) then k else σ 12 j := fun j => by rw [← hτ, kp_up_ne (by decide), kp_up_ne (by decide), kp_up_ne (by decide), kp_up_ne (by decide), kp_up_eq, kp_up_ne (by decide)]
  have t13 : ∀ j, τ 13 j = if j = Int.toNat (A.1 0) then p else σ 13 j := fun j => by rw [← hτ, kp_up_ne (by decide), kp_up_ne (by decide), kp_up_ne (by decide), kp_up_eq, kp_up_ne (by decide), kp_up_ne (by decide)]
  have t14 : ∀ j, τ 14 j = if j = Int.toNat (A.1 0) then v else σ 14 j := fun j => by rw [← hτ, kp_up_ne (by decide), kp_up_ne (by decide), kp_up_eq, kp_up_ne (by decide), kp_up_ne (by decide), kp_up_ne (by decide)]
  have t15 : ∀ j, τ 15 j = if j = Int.toNat (A.1 0) then l else σ 15 j := fun j => by rw [← hτ, kp_up_ne (by decide), kp_up_eq, kp_up_ne (by decide), kp_up_ne (by decide), kp_up_ne (by decide), kp_up_ne (by decide)]
  refine ⟨z_E0 ⟨?_, z_RdS (fun i i0 i1 => es i (by omega) (by omega) (by omega) (by omega) (by omega) (by omega) (by omega)) (z_RdF (F _ (by omega) (by omega)) h2), z_RtS (el 3 (by decide) (by decide)) hA.1.1.2.2.2.1.2 (fun i i0 i1 => es i (by omega) (by omega) (by omega) (by omega) (by omega) (by omega) (by omega)) (z_RtF (F _ (by omega) (by omega)) (F _ (by omega) (by omega)) h3), z_RuS hA.1.1.2.2.2.2.1 (el 4 (by decide) (by decide)) (fun i i0 => es i (by omega) (by omega) (by omega) (by omega) (by omega) (by omega) (by omega)) (z_RuF (F _ (by omega) (by omega)) h4), z_RcF (fun a q1 q2 => F a (by omega) (by omega)) h5, z_RgF (F _ (by omega) (by omega)) h6, ?_, z_RbS (el 2 (by decide) (by decide)) hA.1.1.2.2.1.2 (fun i i0 i1 => es i (by omega) (by omega) (by omega) (by omega) (by omega) (by omega) (by omega)) (z_RbF (F _ (by omega) (by omega)) (F _ (by omega) (by omega)) (F _ (by omega) (by omega)) (F _ (by omega) (by omega)) h8)⟩ ?_, ⟨fun a a0 a1 a2 => F a (by omega) (by omega), fun j hj => by rw [t0, z_up0 hj]⟩⟩
  · rw [F 1 (by omega) (by omega)]; exact h1.trans (el 1 (by decide) (by decide)).symm
  · show kz_Rn 11 s' τ
    have p10 : (2 : Int) ^ (Int.toNat (A.1 0 + 1)) = 2 ^ (Int.toNat (A.1 0)) + 2 ^ (Int.toNat (A.1 0)) := by
      rw [Int.toNat_add h10.1 (by decide)]
      show (2 : Int) ^ (Int.toNat (A.1 0) + 1) = _
      rw [Int.pow_succ]; omega
    have hlt : 0 ≤ σ 11 4 ∧ σ 11 4 < 2 ^ (Int.toNat (A.1 0)) := h7.2.1
    unfold kz_Rn
    rw [s0, t11, if_pos rfl, t11, if_neg (by decide), p10]
    refine ⟨rfl, ⟨hlt.1, by omega⟩, fun o o0 o1 => ?_⟩
    rw [t12, t13, t14, t15]
    by_cases h : o = A.1 0
    · rw [if_pos (by rw [h]), if_pos (by rw [h]), if_pos (by rw [h]), if_pos (by rw [h]), h, n1, n2, n3, n4, n5]
      exact ⟨z_bit0.mpr (kz_big hlt (Nat.le_refl _)), rfl, rfl, rfl, rfl⟩
    · rw [if_neg (by omega), if_neg (by omega), if_neg (by omega), if_neg (by omega), es (290 + o) (by omega) (by omega) (by omega) (by omega) (by omega) (by omega) (by omega), es (250 + o) (by omega) (by omega) (by omega) (by omega) (by omega) (by omega) (by omega), es (260 + o) (by omega) (by omega) (by omega) (by omega) (by omega) (by omega) (by omega), es (270 + o) (by omega) (by omega) (by omega) (by omega) (by omega) (by omega) (by omega), es (280 + o) (by omega) (by omega) (by omega) (by omega) (by omega) (by omega) (by omega)]
      exact h7.2.2 o o0 (by omega)
  · rw [t0, z_up0e]
end CQ
