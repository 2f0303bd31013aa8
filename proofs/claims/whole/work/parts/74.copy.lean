-- the class: a home copied
theorem c_copy_20_1 {A : kz_A} {σ : kp_W} (hA : kz_I A) (hR : kz_Rh 1 A σ) {f : Int → kp_W → kp_R} {Q : Int → kp_W → Prop} (hk : ∀ σ', kz_Rh 20 A σ' → (∀ a, (a = 27 ∨ ¬ (20 ≤ a ∧ a ≤ 38)) → σ' a = σ a) → kp_ok (f 0 σ') Q) : kp_ok (kp_bd (kf_X1_copy_20_1 σ) f) Q := by
  refine k_bd ?_
  unfold kf_X1_copy_20_1
  refine k_lt (k_bd ?_)
  unfold kf_X7_copy_22_3
  refine k_lt (k_lt (k_some (k_bd ?_)))
  unfold kf_X2_copy_24_5
  refine k_lt (k_lt (k_lt (k_lt (k_lt (k_lt (k_lt (k_some (k_bd ?_))))))))
  unfold kf_X3_copy_30_11
  refine k_lt (k_lt (k_lt (k_lt (k_lt (k_lt (k_some (k_bd ?_)))))))
  unfold kf_X4_copy_35_16
  refine k_lt (k_lt (k_lt (k_lt (k_some (k_lt (k_some ?_))))))
  refine hk _ (z_RhCp hA hR ?_ ?_ ?_ ?_ ?_ ?_ ?_ ?_ ?_ ?_ ?_ ?_ ?_ ?_ ?_ ?_) ?_
  all_goals first
    | (intro k k0 k1 i hi
       have hk' : k = 1 ∨ k = 2 ∨ k = 3 ∨ k = 4 := by omega
       rcases hk' with rfl | rfl | rfl | rfl <;> first | (simp [kp_up_ne, kp_fill_ne, kp_fill_eq, hi]; done) | omega)
    | (intro i hi
       simp [kp_up_ne, kp_fill_ne, kp_fill_eq, hi]; done)
    | (intro a ha
       simp (disch := omega) only [kp_up_ne, kp_fill_ne]; done)
    | simp [kp_up_ne, kp_fill_ne, kp_up_eq]
theorem c_copy_1_20 {A : kz_A} {σ : kp_W} (hA : kz_I A) (hR : kz_Rh 20 A σ) {f : Int → kp_W → kp_R} {Q : Int → kp_W → Prop} (hk : ∀ σ', kz_Rh 1 A σ' → (∀ a, (a = 8 ∨ ¬ (1 ≤ a ∧ a ≤ 19)) → σ' a = σ a) → kp_ok (f 0 σ') Q) : kp_ok (kp_bd (kf_X1_copy_1_20 σ) f) Q := by
  refine k_bd ?_
  unfold kf_X1_copy_1_20
  refine k_lt (k_bd ?_)
  unfold kf_X7_copy_3_22
  refine k_lt (k_lt (k_some (k_bd ?_)))
  unfold kf_X2_copy_5_24
  refine k_lt (k_lt (k_lt (k_lt (k_lt (k_lt (k_lt (k_some (k_bd ?_))))))))
  unfold kf_X3_copy_11_30
  refine k_lt (k_lt (k_lt (k_lt (k_lt (k_lt (k_some (k_bd ?_)))))))
  unfold kf_X4_copy_16_35
  refine k_lt (k_lt (k_lt (k_lt (k_some (k_lt (k_some ?_))))))
  refine hk _ (z_RhCp hA hR ?_ ?_ ?_ ?_ ?_ ?_ ?_ ?_ ?_ ?_ ?_ ?_ ?_ ?_ ?_ ?_) ?_
  all_goals first
    | (intro k k0 k1 i hi
       have hk' : k = 1 ∨ k = 2 ∨ k = 3 ∨ k = 4 := by omega
       rcases hk' with rfl | rfl | rfl | rfl <;> first | (simp [kp_up_ne, kp_fill_ne, kp_fill_eq, hi]; done) | omega)
    | (intro i hi
       simp [kp_up_ne, kp_fill_ne, kp_fill_eq, hi]; done)
    | (intro a ha
       simp (disch := omega) only [kp_up_ne, kp_fill_ne]; done)
    | simp [kp_up_ne, kp_fill_ne, kp_up_eq]
