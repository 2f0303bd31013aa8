-- the reference: small ones
theorem r_in {a b c : Int} {σ : kp_W} (ha : kp_in a) (hb : kp_in b) (hc : kp_in c) : kf_X10_in a b c σ = some (kp_b (b ≤ a ∧ a ≤ c), σ) := by
  unfold kf_X10_in
  refine k_is (k_ls ha hb (fun h => ?_) (fun h => k_ls hc ha (fun h2 => ?_) (fun h2 => ?_)))
  · exact k_some ⟨(kp_bF (by omega)).symm, rfl⟩
  · exact k_some ⟨(kp_bF (by omega)).symm, rfl⟩
  · exact k_some ⟨(kp_bT (by omega)).symm, rfl⟩
theorem r_size {a : Int} {σ : kp_W} (ha : kp_in a) : kf_X10_size a σ = some (kp_abs a, σ) := by
  unfold kf_X10_size
  refine k_is (k_ls ha (by decide) (fun h => k_some ⟨?_, rfl⟩) (fun h => k_some ⟨?_, rfl⟩))
  · unfold kp_abs; rw [if_neg (by omega)]
  · unfold kp_abs; rw [if_pos (by omega)]
theorem r_isPlace {a : Int} {σ : kp_W} (ha : kp_in a) : kf_X10_isPlace a σ = some (kp_b (0 ≤ a ∧ a ≤ 9), σ) := by
  unfold kf_X10_isPlace
  refine k_is (k_e (r_in ha (by decide) (by decide)) (k_ck kp_bZ (k_some ⟨rfl, rfl⟩)))
theorem r_isMinute {a : Int} {σ : kp_W} (ha : kp_in a) : kf_X10_isMinute a σ = some (kp_b (0 ≤ a ∧ a ≤ 39), σ) := by
  unfold kf_X10_isMinute
  refine k_is (k_e (r_in ha (by decide) (by decide)) (k_ck kp_bZ (k_some ⟨rfl, rfl⟩)))
theorem r_isNoise {a : Int} {σ : kp_W} (ha : kp_in a) (h0 : 0 ≤ σ 1 0 ∧ σ 1 0 ≤ 10) : kf_X10_isNoise a σ = some (kp_b (0 ≤ a ∧ a < σ 1 0), σ) := by
  unfold kf_X10_isNoise
  refine k_is (k_e (r_in ha (by decide) ⟨by omega, by omega⟩) (k_ck kp_bZ (k_some ⟨kp_bI (by omega), rfl⟩)))
