-- bits counted
theorem z_bcA : (List.range 4096).all (fun n => decide (kp_bc (n : Int) = kz_pc (n : Int))) = true := by decide +kernel
theorem z_bc {x : Int} (h : 0 ≤ x ∧ x < 4096) : kp_bc x = kz_pc x := by
  have h1 := List.all_eq_true.mp z_bcA x.toNat (List.mem_range.mpr (by omega))
  have h2 := of_decide_eq_true h1
  rw [Int.toNat_of_nonneg h.1] at h2
  exact h2
theorem z_bcL {x : Int} (h : 0 ≤ x ∧ x < 1099511627776) : kp_bcL x = kp_sm (fun t => x / 2 ^ (Int.toNat t) % 2) 40 := by sorry
