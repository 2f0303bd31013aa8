-- both sides at once
def kz_D (σ τ : kp_W) (cls clsK : List kz_C) : Prop :=
  (kz_I (τ 1, cls) ∧ kz_Z τ ∧ kz_E (τ 1, cls) σ) ∧ (∀ i : Nat, 1066 ≤ i → τ 2 i = τ 1 i) ∧
  ((τ 0 3 = 0 ∨ τ 0 3 = 1) ∧ σ 0 2 = τ 0 3 ∧ (τ 0 3 = 1 → kz_I (τ 2, clsK) ∧ kz_Rh 20 (τ 2, clsK) σ)) ∧
  (σ 27 = τ 9 ∧ σ 8 1 = τ 0 22 ∧ 0 ≤ τ 0 22 ∧ τ 0 22 ≤ 1000) ∧ kz_Rz 43 σ
/-- two programs answer alike, and what stands behind them goes on -/
def kz_Sim (σ τ : kp_W) (F G : kp_R) : Prop := kp_ok F (fun r σ' => kp_ok G (fun r' τ' => r' = r ∧ ∃ cls clsK, kz_D σ' τ' cls clsK))
theorem z_DQ {σ τ σ' τ' : kp_W} {cls clsK : List kz_C} (hD : kz_D σ τ cls clsK) (f : kz_Fk σ σ') (hE : kz_E (τ 1, cls) σ') (g : kz_Fz τ τ') : kz_D σ' τ' cls clsK := by
  obtain ⟨⟨d1, d2, d3⟩, d4, ⟨d5, d6, d7⟩, ⟨d8, d9, d10⟩, d11⟩ := hD
  have e1 : τ' 1 = τ 1 := g.1 1 (by decide) (by decide) (by decide) (by decide) (by decide) (by decide) (by decide)
  have e2 : τ' 2 = τ 2 := g.1 2 (by decide) (by decide) (by decide) (by decide) (by decide) (by decide) (by decide)
  have e9 : τ' 9 = τ 9 := g.1 9 (by decide) (by decide) (by decide) (by decide) (by decide) (by decide) (by decide)
  have z : ∀ j, j ≠ 11 → j ≠ 12 → j ≠ 13 → τ' 0 j = τ 0 j := g.2
  refine ⟨⟨by rw [e1]; exact d1, ?_, by rw [e1]; exact hE⟩, by rw [e1, e2]; exact d4, ⟨?_, ?_, ?_⟩, ⟨?_, ?_, ?_⟩, ?_⟩
  · unfold kz_Z; rw [z 16 (by decide) (by decide) (by decide), z 17 (by decide) (by decide) (by decide), z 18 (by decide) (by decide) (by decide)]; exact d2
  · rw [z 3 (by decide) (by decide) (by decide)]; exact d5
  · rw [z 3 (by decide) (by decide) (by decide), f.2 2 (by decide)]; exact d6
  · rw [z 3 (by decide) (by decide) (by decide), e2]
    exact fun h => ⟨(d7 h).1, z_RhF (fun a h1 h2 => f.1 a (by omega) (by omega) (by omega) (by omega) (by omega) (by omega) (by omega) (by omega)) (d7 h).2⟩
  · rw [e9, f.1 27 (by decide) (by decide) (by decide) (by decide) (by decide) (by decide) (by decide) (by decide)]; exact d8
  · rw [z 22 (by decide) (by decide) (by decide), f.1 8 (by decide) (by decide) (by decide) (by decide) (by decide) (by decide) (by decide) (by decide)]; exact d9
  · rw [z 22 (by decide) (by decide) (by decide)]; exact d10
  · exact z_RzT
theorem s_q {σ τ : kp_W} {cls clsK : List kz_C} {F G : kp_R} {v : Int} (hD : kz_D σ τ cls clsK) (h1 : kp_ok F (fun r σ' => r = v ∧ kz_Fk σ σ' ∧ kz_E (τ 1, cls) σ')) (h2 : kp_ok G (fun r τ' => r = v ∧ kz_Fz τ τ')) : kz_Sim σ τ F G := by
  obtain ⟨r, σ', e, rfl, f, hE⟩ := h1
  obtain ⟨r', τ', e', hr, g⟩ := h2
  exact ⟨r, σ', e, r', τ', e', hr, cls, clsK, z_DQ hD f hE g⟩
theorem s_p {σ τ : kp_W} {cls clsK : List kz_C} {F G : kp_R} {v : Int} (hD : kz_D σ τ cls clsK) (h1 : F = some (v, σ)) (h2 : G = some (v, τ)) : kz_Sim σ τ F G := ⟨v, σ, h1, v, τ, h2, rfl, cls, clsK, hD⟩
theorem s_n {σ τ : kp_W} {cls clsK : List kz_C} {F G : kp_R} {o : Int × (Nat → Int)} (hD : kz_D σ τ cls clsK) (hI : kz_I (o.2, cls)) (h4 : ∀ i : Nat, 1066 ≤ i → o.2 i = τ 1 i) (h1 : kp_ok F (fun r σ' => r = o.1 ∧ kz_New (τ 1, cls) o.2 σ σ')) (h2 : kp_ok G (fun r τ' => (r, τ' 1) = o ∧ kz_F1 τ τ')) : kz_Sim σ τ F G := by
  obtain ⟨r, σ', e, hr, hE, f⟩ := h1
  obtain ⟨r', τ', e', hr', g⟩ := h2
  obtain ⟨⟨d1, d2, d3⟩, d4, ⟨d5, d6, d7⟩, ⟨d8, d9, d10⟩, d11⟩ := hD
  have q1 : r' = o.1 := congrArg Prod.fst hr'
  have q2 : τ' 1 = o.2 := congrArg Prod.snd hr'
  have e0 : τ' 0 = τ 0 := g 0 (by decide)
  have e2 : τ' 2 = τ 2 := g 2 (by decide)
  have e9 : τ' 9 = τ 9 := g 9 (by decide)
  refine ⟨r, σ', e, r', τ', e', q1.trans hr.symm, cls, clsK, ⟨by rw [q2]; exact hI, ?_, by rw [q2]; exact hE⟩, fun i hi => ?_, ⟨?_, ?_, ?_⟩, ⟨?_, ?_, ?_⟩, ?_⟩
  · unfold kz_Z; rw [e0]; exact d2
  · rw [q2, e2, h4 i hi]; exact d4 i hi
  · rw [e0]; exact d5
  · rw [e0, f.2 2 (by decide)]; exact d6
  · rw [e0, e2]
    exact fun h => ⟨(d7 h).1, z_RhF (fun a h1 h2 => f.1 a (by omega) (by omega) (by omega)) (d7 h).2⟩
  · rw [e9, f.1 27 (by decide) (by decide) (by decide)]; exact d8
  · rw [e0, f.1 8 (by decide) (by decide) (by decide)]; exact d9
  · rw [e0]; exact d10
  · exact z_RzT
