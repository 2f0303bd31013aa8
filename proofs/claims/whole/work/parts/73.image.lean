-- the class: image, undo
theorem z_clSz {h : Nat} {σ : kp_W} : ∀ {r : List kz_C} {i st : Int}, kz_clN h σ i st r → st ≤ σ h 6
  | [], _, _, q => Int.le_of_eq (Eq.symm q)
  | c :: r, i, st, q => by have := z_clSz q.2.2.2.2; omega
theorem z_clCp {h h' : Nat} {σ σ' : kp_W} (e6 : σ' h' 6 = σ h 6) (h120 : σ h 6 ≤ 120) (e2 : ∀ i, i < 120 → σ' (h' + 2) i = σ (h + 2) i) (e3 : σ' h' 4 = σ h 4) (e4 : ∀ i, i < 10 → σ' (h' + 4) i = σ (h + 4) i) (e5 : ∀ i, i < 10 → σ' (h' + 5) i = σ (h + 5) i) : ∀ {r : List kz_C} {i st : Int}, 0 ≤ i → i + (r.length : Int) ≤ 10 → 0 ≤ st → kz_clN h σ i st r → kz_clN h' σ' i st r
  | [], _, _, _, _, _, q => e6.trans q
  | c :: r, i, st, h0, hl, hs, q => by
    have hlen : ((c :: r).length : Int) = (r.length : Int) + 1 := by simp
    have hz := z_clSz q.2.2.2.2
    refine ⟨by rw [e3]; exact q.1, by rw [e4 _ (by omega)]; exact q.2.1, by rw [e5 _ (by omega)]; exact q.2.2.1, z_arrC hs (fun j j0 j1 => e2 _ (by omega)) q.2.2.2.1, z_clCp e6 h120 e2 e3 e4 e5 (by omega) (by omega) (by omega) q.2.2.2.2⟩
theorem z_RhCp {b b' : Nat} {A : kz_A} {σ σ' : kp_W} (hA : kz_I A) (h : kz_Rh b A σ) (e0 : σ' b' 5 = σ b 5) (e1 : ∀ i, i < 3 → σ' (b' + 1) i = σ (b + 1) i) (e2 : σ' (b' + 2) 1 = σ (b + 2) 1) (e3 : ∀ i, i < 120 → σ' (b' + 2 + 1) i = σ (b + 2 + 1) i) (e5 : ∀ i, i < 5 → σ' (b' + 5) i = σ (b + 5) i) (e45 : σ' (b' + 4) 5 = σ (b + 4) 5) (e46 : σ' (b' + 4) 6 = σ (b + 4) 6) (e6 : ∀ i, i < 120 → σ' (b' + 4 + 2) i = σ (b + 4 + 2) i) (e7 : σ' (b' + 4) 4 = σ (b + 4) 4) (e8 : ∀ i, i < 10 → σ' (b' + 4 + 4) i = σ (b + 4 + 4) i) (e9 : ∀ i, i < 10 → σ' (b' + 4 + 5) i = σ (b + 4 + 5) i) (ea4 : σ' (b' + 10) 4 = σ (b + 10) 4) (ea5 : σ' (b' + 10) 5 = σ (b + 10) 5) (eb : ∀ k, 1 ≤ k → k ≤ 4 → ∀ i, i < 10 → σ' (b' + 10 + k) i = σ (b + 10 + k) i) (ec : σ' (b' + 15) 3 = σ (b + 15) 3) (ed : ∀ k, 1 ≤ k → k ≤ 3 → ∀ i, i < 12 → σ' (b' + 15 + k) i = σ (b + 15 + k) i) : kz_Rh b' A σ' := by
  obtain ⟨h1, h2, h3, h4, h5, h6, h7, h8⟩ := h
  obtain ⟨⟨⟨s0, s1, s2, s3, s4⟩, _⟩, hc⟩ := hA
  refine ⟨e0.trans h1, fun w w0 w1 => ?_, ⟨e2.trans h3.1, fun i i0 i1 => ?_⟩, fun j j0 j1 => ?_, ⟨e45.trans h5.1, by rw [e46]; exact h5.2.1, z_clCp e46 h5.2.1.2 e6 e7 e8 e9 (Int.le_refl 0) (by have := hc.1; omega) (Int.le_refl 0) h5.2.2⟩, ⟨by rw [e7]; exact h6.1, by rw [e7]; exact h6.2⟩, ⟨ea5.trans h7.1, by rw [ea4]; exact h7.2.1, fun n n0 n1 => ?_⟩, ⟨ec.trans h8.1, fun r r0 r1 => ?_⟩⟩
  · rw [e1 _ (by omega)]; exact h2 w w0 w1
  · rw [e3 _ (by omega)]; exact h3.2 i i0 i1
  · rw [e5 _ (by omega)]; exact h4 j j0 j1
  · rw [ea4, eb 1 (by omega) (by omega) _ (by omega), eb 2 (by omega) (by omega) _ (by omega), eb 3 (by omega) (by omega) _ (by omega), eb 4 (by omega) (by omega) _ (by omega)]; exact h7.2.2 n n0 n1
  · rw [ed 1 (by omega) (by omega) _ (by omega), ed 2 (by omega) (by omega) _ (by omega), ed 3 (by omega) (by omega) _ (by omega)]; exact h8.2 r r0 r1
