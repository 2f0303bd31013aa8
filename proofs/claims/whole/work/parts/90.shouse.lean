-- both sides: house
section SIM3
variable {σ τ : kp_W} {cls clsK : List kz_C}
theorem s_house (hD : kz_D σ τ cls clsK) : kz_Sim σ τ (kf_X9_house σ) (kf_X10_house τ) := by
  have hD0 := hD
  obtain ⟨⟨d1, d2, d3⟩, d4, ⟨d5, d6, d7⟩, ⟨d8, d9, d10⟩, d11⟩ := hD
  obtain ⟨r, σ', e, hr⟩ := c_houseA d1 d3.1 d11
  obtain ⟨r', τ', e', hr'⟩ := r_houseA (s := τ 1) (τ := τ) d1.1 rfl
  by_cases h5 : τ 1 1 = 5
  · have hr := hr
    rw [if_pos h5] at hr hr'
    obtain ⟨rfl, rfl⟩ := hr
    obtain ⟨rfl, rfl⟩ := hr'
    exact ⟨_, _, e, _, _, e', rfl, cls, clsK, hD0⟩
  · rw [if_neg h5] at hr hr'
    have hr : kz_Ho (τ 1) σ r σ' := hr
    have hs := z_hs (s := τ 1) d1.1
    obtain ⟨⟨⟨i0, i1, i2, i3, i4⟩, j1, j2, j3, j4, j5⟩, c0, c1, c2, c3⟩ := d1
    obtain ⟨o1, o2, o3, o4⟩ := hr
    obtain ⟨p1, p2, p3, p4, p5, p6⟩ := hr'
    obtain ⟨hH, hE2, hE3⟩ := d3
    obtain ⟨k1, k2, k3, k4, k5, k6, k7, k8⟩ := hH
    generalize hs' : τ' 1 = s' at *
    generalize hs0 : τ 1 = s at *
    dsimp only at i0 i1 i2 i3 i4 j1 j2 j3 j4 j5 c0 c1 c2 c3
    have no : ∀ i : Int, 5 ≤ i → i < 336 → s' (Int.toNat i) = s (Int.toNat i) := fun i a b => p4 _ (by omega) (by omega) (by omega) (fun z => by unfold kz_col at z; omega)
    have n0 : s' 0 = s 0 := p4 0 (by decide) (by decide) (by decide) (fun z => by unfold kz_col at z; omega)
    have n2 : s' 2 = s 2 := p4 2 (by decide) (by decide) (by decide) (fun z => by unfold kz_col at z; omega)
    have big : ∀ i : Nat, 1066 ≤ i → s' i = s i := fun i hi => p4 i (by omega) (by omega) (by omega) (fun z => by unfold kz_col at z; omega)
    have t2 : τ' 2 = τ 2 := p1 2 (by decide) (by decide)
    have t9 : τ' 9 = τ 9 := p1 9 (by decide) (by decide)
    have hZ : kz_Z τ' := by unfold kz_Z; rw [p2 16 (by decide), p2 17 (by decide), p2 18 (by decide)]; exact d2
    have K0 : (∀ i, 0 ≤ i → i < s' 3 → 0 ≤ s' (Int.toNat (10 + i)) ∧ s' (Int.toNat (10 + i)) ≤ 255) := fun i a b => by omega
    have K1 : (∀ i, 0 ≤ i → i < 120 → s' (Int.toNat (130 + i)) = 0 ∨ s' (Int.toNat (130 + i)) = 1) := fun i a b => by rw [no _ (by omega) (by omega)]; exact j2 i a b
    have K2 : ∀ n, 0 ≤ n → n < s' 0 → (0 ≤ s' (Int.toNat (250 + n)) ∧ s' (Int.toNat (250 + n)) ≤ 6) ∧ (0 ≤ s' (Int.toNat (260 + n)) ∧ s' (Int.toNat (260 + n)) ≤ 9) ∧ (0 ≤ s' (Int.toNat (270 + n)) ∧ s' (Int.toNat (270 + n)) ≤ 9) ∧ (1 ≤ s' (Int.toNat (280 + n)) ∧ s' (Int.toNat (280 + n)) ≤ 40) ∧ (s' (Int.toNat (290 + n)) = 0 ∨ s' (Int.toNat (290 + n)) = 1) := fun n a b => by
      rw [n0] at b
      rw [no (250 + n) (by omega) (by omega), no (260 + n) (by omega) (by omega), no (270 + n) (by omega) (by omega), no (280 + n) (by omega) (by omega), no (290 + n) (by omega) (by omega)]; exact j3 n a b
    have K3 : ∀ r, 0 ≤ r → r < s' 2 → (0 ≤ s' (Int.toNat (300 + r)) ∧ s' (Int.toNat (300 + r)) ≤ 9) ∧ (0 ≤ s' (Int.toNat (312 + r)) ∧ s' (Int.toNat (312 + r)) ≤ 39) ∧ (0 ≤ s' (Int.toNat (324 + r)) ∧ s' (Int.toNat (324 + r)) ≤ 99) := fun r a b => by
      rw [n2] at b
      rw [no (300 + r) (by omega) (by omega), no (312 + r) (by omega) (by omega), no (324 + r) (by omega) (by omega)]; exact j4 r a b
    have hRt : kz_Rt 3 s' σ' := ⟨by rw [o3, p3], fun i a b => by omega⟩
    have hx5 : ∀ b : Nat, kz_Rd b s σ → kz_Rd b s' σ := fun b q => z_RdS (fun i a b => no i (by omega) (by omega)) q
    cases ht : (kz_hs s).1 with
    | false =>
      obtain ⟨r1, r2⟩ := o1 ht
      obtain ⟨q1, q2, q3⟩ := p5 ht
      have col4 : ∀ i : Nat, 0 ≤ s 4 → kz_col (s 4) i → s' i = s i := fun i h4 hc => p4 i (by unfold kz_col at hc; omega) (by unfold kz_col at hc; omega) (by unfold kz_col at hc; omega) (fun z => by unfold kz_col at hc z; omega)
      have tl : ∀ j, 0 ≤ j → j < 5 → kz_tl s' j = kz_tl s j := fun j a b => by
        unfold kz_tl
        rw [q3]
        by_cases c : s 4 = -1
        · rw [if_pos c, if_pos c]
        · rw [if_neg c, if_neg c]
          exact col4 _ (by omega) (by unfold kz_col; omega)
      have hIs : kz_Is s' := by
        refine ⟨⟨by rw [n0]; exact i0, by rw [q2]; exact i1, by rw [n2]; exact i2, by rw [p3]; decide, by rw [q3, q2]; exact i4⟩, K0, K1, K2, K3, fun z j a b => ?_⟩
        rw [q3] at z ⊢
        rw [col4 _ z (by unfold kz_col; omega)]; exact j5 z j a b
      have hI' : kz_I (s', cls) := by
        refine ⟨hIs, c0, c1, fun z => c2 (q3.symm.trans z), fun z => ?_⟩
        have z' : 0 ≤ s 4 := by have z2 : 0 ≤ s' 4 := z; omega
        obtain ⟨y1, y2, y3⟩ := c3 z'
        refine ⟨?_, y2, ?_⟩
        · show s' (Int.toNat (361 + s' 4)) = _
          rw [q3, col4 _ z' (by unfold kz_col; omega)]; exact y1
        · show kz_arr s' (366 + 140 * s' 4) (kz_flR cls)
          rw [q3]
          have y2' : (kz_flR cls).length ≤ 120 := y2
          have y3' : kz_arr s (366 + 140 * s 4) (kz_flR cls) := y3
          exact z_arrC (by omega) (fun i a b => col4 _ z' (by unfold kz_col; omega)) y3'
      have hH' : kz_H (s', cls) σ' := by
        refine ⟨?_, z_RdF (r2 _ (by decide) (by decide)) (hx5 _ k2), hRt, fun j a b => ?_, z_RcF (fun a a0 a1 => r2 a (by omega) (by omega)) k5, z_RgF (r2 _ (by decide) (by decide)) k6, z_RnS n0 i0.2 (fun i a b => no i (by omega) (by omega)) (z_RnF (r2 _ (by decide) (by decide)) (r2 _ (by decide) (by decide)) (r2 _ (by decide) (by decide)) (r2 _ (by decide) (by decide)) (r2 _ (by decide) (by decide)) k7), z_RbS n2 i2.2 (fun i a b => no i (by omega) (by omega)) (z_RbF (r2 _ (by decide) (by decide)) (r2 _ (by decide) (by decide)) (r2 _ (by decide) (by decide)) (r2 _ (by decide) (by decide)) k8)⟩
        · show σ' 1 5 = s' 1
          rw [r2 1 (by decide) (by decide), q2]; exact k1
        · show σ' 6 (Int.toNat j) = kz_tl s' j
          rw [r2 6 (by decide) (by decide), tl j a b]; exact k4 j a b
      refine ⟨r, σ', e, r', τ', e', q1.trans r1.symm, cls, clsK, ⟨by rw [hs']; exact hI', hZ, ?_⟩, by rw [t2, hs']; exact fun i hi => (d4 i hi).trans (big i hi).symm, ⟨?_, ?_, ?_⟩, ⟨?_, ?_, ?_⟩, o4⟩
      · rw [hs']
        refine ⟨hH', by rw [r2 0 (by decide) (by decide)]; exact hE2, fun z => ?_⟩
        rw [r2 0 (by decide) (by decide)] at z
        obtain ⟨a1, a2, a3⟩ := hE3 z
        refine z_bgSn (s := s) (cls := cls) i4.1 ⟨q3, fun i a b => no i (by omega) (by omega), tl⟩ n0 (fun o o0 o1 => ⟨no _ (by omega) (by omega), no _ (by omega) (by omega), no _ (by omega) (by omega), no _ (by omega) (by omega)⟩) (by decide) ⟨?_, fun i i0 i1 => z_SrF (r2 _ (by decide) (by decide)) (r2 _ (by decide) (by decide)) (r2 _ (by decide) (by decide)) (a2 i i0 i1), fun i i0 i1 t t0 t1 => by rw [r2 52 (by decide) (by decide)]; exact a3 i i0 i1 t t0 t1⟩
        unfold kz_Wm; rw [r2 49 (by decide) (by decide)]; exact a1
      · rw [p2 3 (by decide)]; exact d5
      · rw [p2 3 (by decide), r2 0 (by decide) (by decide)]; exact d6
      · rw [p2 3 (by decide), t2]
        exact fun h => ⟨(d7 h).1, z_RhF (fun a h1 h2 => r2 a (by omega) (by omega)) (d7 h).2⟩
      · rw [t9, r2 27 (by decide) (by decide)]; exact d8
      · rw [p2 22 (by decide), r2 8 (by decide) (by decide)]; exact d9
      · rw [p2 22 (by decide)]; exact d10
    | true =>
      obtain ⟨r1, r2, r3, r4, r5, r6, r7, r8⟩ := o2 ht
      obtain ⟨q1, q2, q3, q4, q5, q6⟩ := p6 ht
      obtain ⟨l1, l2, l3, l4⟩ := hs.2 ht
      generalize hcl : (kz_hs s).2.2.1 = cls' at *
      have hIs : kz_Is s' := by
        refine ⟨⟨by rw [n0]; exact i0, by rw [q2]; omega, by rw [n2]; exact i2, by rw [p3]; decide, by rw [q3, q2]; omega⟩, K0, K1, K2, K3, fun z j a b => ?_⟩
        rw [q3]
        have := q6 j a b
        rw [hs'] at this
        rw [this]; exact l4 j a b
      have hI' : kz_I (s', cls') := by
        refine ⟨hIs, l1, l2, fun z => ?_, fun z => ?_⟩
        · have z2 : s' 4 = -1 := z
          omega
        · refine ⟨?_, ?_, ?_⟩
          · show s' (Int.toNat (361 + s' 4)) = _
            rw [q3, ← hs']; exact q4
          · show (kz_flR cls').length ≤ 120
            omega
          · show kz_arr s' (366 + 140 * s' 4) _
            rw [q3, ← hs']; exact q5
      have hH' : kz_H (s', cls') σ' := by
        refine ⟨r2.trans q2.symm, z_RdF (r8 _ (by decide) (by decide) (by decide) (by decide) (by decide)) (hx5 _ k2), hRt, fun j a b => ?_, r4, r6, z_RnS n0 i0.2 (fun i a b => no i (by omega) (by omega)) (z_RnF (r8 _ (by decide) (by decide) (by decide) (by decide) (by decide)) (r8 _ (by decide) (by decide) (by decide) (by decide) (by decide)) (r8 _ (by decide) (by decide) (by decide) (by decide) (by decide)) (r8 _ (by decide) (by decide) (by decide) (by decide) (by decide)) (r8 _ (by decide) (by decide) (by decide) (by decide) (by decide)) k7), z_RbS n2 i2.2 (fun i a b => no i (by omega) (by omega)) (z_RbF (r8 _ (by decide) (by decide) (by decide) (by decide) (by decide)) (r8 _ (by decide) (by decide) (by decide) (by decide) (by decide)) (r8 _ (by decide) (by decide) (by decide) (by decide) (by decide)) (r8 _ (by decide) (by decide) (by decide) (by decide) (by decide)) k8)⟩
        show σ' 6 (Int.toNat j) = kz_tl s' j
        unfold kz_tl
        rw [r5 j a b, if_neg (by omega), q3, ← hs']
        exact (q6 j a b).symm
      refine ⟨r, σ', e, r', τ', e', q1.trans r1.symm, cls', clsK, ⟨by rw [hs']; exact hI', hZ, ?_⟩, by rw [t2, hs']; exact fun i hi => (d4 i hi).trans (big i hi).symm, ⟨?_, ?_, ?_⟩, ⟨?_, ?_, ?_⟩, o4⟩
      · rw [hs']
        exact ⟨hH', Or.inl r3, fun z => by omega⟩
      · rw [p2 3 (by decide)]; exact d5
      · rw [p2 3 (by decide), r7 2 (by decide)]; exact d6
      · rw [p2 3 (by decide), t2]
        exact fun h => ⟨(d7 h).1, z_RhF (fun a h1 h2 => r8 a (by omega) (by omega) (by omega) (by omega) (by omega)) (d7 h).2⟩
      · rw [t9, r8 27 (by decide) (by decide) (by decide) (by decide) (by decide)]; exact d8
      · rw [p2 22 (by decide), r8 8 (by decide) (by decide) (by decide) (by decide) (by decide)]; exact d9
      · rw [p2 22 (by decide)]; exact d10
end SIM3
