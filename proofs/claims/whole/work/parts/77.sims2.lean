-- both sides: act, image, undo
section SIM2
variable {σ τ : kp_W} {cls clsK : List kz_C}
theorem z_actL {s : Nat → Int} {n w x : Int} : (kz_act s n w x).2.length ≤ 900 := by
  unfold kz_act
  repeat' split
  all_goals try (simp only [List.length_nil]; omega)
  · have := z_aGl (k := s (Int.toNat (250 + n))) (n := n) (a := x); omega
  · have := z_aSl (k := s (Int.toNat (250 + n))) (n := n) (v := s (Int.toNat (270 + n))) (a := x); omega
  · have h1 := z_aSl (k := s (Int.toNat (250 + n))) (n := n) (v := s (Int.toNat (270 + n))) (a := x)
    have h2 := z_aSl (k := s (Int.toNat (250 + n))) (n := n) (v := s (Int.toNat (270 + n))) (a := x - 1)
    have h3 := z_aGl (k := s (Int.toNat (250 + n))) (n := n) (a := 2)
    unfold kz_aT
    repeat' split
    all_goals (simp only [List.length_append, List.length_cons, List.length_nil]; omega)
theorem s_act (hD : kz_D σ τ cls clsK) {a b c : Int} (ha : kp_in a) (hb : kp_in b) : kz_Sim σ τ (kf_X9_act a b c σ) (kf_X10_act a b c τ) := by
  obtain ⟨r, σ', e, hr, f1, f2⟩ := c_act (x := c) hD.1.1 hD.1.2.2.1 ha hb
  obtain ⟨r', τ', e', hr', g1, g2, g3⟩ := r_act (σ := τ) (x := c) hD.1.1 rfl ha hb
  obtain ⟨⟨d1, d2, d3⟩, d4, ⟨d5, d6, d7⟩, ⟨d8, d9, d10⟩, d11⟩ := hD
  rw [d8] at f1
  have h := f1.trans g1.symm
  have h1 : σ' 27 = τ' 9 := congrArg Prod.fst h
  have h2 : σ' 8 1 = τ' 0 22 := congrArg Prod.snd h
  have h22 := congrArg Prod.snd g1
  rw [z_runs2] at h22
  have h22' : τ' 0 22 = 0 + (((kz_act (τ 1) a b c).2.length : Nat) : Int) := h22
  have hlen := z_actL (s := τ 1) (n := a) (w := b) (x := c)
  have e1 : τ' 1 = τ 1 := g2 1 (by decide) (by decide)
  have e2 : τ' 2 = τ 2 := g2 2 (by decide) (by decide)
  refine ⟨r, σ', e, r', τ', e', hr'.trans hr.symm, cls, clsK, ⟨by rw [e1]; exact d1, ?_, by rw [e1]; exact z_EF d3 (fun k hk h8 => f2 k (by omega) (by omega)) (fun k h1 h2 => f2 k (by omega) (by omega))⟩, by rw [e1, e2]; exact d4, ⟨?_, ?_, ?_⟩, ⟨h1, h2, by omega, by omega⟩, z_RzT⟩
  · unfold kz_Z; rw [g3 16 (by decide) (by decide) (by decide) (by decide), g3 17 (by decide) (by decide) (by decide) (by decide), g3 18 (by decide) (by decide) (by decide) (by decide)]; exact d2
  · rw [g3 3 (by decide) (by decide) (by decide) (by decide)]; exact d5
  · rw [g3 3 (by decide) (by decide) (by decide) (by decide), f2 0 (by decide) (by decide)]; exact d6
  · rw [g3 3 (by decide) (by decide) (by decide) (by decide), e2]
    exact fun h => ⟨(d7 h).1, z_RhG (fun a h1 h2 h3 => f2 a (by omega) (by omega)) (d7 h).2⟩
theorem s_image (hD : kz_D σ τ cls clsK) : kz_Sim σ τ (kf_X9_image σ) (kf_X10_image τ) := by
  obtain ⟨⟨d1, d2, d3⟩, d4, ⟨d5, d6, d7⟩, ⟨d8, d9, d10⟩, d11⟩ := hD
  obtain ⟨r', τ', e', hr', g2, ga, g3, gj⟩ := r_image d4
  have e1 : τ' 1 = τ 1 := ga 1 (by decide) (by decide)
  unfold kf_X9_image
  refine c_copy_20_1 d1 d3.1 (fun σ' hK hF => k_lt (k_some ⟨r', τ', e', ?_, cls, cls, ⟨by rw [e1]; exact d1, ?_, ?_⟩, by rw [e1, g2]; exact fun _ _ => rfl, ⟨Or.inr g3, ?_, fun _ => ⟨by rw [g2]; exact d1, ?_⟩⟩, ⟨?_, ?_, ?_⟩, ?_⟩))
  · rw [kp_up_ne (by decide), hF 11 (by omega), hr']; exact d3.1.2.2.2.2.2.2.1.1.symm
  · unfold kz_Z; rw [gj 16 (by decide), gj 17 (by decide), gj 18 (by decide)]; exact d2
  · rw [e1]
    have hE1 : kz_E (τ 1, cls) σ' := z_EF d3 (fun k hk h8 => hF k (by omega)) (fun k h1 h2 => hF k (by omega))
    refine ⟨z_RhF (fun a h1 h2 => kp_up_ne (by omega)) hE1.1, by rw [z_up0 (by decide)]; exact hE1.2.1, fun z => ?_⟩
    rw [z_up0 (by decide)] at z
    obtain ⟨a1, a2, a3⟩ := hE1.2.2 z
    refine ⟨?_, fun i i0 i1 => z_SrF (kp_up_ne (by decide)) (kp_up_ne (by decide)) (kp_up_ne (by decide)) (a2 i i0 i1), fun i i0 i1 t t0 t1 => by rw [kp_up_ne (by decide)]; exact a3 i i0 i1 t t0 t1⟩
    unfold kz_Wm; rw [kp_up_ne (by decide)]; exact a1
  · rw [z_up0e, g3]
  · rw [g2]; exact z_RhF (fun a h1 h2 => kp_up_ne (by omega)) hK
  · rw [kp_up_ne (by decide), hF 27 (by omega), ga 9 (by decide) (by decide)]; exact d8
  · rw [kp_up_ne (by decide), hF 8 (by omega), gj 22 (by decide)]; exact d9
  · rw [gj 22 (by decide)]; exact d10
  · exact z_RzT
theorem s_undo (hD : kz_D σ τ cls clsK) : kz_Sim σ τ (kf_X9_undo σ) (kf_X10_undo τ) := by
  have hD0 := hD
  obtain ⟨⟨d1, d2, d3⟩, d4, ⟨d5, d6, d7⟩, ⟨d8, d9, d10⟩, d11⟩ := hD
  obtain ⟨r', τ', e', h⟩ := r_undo d4 (by rcases d5 with h | h <;> rw [h] <;> decide)
  unfold kf_X9_undo
  rw [d6]
  refine k_eq (by rcases d5 with h | h <;> rw [h] <;> decide) (by decide) (fun c => ?_) (fun c => ?_)
  · rw [if_pos c] at h
    exact k_some ⟨r', τ', e', h.1, cls, clsK, by rw [h.2]; exact hD0⟩
  · rw [if_neg c] at h
    obtain ⟨hr', g1, ga⟩ := h
    obtain ⟨dK, rK⟩ := d7 (d5.resolve_left c)
    have e0 : τ' 0 = τ 0 := ga 0 (by decide)
    have e2 : τ' 2 = τ 2 := ga 2 (by decide)
    refine c_copy_1_20 dK rK (fun σ' hK hF => k_lt (k_some ⟨r', τ', e', ?_, clsK, clsK, ⟨by rw [g1]; exact dK, ?_, ?_⟩, by rw [g1, e2]; exact fun _ _ => rfl, ⟨by rw [e0]; exact d5, ?_, ?_⟩, ⟨?_, ?_, ?_⟩, ?_⟩))
    · rw [kp_up_ne (by decide), hr']; exact hK.2.2.2.2.2.2.1.1.symm
    · unfold kz_Z; rw [e0]; exact d2
    · rw [g1]; exact z_ER hK rfl
    · rw [z_up0 (by decide), hF 0 (by omega), e0]; exact d6
    · rw [e2]
      exact fun _ => ⟨dK, z_RhF (fun a h1 h2 => by rw [kp_up_ne (by omega), hF a (by omega)]) rK⟩
    · rw [kp_up_ne (by decide), hF 27 (by omega), ga 9 (by decide)]; exact d8
    · rw [kp_up_ne (by decide), hF 8 (by omega), e0]; exact d9
    · rw [e0]; exact d10
    · exact z_RzT
end SIM2
