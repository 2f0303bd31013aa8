-- the class reads a house
def kz_Hq (t : kz_PH) (σ : kp_W) (v : Int) (σ' : kp_W) : Prop := v = kz_i t.1 ∧ kz_Fs σ σ' ∧ σ' 39 2 = t.2.1 ∧ kz_Rz 43 σ' ∧ (t.1 = true → kz_Dr t.2.2.1 t.2.2.2 σ' ∧ 0 ≤ σ' 40 6 ∧ σ' 40 6 ≤ 120)
theorem z_HqT {t : kz_PH} {σ σ1 : kp_W} {v : Int} {σ' : kp_W} (f : kz_Fs σ σ1) (h : kz_Hq t σ1 v σ') : kz_Hq t σ v σ' := ⟨h.1, z_FsT f h.2.1, h.2.2⟩
section CHO
variable {B : Int → Int} {N : Int}
theorem c_readsL (hB : kz_By B N) : ∀ (n k : Nat) (x p : Int) (cls : List kz_C) (u : Int → Int) (σ : kp_W), x = 11 - (k : Int) → k ≤ 10 → k < n → kz_pre B N p σ → kz_Dr cls u σ → kz_Rz 43 σ → cls.length + k ≤ 10 → kp_ok (kl_X5_reads_22 n x σ (fun (σ_5 : kp_W) => some (0, σ_5))) (kz_Hq (kz_pH B N k p cls u) σ)
  | 0, _, _, _, _, _, _, _, _, h, _, _, _, _ => by omega
  | n + 1, 0, x, p, cls, u, σ, hx, h1, h2, hp, hd, hz, hl => by
    rw [kl_X5_reads_22]
    refine k_ls (by decide) ⟨by omega, by omega⟩ (fun _ => k_some ?_) (fun z => by omega)
    exact ⟨rfl, z_Fs0, hp.2.1, hz, fun z => by cases z⟩
  | n + 1, k + 1, x, p, cls, u, σ, hx, h1, h2, hp, hd, hz, hl => by
    have hb := z_By hB
    have hN := hB.1
    have hg := z_pC hb hp.2.2.1.2
    rw [kl_X5_reads_22, kz_pH]
    try dsimp only
    refine k_ls (by decide) ⟨by omega, by omega⟩ (fun z => by omega) (fun _ => k_bd (k_mono (c_clause hB hp hd hz (by omega)) (fun v σ6 h6 => ?_)))
    obtain ⟨v1, f6, e6, z6, h6⟩ := h6
    generalize kz_pC B p = t at *
    cases ht : t.1 with
    | false =>
      rw [ht] at v1
      subst v1
      rw [if_pos rfl]
      exact k_eq (by decide) (by decide) (fun _ => k_some ⟨rfl, f6, e6, z6, fun z => by cases z⟩) (fun z => absurd rfl z)
    | true =>
      rw [ht] at v1
      subst v1
      obtain ⟨d6, p6⟩ := h6 ht
      have hr := p6.2.2.1
      have h46 : σ6 46 1 = N := p6.1.1
      rw [if_neg (by decide)]
      refine k_eq (by decide) (by decide) (fun z => absurd z (by decide)) (fun _ => k_ls ⟨by omega, by omega⟩ ⟨by omega, by omega⟩ (fun c => ?_) (fun c => k_some ?_))
      · rw [if_neg (by omega)]
        refine k_eq ⟨by omega, by omega⟩ (by decide) (fun d => k_some ?_) (fun d => c_eats hB p6.1 p6.2.1 p6.2.2.1 (by decide) (fun g => k_eq (by decide) (by decide) (fun z => absurd z (by decide)) (fun _ => k_lt ?_)) (fun g => k_eq (by decide) (by decide) (fun _ => k_some ?_) (fun z => absurd rfl z)))
        · rw [if_pos (Or.inl (by omega))]
          exact ⟨rfl, f6, e6, z6, fun z => by cases z⟩
        · rw [if_neg (fun z => z.elim (by omega) (fun z => z g))]
          have pU := z_preU p6 (by omega)
          have fU : kz_Fs σ6 (kp_up σ6 39 2 (t.2.1 + 1)) := fun a ha => kp_up_ne (by omega)
          have dU : kz_Dr (kz_cU t cls) (kz_uU t u) (kp_up σ6 39 2 (t.2.1 + 1)) := z_clP p6.2.2.2.2 (z_adv z_Fp0) (by rw [kp_up_ne (by decide)]) (kp_up_ne (by decide)) d6
          have lU := z_cUl t cls
          exact k_mono (c_readsL hB n k (x + 1) (t.2.1 + 1) _ _ _ (by omega) (by omega) (by omega) pU dU (z_RzT) (by omega)) (fun v σ' h => z_HqT f6 (z_HqT fU h))
        · rw [if_pos (Or.inr g)]
          exact ⟨rfl, f6, e6, z6, fun z => by cases z⟩
      · rw [if_pos (by omega)]
        have hN2 : t.2.1 = N := by omega
        exact ⟨rfl, f6, e6.trans hN2, z6, fun _ => ⟨d6, p6.2.2.2.1, by have := p6.2.2.2.2; omega⟩⟩
end CHO
/-- the tape's bytes -/
def kz_tB (s : Nat → Int) (x : Int) : Int := if 0 ≤ x ∧ x < s 3 then s (Int.toNat (10 + x)) else -1
theorem z_tB {s : Nat → Int} (h : kz_Is s) : kz_By (kz_tB s) (s 3) := by
  refine ⟨h.1.2.2.2.1, fun x h0 h1 => ?_, fun x hx => ?_⟩
  · unfold kz_tB; rw [if_pos ⟨h0, h1⟩]; exact h.2.1 x h0 h1
  · unfold kz_tB; rw [if_neg hx]
def kz_hs (s : Nat → Int) : kz_PH := kz_pH (kz_tB s) (s 3) 10 0 [] kz_df
theorem z_df {j : Int} : 0 ≤ kz_df j ∧ kz_df j ≤ 99 := by unfold kz_df; repeat' split
                                                          all_goals omega
theorem z_hs {s : Nat → Int} (h : kz_Is s) : (0 ≤ (kz_hs s).2.1 ∧ (kz_hs s).2.1 ≤ s 3) ∧ ((kz_hs s).1 = true → (kz_hs s).2.2.1.length ≤ 10 ∧ kz_PHi (s 3) (kz_hs s).2.2.1 (kz_hs s).2.2.2) :=
  z_pH (z_By (z_tB h)) 10 0 [] kz_df (Int.le_refl 0) h.1.2.2.2.1.1 (by decide) ⟨fun c hc => (by cases hc), Int.le_refl 0, fun j _ _ => z_df⟩
theorem c_reads {A : kz_A} {σ : kp_W} (hA : kz_I A) (hT : kz_Rt 3 A.1 σ) (hz : kz_Rz 43 σ) : kp_ok (kf_X5_reads σ) (fun v σ' => v = kz_i (kz_hs A.1).1 ∧ (∀ a, (a < 39 ∨ 48 ≤ a) → σ' a = σ a) ∧ σ' 39 2 = (kz_hs A.1).2.1 ∧ kz_Rz 43 σ' ∧ ((kz_hs A.1).1 = true → kz_Dr (kz_hs A.1).2.2.1 (kz_hs A.1).2.2.2 σ' ∧ 0 ≤ σ' 40 6 ∧ σ' 40 6 ≤ 120)) := by
  have hB := z_tB hA.1
  have hN := hB.1
  unfold kf_X5_reads
  refine k_bd ?_
  unfold kf_X7_copy_46_3
  refine k_lt (k_lt (k_some (k_lt (k_bd ?_))))
  unfold kf_X2_empty_40
  refine k_lt (k_lt (k_lt (k_lt (k_some (k_lt ?_)))))
  generalize hτ : kp_up (kp_up (kp_up (kp_fill (kp_up (kp_up (kp_fill σ 47 (σ 4) 120) 46 1 (kp_fill σ 47 (σ 4) 120 3 1)) 39 2 0) 41 (fun j => (kp_tb 0).getD j 0) 5) 40 4 0) 40 5 0) 40 6 0 = τ
  have F : ∀ a, (a < 39 ∨ 48 ≤ a) → τ a = σ a := fun a ha => by rw [← hτ, kp_up_ne (by omega), kp_up_ne (by omega), kp_up_ne (by omega), kp_fill_ne (by omega), kp_up_ne (by omega), kp_up_ne (by omega), kp_fill_ne (by omega)]
  have t461 : τ 46 1 = A.1 3 := by rw [← hτ, kp_up_ne (by decide), kp_up_ne (by decide), kp_up_ne (by decide), kp_fill_ne (by decide), kp_up_ne (by decide), z_up0e, kp_fill_ne (by decide)]; exact hT.1
  have t47 : ∀ j, τ 47 j = if j < 120 then σ 4 j else σ 47 j := fun j => by rw [← hτ, kp_up_ne (by decide), kp_up_ne (by decide), kp_up_ne (by decide), kp_fill_ne (by decide), kp_up_ne (by decide), kp_up_ne (by decide), kp_fill_eq]
  have t392 : τ 39 2 = 0 := by rw [← hτ, kp_up_ne (by decide), kp_up_ne (by decide), kp_up_ne (by decide), kp_fill_ne (by decide), z_up0e]
  have t404 : τ 40 4 = 0 := by rw [← hτ, kp_up_eq, if_neg (by decide), kp_up_eq, if_neg (by decide), z_up0e]
  have t405 : τ 40 5 = 0 := by rw [← hτ, kp_up_eq, if_neg (by decide), z_up0e]
  have t406 : τ 40 6 = 0 := by rw [← hτ, z_up0e]
  have t41 : ∀ j, j < 5 → τ 41 j = (kp_tb 0).getD j 0 := fun j hj => by rw [← hτ, kp_up_ne (by decide), kp_up_ne (by decide), kp_up_ne (by decide), kp_fill_eq, if_pos hj]
  have hp : kz_pre (kz_tB A.1) (A.1 3) 0 τ := by
    refine ⟨⟨t461, fun x x0 x1 => ?_⟩, t392, ⟨Int.le_refl 0, hN.1⟩, Int.le_of_eq t406.symm, Int.le_of_eq t406⟩
    rw [t47, if_pos (by omega)]
    unfold kz_tB
    rw [if_pos ⟨x0, x1⟩]
    exact hT.2 x x0 x1
  have hd : kz_Dr [] kz_df τ := by
    refine ⟨t405, t406, fun j j0 j1 => ?_, by rw [t404]; decide, by rw [t404]; decide⟩
    rw [t41 _ (by omega)]
    have hj : j = 0 ∨ j = 1 ∨ j = 2 ∨ j = 3 ∨ j = 4 := by omega
    rcases hj with rfl | rfl | rfl | rfl | rfl <;> decide +kernel
  have h := c_readsL hB kp_fu 10 1 0 [] kz_df τ (by decide) (by decide) (by rw [kp_fu_eq]; decide) hp hd (z_RzT) (by decide)
  exact k_mono h (fun v σ' q => ⟨q.1, fun a ha => (q.2.1 a (by omega)).trans (F a ha), q.2.2⟩)
/-- what a house called leaves of the class -/
def kz_Ho (s : Nat → Int) (σ : kp_W) (r : Int) (σ' : kp_W) : Prop :=
  ((kz_hs s).1 = false → r = -10 - (kz_hs s).2.1 ∧ ∀ a, a ≠ 3 → (a < 39 ∨ 48 ≤ a) → σ' a = σ a) ∧
  ((kz_hs s).1 = true → r = s 1 ∧ σ' 1 5 = s 1 + 1 ∧ σ' 0 6 = 0 ∧ kz_Rc 5 (kz_hs s).2.2.1 σ' ∧ (∀ j, 0 ≤ j → j < 5 → σ' 6 (Int.toNat j) = (kz_hs s).2.2.2 j) ∧ kz_Rg 5 (kz_hs s).2.2.1 σ' ∧ (∀ j, j ≠ 6 → σ' 0 j = σ 0 j) ∧ ∀ a, a ≠ 0 → a ≠ 1 → a ≠ 3 → (a = 8 ∨ ¬ (5 ≤ a ∧ a ≤ 10)) → (a < 39 ∨ 48 ≤ a) → σ' a = σ a) ∧
  σ' 3 1 = 0 ∧ kz_Rz 43 σ'
theorem c_houseA {A : kz_A} {σ : kp_W} (hA : kz_I A) (hH : kz_H A σ) (hz : kz_Rz 43 σ) : kp_ok (kf_X9_house σ) (fun r σ' => if A.1 1 = 5 then r = -4 ∧ σ' = σ else kz_Ho A.1 σ r σ') := by
  have h1 : σ 1 5 = A.1 1 := hH.1
  have s1 := hA.1.1.2.1
  have hB := z_tB hA.1
  unfold kf_X9_house
  rw [h1]
  refine k_ls ⟨by omega, by omega⟩ (by decide) (fun c => ?_) (fun c => k_some (by rw [if_pos (by omega)]; exact ⟨rfl, rfl⟩))
  refine k_bd (k_mono (c_reads hA hH.2.2.1 hz) (fun v σ1 h => k_lt (k_lt ?_)))
  simp only [if_neg (show ¬ A.1 1 = 5 by omega)]
  obtain ⟨v1, f1, e1, z1, d1⟩ := h
  unfold kz_Ho
  have hpr := z_hs hA.1
  have hN := hB.1
  cases ht : (kz_hs A.1).1 with
  | false =>
    rw [ht] at v1
    subst v1
    refine k_eq (by decide) (by decide) (fun _ => k_some ⟨fun _ => ⟨?_, fun a a3 ha => ?_⟩, fun z => (by cases z), z_up0e, z_RzT⟩) (fun z => absurd rfl z)
    · rw [kp_up_ne (by decide), e1]
    · rw [kp_up_ne a3]; exact f1 a ha
  | true =>
    rw [ht] at v1
    subst v1
    obtain ⟨⟨g1, g2, g3, g6⟩, g4, g5⟩ := d1 ht
    refine k_eq (by decide) (by decide) (fun z => absurd z (by decide)) (fun _ => k_bd ?_)
    unfold kf_X2_copy_5_40
    refine k_lt (k_lt (k_lt (k_lt (k_lt (k_lt (k_lt (k_some (k_lt (k_lt (k_some ?_))))))))))
    generalize hτ : kp_up σ1 3 1 0 = τ0
    have T : ∀ a, a ≠ 3 → τ0 a = σ1 a := fun a ha => by rw [← hτ, kp_up_ne ha]
    have T3 : τ0 3 1 = 0 := by rw [← hτ, z_up0e]
    refine ⟨fun z => (by cases z), fun _ => ⟨?_, ?_, ?_, ⟨?_, ?_, ?_⟩, fun j j0 j1 => ?_, ⟨?_, ?_⟩, fun j hj => ?_, fun a a0 a1 a3 a5 ha => ?_⟩, ?_, ?_⟩
    · simp [kp_up_ne, kp_fill_ne]
      rw [T 1 (by decide), f1 1 (by decide)]; exact h1
    · simp [kp_up_ne, kp_fill_ne, kp_up_eq]
      rw [T 1 (by decide), f1 1 (by decide)]; exact h1
    · simp [kp_up_ne, kp_fill_ne, kp_up_eq]
    · simp [kp_up_ne, kp_fill_ne, kp_up_eq]
      rw [T 40 (by decide)]; exact g1
    · simp [kp_up_ne, kp_fill_ne, kp_up_eq]
      rw [T 40 (by decide)]; exact ⟨g4, g5⟩
    · have hlen := (hpr.2 ht).1
      refine z_clCp (h := 40) (h' := 5) (σ := σ1) ?_ g5 (fun i hi => ?_) ?_ (fun i hi => ?_) (fun i hi => ?_) (Int.le_refl 0) (by omega) (Int.le_refl 0) g2
      · simp [kp_up_ne, kp_fill_ne, kp_up_eq]
        rw [T 40 (by decide)]
      · simp [kp_up_ne, kp_fill_ne, kp_fill_eq, hi]
        rw [T 42 (by decide)]
      · simp [kp_up_ne, kp_fill_ne, kp_up_eq]
        rw [T 40 (by decide)]
      · simp [kp_up_ne, kp_fill_ne, kp_fill_eq, hi]
        rw [T 44 (by decide)]
      · simp [kp_up_ne, kp_fill_ne, kp_fill_eq, hi]
        rw [T 45 (by decide)]
    · have hj : Int.toNat j < 5 := by omega
      simp [kp_up_ne, kp_fill_ne, kp_fill_eq, hj]
      rw [T 41 (by decide)]; exact g3 j j0 j1
    · simp [kp_up_ne, kp_fill_ne, kp_up_eq]
      rw [T 40 (by decide)]; exact g6.1
    · simp [kp_up_ne, kp_fill_ne, kp_up_eq]
      rw [T 40 (by decide)]; exact g6.2
    · simp [kp_up_ne, kp_fill_ne, kp_up_eq, hj]
      rw [T 0 (by decide), f1 0 (by decide)]
    · simp (disch := omega) only [kp_up_ne, kp_fill_ne]
      rw [T a a3]; exact f1 a ha
    · simp [kp_up_ne, kp_fill_ne, T3]
    · exact z_RzT
