-- the reference reads a house
section RHP
variable {B : Int → Int} {N h : Int} {Q : Int → kp_W → Prop}
theorem z_sl5 : kz_sl 5 0 [103, 114, 111, 119, 32] := by repeat (first | exact (by decide +kernel : kp_slen 5 = 5) | refine ⟨⟨⟨by decide +kernel, by decide +kernel⟩, by decide, by decide⟩, ?_⟩)
theorem z_sl3 : kz_sl 3 0 [111, 108, 100, 32] := by repeat (first | exact (by decide +kernel : kp_slen 3 = 4) | refine ⟨⟨⟨by decide +kernel, by decide +kernel⟩, by decide, by decide⟩, ?_⟩)
theorem z_sl4 : kz_sl 4 0 [101, 97, 114, 32] := by repeat (first | exact (by decide +kernel : kp_slen 4 = 4) | refine ⟨⟨⟨by decide +kernel, by decide +kernel⟩, by decide, by decide⟩, ?_⟩)
theorem z_sl6 : kz_sl 6 0 [119, 97, 114, 109, 32] := by repeat (first | exact (by decide +kernel : kp_slen 6 = 5) | refine ⟨⟨⟨by decide +kernel, by decide +kernel⟩, by decide, by decide⟩, ?_⟩)
theorem z_sl7 : kz_sl 7 0 [99, 111, 111, 108, 32] := by repeat (first | exact (by decide +kernel : kp_slen 7 = 5) | refine ⟨⟨⟨by decide +kernel, by decide +kernel⟩, by decide, by decide⟩, ?_⟩)
theorem z_sl8 : kz_sl 8 0 [105, 114, 111, 110, 32] := by repeat (first | exact (by decide +kernel : kp_slen 8 = 5) | refine ⟨⟨⟨by decide +kernel, by decide +kernel⟩, by decide, by decide⟩, ?_⟩)
theorem z_sl9 : kz_sl 9 0 [97, 105, 114, 32] := by repeat (first | exact (by decide +kernel : kp_slen 9 = 4) | refine ⟨⟨⟨by decide +kernel, by decide +kernel⟩, by decide, by decide⟩, ?_⟩)
theorem r_clause (hB : kz_By B N) {p : Int} {τ : kp_W} {cls : List kz_C} {u : Int → Int} (hp : kz_p2 B N h 0 p τ) (hd : kz_Dw h cls u τ) : kp_ok (kf_X10_clauseHere τ) (fun _ τ' => kz_c2 B N h p cls u τ τ') := by
  have hN := hB.1
  have hbp := z_ByI hB p
  have tel : ∀ {x : kp_R} {v : Int}, kp_ok x (fun _ τ' => kz_c2 B N h p cls u τ τ') → kp_ok (kp_bd x (fun _ σ => some (v, σ))) (fun _ τ' => kz_c2 B N h p cls u τ τ') := fun hx => k_bd (k_mono hx (fun _ _ q => k_some q))
  unfold kf_X10_clauseHere
  refine k_e (r_hereB hB hp.1 hp.2.1 hp.2.2.1) ?_
  refine k_eq hbp.1 (by decide) (fun c => tel (r_tells hB (by decide) z_sl9 (j := 3) (by decide) (by decide) ?_ (by decide) hp (Int.le_refl _) hd)) (fun c97 => ?_)
  · unfold kz_pW
    rw [if_neg (show ¬ B p = 103 by omega), if_neg (show ¬ B p = 104 by omega), if_neg (show ¬ B p = 119 by omega), if_neg (show ¬ B p = 99 by omega), if_neg (show ¬ B p = 105 by omega), if_pos c]
    rfl
  refine k_eq hbp.1 (by decide) (fun c => tel (r_tells hB (by decide) z_sl7 (j := 1) (by decide) (by decide) ?_ (by decide) hp (Int.le_refl _) hd)) (fun c99 => ?_)
  · unfold kz_pW
    rw [if_neg (show ¬ B p = 103 by omega), if_neg (show ¬ B p = 104 by omega), if_neg (show ¬ B p = 119 by omega), if_pos c]
    rfl
  refine k_eq hbp.1 (by decide) (fun c => tel (r_much hB (by decide) z_sl5 (Or.inl ⟨rfl, rfl⟩) ?_ (by decide) hp (Int.le_refl _) hd)) (fun c103 => ?_)
  · unfold kz_pW
    rw [if_pos c]
  refine k_eq hbp.1 (by decide) (fun c => tel ?_) (fun c104 => ?_)
  · have hlt := z_By hB p (by omega)
    obtain ⟨hR, e5, hpp, e7, e8, s0⟩ := id hp
    have pU := z_p2U hN.2 hp (by omega)
    have fU : kz_Ff h τ (kp_up τ 0 5 (p + 1)) := z_FfU (Or.inl rfl) z_Ff0
    have dU : kz_Dw h cls u (kp_up τ 0 5 (p + 1)) := z_DwU (kp_up_ne (by decide)) hd
    have hb1 := z_ByI hB (p + 1)
    unfold kf_X10_clauseOfH
    refine r_mustO hB hR e5 hpp e7 (by decide) (fun _ => k_e (r_hereB hB pU.1 pU.2.1 pU.2.2.1) (k_eq hb1.1 (by decide) (fun d => k_bd (k_mono (r_much hB (by decide) z_sl3 (Or.inr ⟨rfl, rfl⟩) (p0 := p) ?_ (by decide) pU (by omega) dU) (fun _ _ q => k_some (z_c2T fU q)))) (fun d => k_bd (k_mono (r_tells hB (by decide) z_sl4 (j := 4) (by decide) (by decide) (p0 := p) ?_ (by decide) pU (by omega) dU) (fun _ _ q => k_some (z_c2T fU q)))))) (fun z => absurd c z)
    · unfold kz_pW
      rw [if_neg (show ¬ B p = 103 by omega), if_pos c, if_pos d]
    · unfold kz_pW
      rw [if_neg (show ¬ B p = 103 by omega), if_pos c, if_neg d]
      rfl
  refine k_eq hbp.1 (by decide) (fun c => tel (r_tells hB (by decide) z_sl8 (j := 2) (by decide) (by decide) ?_ (by decide) hp (Int.le_refl _) hd)) (fun c105 => ?_)
  · unfold kz_pW
    rw [if_neg (show ¬ B p = 103 by omega), if_neg (show ¬ B p = 104 by omega), if_neg (show ¬ B p = 119 by omega), if_neg (show ¬ B p = 99 by omega), if_pos c]
    rfl
  refine k_eq hbp.1 (by decide) (fun c => tel (r_tells hB (by decide) z_sl6 (j := 0) (by decide) (by decide) ?_ (by decide) hp (Int.le_refl _) hd)) (fun c119 => ?_)
  · unfold kz_pW
    rw [if_neg (show ¬ B p = 103 by omega), if_neg (show ¬ B p = 104 by omega), if_pos c]
    rfl
  refine k_lt (k_some (z_c2B (q := p) ?_ (z_FfU (Or.inr (Or.inl rfl)) z_Ff0) (by rw [z_up0 (by decide)]; exact hp.2.1) (by rw [z_up0 (by decide)]; exact hp.2.2.2.2.1) z_up0e))
  have eW : kz_pW B p = (-1, p) := by
    unfold kz_pW
    rw [if_neg c103, if_neg c104, if_neg c119, if_neg c99, if_neg c105, if_neg c97]
  unfold kz_pC
  rw [eW]
  rfl
/-- how the reading ended -/
def kz_fi (N h : Int) (t : kz_PH) (τ : kp_W) : Prop := τ 0 5 = t.2.1 ∧ (t.1 = true → τ 0 7 = 0 ∧ t.2.1 = N ∧ kz_Dw h t.2.2.1 t.2.2.2 τ) ∧ (t.1 = false → τ 0 7 = 1 ∨ (τ 0 7 = 0 ∧ ¬ t.2.1 = N))
theorem r_houseL (hB : kz_By B N) {τ0 : kp_W} {K : kp_W → kp_R} : ∀ (n k : Nat) (x p : Int) (cls : List kz_C) (u : Int → Int) (τ : kp_W), x = 10 - (k : Int) → k ≤ 9 → k < n → kz_p2 B N h 0 p τ → kz_Dw h cls u τ → kz_Ff h τ0 τ → (∀ τ', kz_Ff h τ0 τ' → kz_fi N h (kz_pH B N (k + 1) p cls u) τ' → kp_ok (K τ') Q) → kp_ok (kp_bd (kf_X10_clauseHere τ) (fun _ σ => kl_X10_house_145 n x σ K)) Q
  | 0, _, _, _, _, _, _, _, _, hn, _, _, _, _ => by omega
  | n + 1, k, x, p, cls, u, τ, hx, hk, hn, hp, hd, hf, hK => by
    have hN := hB.1
    refine k_bd (k_mono (r_clause hB hp hd) (fun _ σ hq => ?_))
    obtain ⟨q1, q2, q3, q4, q5⟩ := hq
    have F := z_FfT hf q1
    have hg := z_pC (z_By hB) (p := p) hp.2.2.1.2
    rw [kz_pH] at hK
    try dsimp only at hK
    rw [kl_X10_house_145]
    generalize kz_pC B p = t at *
    cases ht : t.1 with
    | false =>
      rw [ht] at q4
      have q4' : σ 0 7 = 1 := q4
      rw [if_pos ht] at hK
      exact k_eq (by rw [q4']; decide) (by decide) (fun z => by omega) (fun _ => hK σ F ⟨q2, fun z => (by cases z), fun _ => Or.inl q4'⟩)
    | true =>
      rw [ht] at q4
      have q4' : σ 0 7 = 0 := q4
      obtain ⟨d5, p5⟩ := q5 ht
      have hr := p5.2.2.1
      rw [if_neg (fun z => by rw [ht] at z; cases z)] at hK
      refine k_eq (by rw [q4']; decide) (by decide) (fun _ => ?_) (fun z => absurd q4' z)
      by_cases c : t.2.1 = N
      · rw [if_pos c] at hK
        have fin : kp_ok (K σ) Q := hK σ F ⟨q2.trans c, fun _ => ⟨q4', rfl, d5⟩, fun z => by cases z⟩
        refine k_ls ⟨by omega, by omega⟩ (by decide) (fun _ => k_e (r_hereB hB p5.1 p5.2.1 p5.2.2.1) (k_eq (z_ByI hB _).1 (by decide) (fun g => ?_) (fun _ => fin))) (fun _ => fin)
        have := hB.2.2 t.2.1 (by omega)
        omega
      · rw [if_neg c] at hK
        refine k_ls ⟨by omega, by omega⟩ (by decide) (fun e => k_e (r_hereB hB p5.1 p5.2.1 p5.2.2.1) (k_eq (z_ByI hB _).1 (by decide) (fun g => k_lt ?_) (fun g => ?_))) (fun e => ?_)
        · rw [if_neg (fun z => z.elim (by omega) (fun z => z g))] at hK
          rw [q2]
          have pU := z_p2U hN.2 p5 (by omega)
          have fU : kz_Ff h σ (kp_up σ 0 5 (t.2.1 + 1)) := z_FfU (Or.inl rfl) z_Ff0
          obtain ⟨k', rfl⟩ : ∃ k', k = k' + 1 := ⟨k - 1, by omega⟩
          exact r_houseL hB n k' (x + 1) (t.2.1 + 1) _ _ _ (by omega) (by omega) (by omega) pU (z_DwU (kp_up_ne (by decide)) d5) (z_FfT F fU) hK
        · rw [if_pos (Or.inr g)] at hK
          exact hK σ F ⟨q2, fun z => (by cases z), fun _ => Or.inr ⟨q4', c⟩⟩
        · rw [if_pos (Or.inl (by omega))] at hK
          exact hK σ F ⟨q2, fun z => (by cases z), fun _ => Or.inr ⟨q4', c⟩⟩
end RHP
/-- what a house called leaves of the reference -/
def kz_Hr (s : Nat → Int) (τ : kp_W) (r : Int) (τ' : kp_W) : Prop :=
  (∀ a, a ≠ 0 → a ≠ 1 → τ' a = τ a) ∧ (∀ j, ¬ (4 ≤ j ∧ j ≤ 8) → τ' 0 j = τ 0 j) ∧ τ' 1 3 = 0 ∧ (∀ i, i ≠ 1 → i ≠ 3 → i ≠ 4 → ¬ kz_col (s 1) i → τ' 1 i = s i) ∧
  ((kz_hs s).1 = false → r = -10 - (kz_hs s).2.1 ∧ τ' 1 1 = s 1 ∧ τ' 1 4 = s 4) ∧
  ((kz_hs s).1 = true → r = s 1 ∧ τ' 1 1 = s 1 + 1 ∧ τ' 1 4 = s 1 ∧ kz_Dw (s 1) (kz_hs s).2.2.1 (kz_hs s).2.2.2 τ')
theorem r_houseA {s : Nat → Int} {τ : kp_W} (hI : kz_Is s) (es : τ 1 = s) : kp_ok (kf_X10_house τ) (fun r τ' => if s 1 = 5 then r = -4 ∧ τ' = τ else kz_Hr s τ r τ') := by
  have h1 := hI.1.2.1
  have hB := z_tB hI
  have hN := hB.1
  unfold kf_X10_house
  rw [es]
  refine k_eq ⟨by omega, by omega⟩ (by decide) (fun c => k_some (by rw [if_pos c]; exact ⟨rfl, rfl⟩)) (fun c => ?_)
  simp only [if_neg c]
  refine k_lt (k_lt (k_lt ?_))
  rw [show kp_up τ 0 4 (s 1) 1 3 = s 3 by rw [kp_up_ne (by decide), es]]
  have e4 : ∀ {σ : kp_W} {i : Nat} {x : Int}, σ 0 4 = s 1 → kp_up σ 1 i x 0 4 = s 1 := fun hσ => by rw [kp_up_ne (by decide)]; exact hσ
  have q0 : kp_up (kp_up (kp_up τ 0 4 (s 1)) 0 6 (s 3)) 1 3 0 0 4 = s 1 := by rw [kp_up_ne (by decide), z_up0 (by decide), z_up0e]
  generalize hσ0 : kp_up (kp_up (kp_up τ 0 4 (s 1)) 0 6 (s 3)) 1 3 0 = σ0 at *
  rw [q0]
  refine k_ck ⟨by omega, by omega⟩ (k_lt ?_)
  rw [e4 q0]
  refine k_ck ⟨by omega, by omega⟩ (k_lt ?_)
  rw [e4 (e4 q0)]
  refine k_ck ⟨by omega, by omega⟩ (k_lt ?_)
  rw [e4 (e4 (e4 q0))]
  refine k_ck ⟨by omega, by omega⟩ (k_lt ?_)
  rw [e4 (e4 (e4 (e4 q0)))]
  refine k_ck ⟨by omega, by omega⟩ (k_lt ?_)
  rw [e4 (e4 (e4 (e4 (e4 q0))))]
  refine k_ck ⟨by omega, by omega⟩ (k_lt (k_lt (k_lt (k_lt (k_lt ?_)))))
  generalize hσ : kp_up (kp_up (kp_up (kp_up (kp_up (kp_up (kp_up (kp_up (kp_up σ0 1 (Int.toNat (336 + s 1)) 3) 1 (Int.toNat (341 + s 1)) 1) 1 (Int.toNat (346 + s 1)) 1) 1 (Int.toNat (351 + s 1)) 4) 1 (Int.toNat (356 + s 1)) 1) 1 (Int.toNat (361 + s 1)) 0) 0 5 0) 0 7 0) 0 8 0 = σ
  have b0 : ∀ j, σ 0 j = if j = 8 then 0 else if j = 7 then 0 else if j = 5 then 0 else if j = 6 then s 3 else if j = 4 then s 1 else τ 0 j := fun j => by
    rw [← hσ, kp_up_eq, kp_up_eq, kp_up_eq, kp_up_ne (by decide), kp_up_ne (by decide), kp_up_ne (by decide), kp_up_ne (by decide), kp_up_ne (by decide), kp_up_ne (by decide), ← hσ0, kp_up_ne (by decide), kp_up_eq, kp_up_eq]
  have b1 : ∀ i, σ 1 i = if i = Int.toNat (361 + s 1) then 0 else if i = Int.toNat (356 + s 1) then 1 else if i = Int.toNat (351 + s 1) then 4 else if i = Int.toNat (346 + s 1) then 1 else if i = Int.toNat (341 + s 1) then 1 else if i = Int.toNat (336 + s 1) then 3 else if i = 3 then 0 else s i := fun i => by
    rw [← hσ, kp_up_ne (by decide), kp_up_ne (by decide), kp_up_ne (by decide), kp_up_eq, kp_up_eq, kp_up_eq, kp_up_eq, kp_up_eq, kp_up_eq, ← hσ0, kp_up_eq, kp_up_ne (by decide), kp_up_ne (by decide), es]
  have ba : ∀ a, a ≠ 0 → a ≠ 1 → σ a = τ a := fun a a0 a1 => by
    rw [← hσ, kp_up_ne a0, kp_up_ne a0, kp_up_ne a0, kp_up_ne a1, kp_up_ne a1, kp_up_ne a1, kp_up_ne a1, kp_up_ne a1, kp_up_ne a1, ← hσ0, kp_up_ne a1, kp_up_ne a0, kp_up_ne a0]
  have hp : kz_p2 (kz_tB s) (s 3) (s 1) 0 0 σ := by
    refine ⟨⟨⟨h1.1, by omega⟩, by rw [b0]; rfl, by rw [b0]; rfl, fun x x0 x1 => ?_⟩, by rw [b0]; rfl, ⟨Int.le_refl 0, hN.1⟩, by rw [b0]; rfl, by rw [b0]; rfl, ?_, ?_⟩
    · rw [b1, if_neg (by omega), if_neg (by omega), if_neg (by omega), if_neg (by omega), if_neg (by omega), if_neg (by omega), if_neg (by omega)]
      unfold kz_tB
      rw [if_pos ⟨x0, x1⟩]
    · rw [b1, if_pos rfl]; exact Int.le_refl 0
    · rw [b1, if_pos rfl]; exact Int.le_refl 0
  have hd : kz_Dw (s 1) [] kz_df σ := by
    refine ⟨by rw [b1, if_pos rfl]; rfl, trivial, fun j j0 j1 => ?_⟩
    have hj : j = 0 ∨ j = 1 ∨ j = 2 ∨ j = 3 ∨ j = 4 := by omega
    rcases hj with rfl | rfl | rfl | rfl | rfl
    · rw [b1, if_neg (by omega), if_neg (by omega), if_neg (by omega), if_neg (by omega), if_neg (by omega), if_pos (by omega)]; decide
    · rw [b1, if_neg (by omega), if_neg (by omega), if_neg (by omega), if_neg (by omega), if_pos (by omega)]; decide
    · rw [b1, if_neg (by omega), if_neg (by omega), if_neg (by omega), if_pos (by omega)]; decide
    · rw [b1, if_neg (by omega), if_neg (by omega), if_pos (by omega)]; decide
    · rw [b1, if_neg (by omega), if_pos (by omega)]; decide
  refine r_houseL hB kp_fu 9 1 0 [] kz_df σ (by decide) (by decide) (by rw [kp_fu_eq]; decide) hp hd z_Ff0 (fun τ' f q => ?_)
  have q' : kz_fi (s 3) (s 1) (kz_hs s) τ' := q
  obtain ⟨g1, g2, g3⟩ := q'
  have F1 : ∀ i, ¬ kz_col (s 1) i → τ' 1 i = if i = 3 then 0 else s i := fun i hi => by
    rw [f.2.2 i hi, b1]
    unfold kz_col at hi
    rw [if_neg (by omega), if_neg (by omega), if_neg (by omega), if_neg (by omega), if_neg (by omega), if_neg (by omega)]
  have no : ∀ i : Nat, i < 5 → ¬ kz_col (s 1) i := fun i hi z => by unfold kz_col at z; omega
  have t4 : τ' 0 4 = s 1 := by rw [f.2.1 4 (by decide) (by decide) (by decide), b0]; rfl
  have t6 : τ' 0 6 = s 3 := by rw [f.2.1 6 (by decide) (by decide) (by decide), b0]; rfl
  have t0 : ∀ j, ¬ (4 ≤ j ∧ j ≤ 8) → τ' 0 j = τ 0 j := fun j hj => by rw [f.2.1 j (by omega) (by omega) (by omega), b0, if_neg (by omega), if_neg (by omega), if_neg (by omega), if_neg (by omega), if_neg (by omega)]
  have ta : ∀ a, a ≠ 0 → a ≠ 1 → τ' a = τ a := fun a a0 a1 => (f.1 a a0 a1).trans (ba a a0 a1)
  have hr := z_hs hI
  unfold kz_Hr
  cases ht : (kz_hs s).1 with
  | false =>
    have fin : kp_ok (some (-10 - τ' 0 5, τ')) (fun r τ' => (∀ a, a ≠ 0 → a ≠ 1 → τ' a = τ a) ∧ (∀ j, ¬ (4 ≤ j ∧ j ≤ 8) → τ' 0 j = τ 0 j) ∧ τ' 1 3 = 0 ∧ (∀ i, i ≠ 1 → i ≠ 3 → i ≠ 4 → ¬ kz_col (s 1) i → τ' 1 i = s i) ∧ (false = false → r = -10 - (kz_hs s).2.1 ∧ τ' 1 1 = s 1 ∧ τ' 1 4 = s 4) ∧ (false = true → r = s 1 ∧ τ' 1 1 = s 1 + 1 ∧ τ' 1 4 = s 1 ∧ kz_Dw (s 1) (kz_hs s).2.2.1 (kz_hs s).2.2.2 τ')) :=
      k_some ⟨ta, t0, by rw [F1 3 (no 3 (by decide)), if_pos rfl], fun i _ i3 _ hi => by rw [F1 i hi, if_neg i3], fun _ => ⟨by rw [g1], by rw [F1 1 (no 1 (by decide)), if_neg (by decide)], by rw [F1 4 (no 4 (by decide)), if_neg (by decide)]⟩, fun z => by cases z⟩
    rcases g3 ht with w | ⟨w, w2⟩
    · exact k_eq (by rw [w]; decide) (by decide) (fun z => by omega) (fun _ => fin)
    · exact k_eq (by rw [w]; decide) (by decide) (fun _ => k_eq (by rw [g1]; exact ⟨by omega, by omega⟩) (by rw [t6]; exact ⟨by omega, by omega⟩) (fun z => absurd (g1.symm.trans (z.trans t6)) w2) (fun _ => fin)) (fun z => absurd w z)
  | true =>
    obtain ⟨w, w2, w3⟩ := g2 ht
    refine k_eq (by rw [w]; decide) (by decide) (fun _ => k_eq (by rw [g1]; exact ⟨by omega, by omega⟩) (by rw [t6]; exact ⟨by omega, by omega⟩) (fun _ => k_lt (k_lt (k_some ?_))) (fun z => absurd (by rw [g1, t6]; exact w2) z)) (fun z => absurd w z)
    have x4 : kp_up τ' 1 1 (τ' 1 1 + 1) 0 4 = s 1 := by rw [kp_up_ne (by decide)]; exact t4
    have x44 : kp_up (kp_up τ' 1 1 (τ' 1 1 + 1)) 1 4 (s 1) 0 4 = s 1 := by rw [kp_up_ne (by decide)]; exact x4
    rw [x4, x44]
    generalize hρ : kp_up (kp_up τ' 1 1 (τ' 1 1 + 1)) 1 4 (s 1) = ρ
    have r1 : ∀ i, ρ 1 i = if i = 4 then s 1 else if i = 1 then τ' 1 1 + 1 else τ' 1 i := fun i => by rw [← hρ, kp_up_eq, kp_up_eq]
    have ra : ∀ a, a ≠ 1 → ρ a = τ' a := fun a ha => by rw [← hρ, kp_up_ne ha, kp_up_ne ha]
    refine ⟨fun a a0 a1 => (ra a a1).trans (ta a a0 a1), fun j hj => by rw [ra 0 (by decide)]; exact t0 j hj, by rw [r1, if_neg (by decide), if_neg (by decide), F1 3 (no 3 (by decide)), if_pos rfl], fun i i1 i3 i4 hi => by rw [r1, if_neg i4, if_neg i1, F1 i hi, if_neg i3], fun z => (by cases z), fun _ => ⟨rfl, ?_, by rw [r1, if_pos rfl], ?_⟩⟩
    · rw [r1, if_neg (by decide), if_pos rfl, F1 1 (no 1 (by decide)), if_neg (by decide)]
    · obtain ⟨y1, y2, y3⟩ := w3
      refine ⟨by rw [r1, if_neg (by omega), if_neg (by omega)]; exact y1, z_arrC (by omega) (fun i i0 i1 => by rw [r1, if_neg (by omega), if_neg (by omega)]) y2, fun j j0 j1 => by rw [r1, if_neg (by omega), if_neg (by omega)]; exact y3 j j0 j1⟩
