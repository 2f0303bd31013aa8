-- the reference reads clauses and a house
def kz_sl (a : Nat) (x : Int) : List Int → Prop
  | [] => kp_slen a = x
  | c :: r => ((x < kp_slen a ∧ kp_sch a x = c) ∧ 0 ≤ c ∧ c ≤ 255) ∧ kz_sl a (x + 1) r
/-- the column so far -/
def kz_Dw (h : Int) (cls : List kz_C) (u : Int → Int) (τ : kp_W) : Prop := τ 1 (Int.toNat (361 + h)) = ((kz_flR cls).length : Int) ∧ kz_arr (τ 1) (366 + 140 * h) (kz_flR cls) ∧ ∀ j, 0 ≤ j → j < 5 → τ 1 (Int.toNat (336 + 5 * j + h)) = u j
def kz_c2 (B : Int → Int) (N h p : Int) (cls : List kz_C) (u : Int → Int) (τ τ' : kp_W) : Prop := kz_Ff h τ τ' ∧ τ' 0 5 = (kz_pC B p).2.1 ∧ τ' 0 8 = 0 ∧ τ' 0 7 = (if (kz_pC B p).1 = true then 0 else 1) ∧ ((kz_pC B p).1 = true → kz_Dw h (kz_cU (kz_pC B p) cls) (kz_uU (kz_pC B p) u) τ' ∧ kz_p2 B N h 0 (kz_pC B p).2.1 τ')
theorem z_c2T {B : Int → Int} {N h p : Int} {cls : List kz_C} {u : Int → Int} {τ τ1 τ' : kp_W} (f : kz_Ff h τ τ1) (q : kz_c2 B N h p cls u τ1 τ') : kz_c2 B N h p cls u τ τ' := ⟨z_FfT f q.1, q.2⟩
theorem z_c2B {B : Int → Int} {N h p q : Int} {cls : List kz_C} {u : Int → Int} {τ τ' : kp_W} (e : kz_pC B p = (false, q, 0, 0, [], [])) (f : kz_Ff h τ τ') (e5 : τ' 0 5 = q) (e8 : τ' 0 8 = 0) (e7 : τ' 0 7 = 1) : kz_c2 B N h p cls u τ τ' := by
  unfold kz_c2
  rw [e]
  exact ⟨f, e5, e8, e7, fun z => by cases z⟩
section RHO
variable {B : Int → Int} {N h : Int} {Q : Int → kp_W → Prop}
theorem r_spW {a : Nat} (ha : a < 10) {τ : kp_W} (h7 : τ 0 7 = 1) : kf_X10_spells a τ = some (0, τ) := by
  have hl : 0 ≤ kp_slen a ∧ kp_slen a ≤ 35 := (by decide +kernel : ∀ i : Nat, i < 10 → 0 ≤ kp_slen i ∧ kp_slen i ≤ 35) a ha
  have loop : ∀ (n : Nat) (x : Int), 0 ≤ x → x ≤ kp_slen a → kp_slen a - x < n → kp_ok (kl_X10_spells_2 a n x τ (fun (σ_2 : kp_W) => some (0, σ_2))) (fun r σ => r = 0 ∧ σ = τ) := by
    intro n
    induction n with
    | zero => intro x g0 g1 g2; omega
    | succ n ih =>
      intro x g0 g1 g2
      rw [kl_X10_spells_2]
      exact k_ls ⟨by omega, by omega⟩ ⟨by omega, by omega⟩ (fun d => k_ck ⟨g0, d⟩ (k_e (r_mustW h7 _) (k_lt (ih _ (by omega) (by omega) (by omega))))) (fun d => k_some ⟨rfl, rfl⟩)
  unfold kf_X10_spells
  exact k_is (k_lt (loop kp_fu 0 (Int.le_refl 0) hl.1 (kp_fu_big (by omega))))
theorem r_spL (hB : kz_By B N) {a : Nat} (ha : a < 10) {k : kp_W → kp_R} : ∀ (l : List Int) (n : Nat) (x p : Int) (τ : kp_W), 0 ≤ x → kz_sl a x l → kp_slen a - x < n → kz_R0 B N h τ → τ 0 5 = p → (0 ≤ p ∧ p ≤ N) → τ 0 7 = 0 → ((kz_pS B l p).1 = true → kp_ok (k (kp_up τ 0 5 (kz_pS B l p).2)) Q) → ((kz_pS B l p).1 = false → kp_ok (k (kp_up (kp_up τ 0 5 (kz_pS B l p).2) 0 7 1)) Q) → kp_ok (kl_X10_spells_2 a n x τ k) Q
  | [], 0, x, p, τ, h0, hl, h2, hR, e5, hp, e7, k1, k0 => by
    have : kp_slen a = x := hl
    omega
  | c :: l, 0, x, p, τ, h0, hl, h2, hR, e5, hp, e7, k1, k0 => by have := hl.1.1.1; omega
  | [], n + 1, x, p, τ, h0, hl, h2, hR, e5, hp, e7, k1, k0 => by
    have hx : kp_slen a = x := hl
    have hl35 : kp_slen a ≤ 35 := (by decide +kernel : ∀ i : Nat, i < 10 → kp_slen i ≤ 35) a ha
    have k1' : kp_ok (k (kp_up τ 0 5 p)) Q := k1 rfl
    rw [z_upI e5] at k1'
    rw [kl_X10_spells_2]
    exact k_ls ⟨by omega, by omega⟩ ⟨by omega, by omega⟩ (fun d => by omega) (fun _ => k1')
  | c :: l, n + 1, x, p, τ, h0, hl, h2, hR, e5, hp, e7, k1, k0 => by
    have hN := hB.1
    have hl35 : kp_slen a ≤ 35 := (by decide +kernel : ∀ i : Nat, i < 10 → kp_slen i ≤ 35) a ha
    obtain ⟨⟨⟨l1, l2⟩, l3, l4⟩, l5⟩ := hl
    rw [kz_pS] at k1 k0
    rw [kl_X10_spells_2]
    refine k_ls ⟨by omega, by omega⟩ ⟨by omega, by omega⟩ (fun d => k_ck ⟨h0, d⟩ ?_) (fun d => by omega)
    rw [l2]
    refine r_mustO hB hR e5 hp e7 ⟨by omega, by omega⟩ (fun g => k_lt ?_) (fun g => k_lt ?_)
    · rw [if_pos g] at k1 k0
      have hlt := z_By hB p (by omega)
      refine r_spL hB ha l n (x + 1) (p + 1) _ (by omega) l5 (by omega) (z_R0U hN.2 (Or.inl rfl) hR) z_up0e ⟨by omega, by omega⟩ (by rw [z_up0 (by decide)]; exact e7) (fun z => ?_) (fun z => ?_)
      · rw [z_upU]; exact k1 z
      · rw [z_upU]; exact k0 z
    · rw [if_neg g] at k0
      have k0' : kp_ok (k (kp_up (kp_up τ 0 5 p) 0 7 1)) Q := k0 rfl
      rw [z_upI e5] at k0'
      have w1 : kp_up τ 0 7 1 0 7 = 1 := z_up0e
      -- the rest changes nothing
      have rest : ∀ (n : Nat) (x : Int), 0 ≤ x → x ≤ kp_slen a → kp_slen a - x < n → kp_ok (kl_X10_spells_2 a n x (kp_up τ 0 7 1) k) Q := by
        intro n
        induction n with
        | zero => intro x g0 g1 g2; omega
        | succ n ih =>
          intro x g0 g1 g2
          rw [kl_X10_spells_2]
          exact k_ls ⟨by omega, by omega⟩ ⟨by omega, by omega⟩ (fun d => k_ck ⟨g0, d⟩ (k_e (r_mustW w1 _) (k_lt (ih _ (by omega) (by omega) (by omega))))) (fun d => k0')
      exact rest n (x + 1) (by omega) (by omega) (by omega)
theorem r_spO (hB : kz_By B N) {a : Nat} (ha : a < 10) {l : List Int} (hl : kz_sl a 0 l) {p : Int} {τ : kp_W} (hR : kz_R0 B N h τ) (e5 : τ 0 5 = p) (hp : 0 ≤ p ∧ p ≤ N) (e7 : τ 0 7 = 0) {f : Int → kp_W → kp_R} (h1 : (kz_pS B l p).1 = true → kp_ok (f 0 (kp_up τ 0 5 (kz_pS B l p).2)) Q) (h0 : (kz_pS B l p).1 = false → kp_ok (f 0 (kp_up (kp_up τ 0 5 (kz_pS B l p).2) 0 7 1)) Q) : kp_ok (kp_bd (kf_X10_spells a τ) f) Q := by
  have hl35 : kp_slen a ≤ 35 := (by decide +kernel : ∀ i : Nat, i < 10 → kp_slen i ≤ 35) a ha
  refine k_bd ?_
  unfold kf_X10_spells
  exact k_lt (r_spL hB ha l kp_fu 0 p τ (Int.le_refl 0) hl (kp_fu_big (by omega)) hR e5 hp e7 (fun z => k_some (h1 z)) (fun z => k_some (h0 z)))
theorem z_DwU {τ τ' : kp_W} {cls : List kz_C} {u : Int → Int} (e : τ' 1 = τ 1) (q : kz_Dw h cls u τ) : kz_Dw h cls u τ' := by
  unfold kz_Dw; rw [e]; exact q
theorem r_much (hB : kz_By B N) {a1 w : Int} {a2 : Nat} (ha : a2 < 10) {l : List Int} (hl : kz_sl a2 0 l) (hw : w = 0 ∧ a1 = -10 ∨ w = 1 ∧ a1 = -200) {p0 p : Int} {τ : kp_W} (hW : kz_pW B p0 = kz_w1 w (kz_pS B l p)) (hlc : ∀ c ∈ l, 0 ≤ c) {cls : List kz_C} {u : Int → Int} (hp : kz_p2 B N h 0 p τ) (h0p : p0 ≤ p) (hd : kz_Dw h cls u τ) : kp_ok (kf_X10_much a1 a2 τ) (fun _ τ' => kz_c2 B N h p0 cls u τ τ') := by
  have hN := hB.1
  have hb := z_By hB
  obtain ⟨hR, e5, hpp, e7, e8, s0, s1⟩ := id hp
  have hS := z_pS hb l p hlc hpp.2
  have U : ∀ {q : Int}, kz_Ff h τ (kp_up τ 0 5 q) := z_FfU (Or.inl rfl) z_Ff0
  have bad : ∀ {q : Int}, kz_pC B p0 = (false, q, 0, 0, [], []) → kz_c2 B N h p0 cls u τ (kp_up (kp_up τ 0 5 q) 0 7 1) := fun e => z_c2B e (z_FfU (Or.inr (Or.inl rfl)) U) (by rw [z_up0 (by decide), z_up0e]) (by rw [z_up0 (by decide), z_up0 (by decide)]; exact e8) z_up0e
  unfold kf_X10_much
  refine r_spO hB ha hl hR e5 hpp e7 (fun h1 => ?_) (fun h1 => k_e (r_figW z_up0e) (k_lt (k_e (r_mustW z_up0e _) (k_e (r_tsW 9 z_up0e) (k_e (r_emitW z_up0e _) (k_some (bad ?_)))))))
  · have eW : kz_pW B p0 = (w, (kz_pS B l p).2) := by rw [hW]; unfold kz_w1; rw [if_pos h1]
    generalize (kz_pS B l p).2 = q at *
    have hR1 := z_R0U (x := q) hN.2 (Or.inl rfl) hR
    have hn := z_pN hb (p := q)
    refine r_figO hB hR1 z_up0e ⟨by omega, by omega⟩ (by rw [z_up0 (by decide)]; exact e7) (fun h2 => k_lt ?_) (fun h2 => k_lt (k_e (r_mustW z_up0e _) (k_e (r_tsW 9 z_up0e) (k_e (r_emitW z_up0e _) (k_some (bad ?_))))))
    · rw [z_upU]
      have eC : kz_pC B p0 = if B (kz_pN B q).2 = 32 then (let t := kz_pE B 10 0 ((kz_pN B q).2 + 1); (t.1, t.2.1, w, (kz_pN B q).1, t.2.2.1, t.2.2.2)) else (false, (kz_pN B q).2, 0, 0, [], []) := by
        unfold kz_pC
        rw [eW, if_neg (show ¬ w = -1 by omega)]
        dsimp only
        rw [if_neg h2, if_neg (show ¬ 2 ≤ w by omega)]
      generalize kz_pN B q = M at *
      obtain ⟨n, q2⟩ := M
      dsimp only at *
      have hR2 := z_R0U (x := q2) hN.2 (Or.inl rfl) hR
      refine r_mustO hB hR2 z_up0e ⟨by omega, by omega⟩ (by rw [z_up0 (by decide)]; exact e7) (by decide) (fun g => ?_) (fun g => k_e (r_tsW 9 z_up0e) (k_e (r_emitW z_up0e _) (k_some (bad ?_))))
      · rw [if_pos g] at eC
        try dsimp only at eC
        have hlt := hb q2 (by omega)
        rw [z_upU]
        generalize hσ : kp_up τ 0 5 (q2 + 1) = σ3
        have b1 : σ3 1 = τ 1 := by rw [← hσ, kp_up_ne (by decide)]
        have b8 : σ3 0 8 = 0 := by rw [← hσ, z_up0 (by decide)]; exact e8
        have f3 : kz_Ff h τ σ3 := by rw [← hσ]; exact U
        have p3 : kz_p2 B N h 0 (q2 + 1) σ3 := ⟨z_R0F hN.2 f3 hR, by rw [← hσ, z_up0e], ⟨by omega, by omega⟩, by rw [← hσ, z_up0 (by decide)]; exact e7, b8, by rw [b1]; exact s0, by rw [b1]; omega⟩
        have hg := z_Gr (z_gE hb 10 0 (q2 + 1) (by decide) (by decide) (by omega))
        refine k_bd (k_mono (r_somC hB (q2 + 1) σ3 p3) (fun v σ4 h4 => ?_))
        have n4 : (kz_pE B 10 0 (q2 + 1)).1 = true → kz_p2 B N h 0 (kz_pE B 10 0 (q2 + 1)).2.1 σ4 := fun z => z_p2N hN.2 p3 hg h4 z
        generalize kz_pE B 10 0 (q2 + 1) = t at *
        obtain ⟨ok, r, ec, er⟩ := t
        obtain ⟨c1, c2, c3, c4, c5⟩ := h4
        dsimp only at eC
        cases ok with
        | false =>
          have c4' : σ4 0 7 = 1 := c4
          refine k_e (r_emitW c4' _) (k_some ?_)
          unfold kz_c2
          rw [eC]
          exact ⟨z_FfT f3 (z_FfE hR.1 c1), c2, c3.trans b8, c4, fun z => by cases z⟩
        | true =>
          have p4 := n4 rfl
          have hr : r ≤ N := hg.1.2
          have l4 : σ4 1 (Int.toNat (361 + h)) ≤ r := p4.2.2.2.2.2.2
          refine r_emitO hR.1 p4.1.2.1 p4.2.2.2.1 p4.2.2.2.2.2.1 (by omega) (fun σ5 g1 g2 g3 => k_some ?_)
          have A := z_A2T hR.1.1 (by rw [b1]; exact s0) (c5 rfl) g3
          have A' : kz_A2 h τ σ5 (er ++ [a1 - n]) := z_A2E b1.symm rfl A
          have F5 : kz_Fe h σ3 σ5 := z_FeT c1 g1
          unfold kz_c2
          rw [eC]
          have e1 : kz_cU (true, r, w, n, ec, er) cls = cls ++ [(decide (w = 0), n, ec, er)] := by
            unfold kz_cU; rw [if_neg (by dsimp only; omega)]
          have e2 : kz_uU (true, r, w, n, ec, er) u = u := by
            unfold kz_uU; rw [if_neg (by dsimp only; omega)]
          have e3 : kz_stp (decide (w = 0), n, ec, er) = er ++ [a1 - n] := by
            unfold kz_stp
            rcases hw with ⟨rfl, rfl⟩ | ⟨rfl, rfl⟩ <;> rfl
          obtain ⟨d1, d2, d3⟩ := hd
          obtain ⟨a1', a2', a3'⟩ := A'
          have lst : σ5 1 (Int.toNat (361 + h)) ≤ r := by
            have := g3.1
            have c51 := (c5 rfl).1
            have g2r := (hg.2 rfl).2
            have : σ5 1 (Int.toNat (361 + h)) = σ4 1 (Int.toNat (361 + h)) + 1 := this
            have c51' : σ4 1 (Int.toNat (361 + h)) = σ3 1 (Int.toNat (361 + h)) + (er.length : Int) := c51
            have g2r' : (er.length : Int) ≤ r - (q2 + 1) := g2r
            rw [b1] at c51'
            omega
          refine ⟨z_FfT f3 (z_FfE hR.1 F5), by rw [g2]; exact c2, by rw [g2, c3]; exact b8, by rw [g2]; exact c4, fun _ => ⟨?_, ?_⟩⟩
          · show kz_Dw h (kz_cU (true, r, w, n, ec, er) cls) (kz_uU (true, r, w, n, ec, er) u) σ5
            rw [e1, e2]
            refine ⟨?_, ?_, fun j j0 j1 => ?_⟩
            · rw [z_flA, e3, List.length_append, a1', d1]; omega
            · rw [z_flA, e3]
              refine z_arrA (z_arrC (by have := hR.1; omega) (fun i i0 i1 => ?_) d2) (by rw [← d1]; exact a3')
              have := a2' (i - (366 + 140 * h)) (by omega) (by omega)
              rw [show 366 + 140 * h + (i - (366 + 140 * h)) = i by omega] at this
              exact this
            · rw [F5.2.2 _ (fun z => by have := hR.1; unfold kz_coE at z; omega), b1]
              exact d3 j j0 j1
          · exact ⟨z_R0F hN.2 (z_FfE hR.1 g1) p4.1, by rw [g2]; exact p4.2.1, p4.2.2.1, by rw [g2]; exact p4.2.2.2.1, by rw [g2]; exact p4.2.2.2.2.1, by rw [a1']; omega, lst⟩
      · rw [if_neg g] at eC; exact eC
    · unfold kz_pC
      rw [eW, if_neg (show ¬ w = -1 by omega)]
      dsimp only
      rw [if_pos h2]
      rcases hn with hn | hn
      · rw [hn.2]
      · omega
  · unfold kz_pC
    rw [hW]
    unfold kz_w1
    rw [if_neg (show ¬ (kz_pS B l p).1 = true by rw [h1]; decide)]
    rfl
theorem r_tells (hB : kz_By B N) {a1 j : Int} {a2 : Nat} (ha : a2 < 10) {l : List Int} (hl : kz_sl a2 0 l) (hj : 0 ≤ j ∧ j < 5) (ha1 : a1 = 336 + 5 * j) {p0 p : Int} {τ : kp_W} (hW : kz_pW B p0 = kz_w1 (j + 2) (kz_pS B l p)) (hlc : ∀ c ∈ l, 0 ≤ c) {cls : List kz_C} {u : Int → Int} (hp : kz_p2 B N h 0 p τ) (h0p : p0 ≤ p) (hd : kz_Dw h cls u τ) : kp_ok (kf_X10_tellsHere a1 a2 τ) (fun _ τ' => kz_c2 B N h p0 cls u τ τ') := by
  have hN := hB.1
  have hb := z_By hB
  obtain ⟨hR, e5, hpp, e7, e8, s0, s1⟩ := id hp
  have hh := hR.1
  have hS := z_pS hb l p hlc hpp.2
  have U : ∀ {q : Int}, kz_Ff h τ (kp_up τ 0 5 q) := z_FfU (Or.inl rfl) z_Ff0
  have bad : ∀ {q : Int}, kz_pC B p0 = (false, q, 0, 0, [], []) → kz_c2 B N h p0 cls u τ (kp_up (kp_up τ 0 5 q) 0 7 1) := fun e => z_c2B e (z_FfU (Or.inr (Or.inl rfl)) U) (by rw [z_up0 (by decide), z_up0e]) (by rw [z_up0 (by decide), z_up0 (by decide)]; exact e8) z_up0e
  have w7 : ∀ {q : Int}, kp_up (kp_up τ 0 5 q) 0 7 1 0 7 = 1 := z_up0e
  unfold kf_X10_tellsHere
  refine r_spO hB ha hl hR e5 hpp e7 (fun h1 => ?_) (fun h1 => k_e (r_figW z_up0e) (k_lt (k_eq (by rw [w7]; decide) (by decide) (fun z => by rw [w7] at z; omega) (fun _ => k_some (bad ?_)))))
  · have eW : kz_pW B p0 = (j + 2, (kz_pS B l p).2) := by rw [hW]; unfold kz_w1; rw [if_pos h1]
    generalize (kz_pS B l p).2 = q at *
    have hR1 := z_R0U (x := q) hN.2 (Or.inl rfl) hR
    have hn := z_pN hb (p := q)
    refine r_figO hB hR1 z_up0e ⟨by omega, by omega⟩ (by rw [z_up0 (by decide)]; exact e7) (fun h2 => k_lt ?_) (fun h2 => k_lt (k_eq (by rw [w7]; decide) (by decide) (fun z => by rw [w7] at z; omega) (fun _ => k_some (bad ?_))))
    · rw [z_upU]
      have eC : kz_pC B p0 = (true, (kz_pN B q).2, j + 2, (kz_pN B q).1, [], []) := by
        unfold kz_pC
        rw [eW, if_neg (show ¬ j + 2 = -1 by omega)]
        dsimp only
        rw [if_neg h2, if_pos (show 2 ≤ j + 2 by omega)]
      generalize kz_pN B q = M at *
      obtain ⟨n, q2⟩ := M
      dsimp only at *
      have e72 : kp_up τ 0 5 q2 0 7 = 0 := by rw [z_up0 (by decide)]; exact e7
      have e42 : kp_up τ 0 5 q2 0 4 = h := by rw [z_up0 (by decide)]; exact hR.2.1
      refine k_eq (by rw [e72]; decide) (by decide) (fun _ => ?_) (fun z => absurd e72 z)
      rw [e42]
      refine k_ck ⟨by omega, by omega⟩ (k_lt (k_some ?_))
      generalize hσ : kp_up (kp_up τ 0 5 q2) 1 (Int.toNat (a1 + h)) n = σ3
      have b0 : ∀ i, σ3 0 i = kp_up τ 0 5 q2 0 i := fun i => by rw [← hσ, kp_up_ne (by decide)]
      have b1 : ∀ i, σ3 1 i = if i = Int.toNat (a1 + h) then n else τ 1 i := fun i => by rw [← hσ, kp_up_eq, kp_up_ne (by decide)]
      have f3 : kz_Ff h τ σ3 := ⟨fun a a0 a1' => by rw [← hσ, kp_up_ne a1', kp_up_ne a0], fun i i5 i7 i8 => by rw [b0, z_up0 i5], fun i hi => by
        rw [b1, if_neg (fun z => hi ?_)]
        unfold kz_col
        omega⟩
      have cnt : σ3 1 (Int.toNat (361 + h)) = τ 1 (Int.toNat (361 + h)) := by rw [b1, if_neg (by omega)]
      obtain ⟨d1, d2, d3⟩ := hd
      unfold kz_c2
      rw [eC]
      have e1 : kz_cU (true, q2, j + 2, n, [], []) cls = cls := by
        unfold kz_cU; rw [if_pos (by dsimp only; omega)]
      have e2 : kz_uU (true, q2, j + 2, n, [], []) u = fun i => if i = j then n else u i := by
        unfold kz_uU; rw [if_pos (by dsimp only; omega)]
        funext i
        dsimp only
        rw [show j + 2 - 2 = j by omega]
      refine ⟨f3, by rw [b0, z_up0e], by rw [b0, z_up0 (by decide)]; exact e8, by rw [b0, e72]; rfl, fun _ => ⟨?_, ?_⟩⟩
      · show kz_Dw h (kz_cU (true, q2, j + 2, n, [], []) cls) (kz_uU (true, q2, j + 2, n, [], []) u) σ3
        rw [e1, e2]
        refine ⟨cnt.trans d1, z_arrC (by omega) (fun i i0 i1 => by rw [b1, if_neg (by omega)]) d2, fun i i0 i1 => ?_⟩
        rw [b1]
        dsimp only
        by_cases c : i = j
        · rw [if_pos (by rw [c, ha1]), if_pos c]
        · rw [if_neg (by omega), if_neg c]; exact d3 i i0 i1
      · show kz_p2 B N h 0 q2 σ3
        exact ⟨z_R0F hN.2 f3 hR, by rw [b0, z_up0e], ⟨by omega, by omega⟩, by rw [b0, e72], by rw [b0, z_up0 (by decide)]; exact e8, by rw [cnt]; exact s0, by rw [cnt]; omega⟩
    · unfold kz_pC
      rw [eW, if_neg (show ¬ j + 2 = -1 by omega)]
      dsimp only
      rw [if_pos h2]
      rcases hn with hn | hn
      · rw [hn.2]
      · omega
  · unfold kz_pC
    rw [hW]
    unfold kz_w1
    rw [if_neg (show ¬ (kz_pS B l p).1 = true by rw [h1]; decide)]
    rfl
end RHO
