-- the reference reads an E
def kz_p2 (B : Int → Int) (N h o p : Int) (τ : kp_W) : Prop := kz_R0 B N h τ ∧ τ 0 5 = p ∧ (0 ≤ p ∧ p ≤ N) ∧ τ 0 7 = 0 ∧ τ 0 8 = o ∧ 0 ≤ τ 1 (Int.toNat (361 + h)) ∧ τ 1 (Int.toNat (361 + h)) ≤ p
def kz_q2 (h : Int) (r : kz_PR) (τ τ' : kp_W) : Prop := kz_Fe h τ τ' ∧ τ' 0 5 = r.2.1 ∧ τ' 0 8 = τ 0 8 ∧ τ' 0 7 = (if r.1 = true then 0 else 1) ∧ (r.1 = true → kz_A2 h τ τ' r.2.2.2)
def kz_C2 (B : Int → Int) (N h o : Int) (F : kp_W → kp_R) (G : Int → kz_PR) : Prop := ∀ p τ, kz_p2 B N h o p τ → kp_ok (F τ) (fun _ τ' => kz_q2 h (G p) τ τ')
/-- lengths -/
def kz_Gr (N p : Int) (r : kz_PR) : Prop := (p ≤ r.2.1 ∧ r.2.1 ≤ N) ∧ (r.1 = true → p < r.2.1 ∧ (r.2.2.2.length : Int) ≤ r.2.1 - p)
theorem z_Gr {d : Nat} {N p : Int} {r : kz_PR} (h : kz_Gd d N p r) : kz_Gr N p r := ⟨h.1, fun z => ⟨(h.2 z).1, (h.2 z).2.1.2⟩⟩
theorem z_Grf {d : Nat} {N p : Int} {r : kz_PR × Bool} (h : kz_Gf d N p r) : kz_Gr N p r.1 := ⟨h.1, fun z => ⟨(h.2 z).1, (h.2 z).2.1.2⟩⟩
theorem z_q2B {h q : Int} {τ τ' : kp_W} (f : kz_Fe h τ τ') (e5 : τ' 0 5 = q) (e8 : τ' 0 8 = τ 0 8) (e7 : τ' 0 7 = 1) : kz_q2 h (kz_bad q) τ τ' := ⟨f, e5, e8, e7, fun z => by cases z⟩
theorem z_p2N {B : Int → Int} {N h o p : Int} {τ τ' : kp_W} {r : kz_PR} (hN : N ≤ 120) (hp : kz_p2 B N h o p τ) (hg : kz_Gr N p r) (q : kz_q2 h r τ τ') (ht : r.1 = true) : kz_p2 B N h o r.2.1 τ' := by
  obtain ⟨q1, q2, q3, q4, q5⟩ := q
  obtain ⟨p1, p2, p3, p4, p5, p6, p7⟩ := hp
  rw [if_pos ht] at q4
  have a := (q5 ht).1
  have b := hg.2 ht
  have c := hg.1
  exact ⟨z_R0F hN (z_FfE p1.1 q1) p1, q2, ⟨by omega, c.2⟩, q4, q3.trans p5, by omega, by omega⟩
theorem z_p2U {B : Int → Int} {N h o p : Int} {τ : kp_W} (hN : N ≤ 120) (hp : kz_p2 B N h o p τ) (h1 : p + 1 ≤ N) : kz_p2 B N h o (p + 1) (kp_up τ 0 5 (p + 1)) := by
  obtain ⟨p1, p2, p3, p4, p5, p6, p7⟩ := hp
  have e : kp_up τ 0 5 (p + 1) 1 = τ 1 := kp_up_ne (by decide)
  exact ⟨z_R0U hN (Or.inl rfl) p1, z_up0e, ⟨by omega, h1⟩, by rw [z_up0 (by decide)]; exact p4, by rw [z_up0 (by decide)]; exact p5, by rw [e]; exact p6, by rw [e]; omega⟩
section RPB
variable {B : Int → Int} {N h : Int}
theorem r_facW {fac som : kp_W → kp_R} {τ : kp_W} (h7 : τ 0 7 = 1) : kf_X10_factor fac som τ = some (0, τ) := by
  unfold kf_X10_factor
  exact k_is (k_eq (by rw [h7]; decide) (by decide) (fun z => by omega) (fun _ => k_some ⟨rfl, rfl⟩))
theorem r_eveW {fac : kp_W → kp_R} {τ : kp_W} (h7 : τ 0 7 = 1) (hf : fac τ = some (0, τ)) : kf_X10_every fac τ = some (0, τ) := by
  unfold kf_X10_every
  rw [show kp_fu = 99999 + 1 by rw [kp_fu_eq]]
  refine k_is (k_e hf ?_)
  rw [kl_X10_every_4]
  exact k_eq (by rw [h7]; decide) (by decide) (fun z => by omega) (fun _ => k_some ⟨rfl, rfl⟩)
theorem r_somW {eve : kp_W → kp_R} {τ : kp_W} (h7 : τ 0 7 = 1) (hf : eve τ = some (0, τ)) : kf_X10_some eve τ = some (0, τ) := by
  unfold kf_X10_some
  rw [show kp_fu = 99999 + 1 by rw [kp_fu_eq]]
  refine k_is (k_e hf ?_)
  rw [kl_X10_some_4]
  exact k_eq (by rw [h7]; decide) (by decide) (fun z => by omega) (fun _ => k_some ⟨rfl, rfl⟩)
theorem r_tfW (m : Nat) {τ : kp_W} (h7 : τ 0 7 = 1) : kt_X10_factor (m + 1) τ = some (0, τ) := by
  rw [kt_X10_factor]; exact r_facW h7
theorem r_tsW (m : Nat) {τ : kp_W} (h7 : τ 0 7 = 1) : kt_X10_some (m + 1) τ = some (0, τ) := by
  unfold kt_X10_some kt_X10_every
  exact r_somW h7 (r_eveW h7 (r_tfW m h7))
theorem r_rowL (hB : kz_By B N) {o : Int} {fac : kp_W → kp_R} {F : Int → kz_PR} (hF : kz_C2 B N h o fac F) (hG : ∀ q, q ≤ N → kz_Gr N q (F q)) {p : Int} {τ : kp_W} (hp : kz_p2 B N h o p τ) : ∀ (m k : Nat) (r : kz_PR) (τ2 : kp_W), N - r.2.1 < m → N - r.2.1 < k → r.1 = true → kz_Gr N p r → kz_q2 h r τ τ2 → kp_ok (kl_X10_every_4 fac (m + 1) τ2 (fun (σ_3 : kp_W) => some (0, σ_3))) (fun _ τ' => kz_q2 h (kz_pL F B 38 (-2) k r) τ τ')
  | 0, k, r, τ2, h1, h2, ht, hg, hr => by have := hg.1; omega
  | m + 1, 0, r, τ2, h1, h2, ht, hg, hr => by have := hg.1; omega
  | m + 1, k + 1, r, τ2, h1, h2, ht, hg, hr => by
    have hN := hB.1
    have hb := z_By hB
    have hp2 := z_p2N hN.2 hp hg hr ht
    have hg1 := hg.1
    have e7 : τ2 0 7 = 0 := hp2.2.2.2.1
    rw [kl_X10_every_4, kz_pL]
    refine k_eq (by rw [e7]; decide) (by decide) (fun _ => k_e (r_hereB hB hp2.1 hp2.2.1 hp2.2.2.1) (k_eq (z_ByI hB _).1 (by decide) (fun g => k_lt ?_) (fun g => ?_))) (fun z => absurd e7 z)
    · rw [if_pos ⟨ht, g⟩]
      have hlt := hb r.2.1 (by omega)
      have hpU := z_p2U hN.2 hp2 (by omega)
      have hq := hG (r.2.1 + 1) (by omega)
      rw [hp2.2.1]
      refine k_bd (k_mono (hF (r.2.1 + 1) _ hpU) (fun v τ5 h5 => ?_))
      obtain ⟨f5, a5, o5, w5, s5⟩ := h5
      have F5 : kz_Fe h τ τ5 := z_FeT hr.1 (z_FeT (z_FeU (Or.inl rfl) z_Fe0) f5)
      have O5 : τ5 0 8 = τ 0 8 := by rw [o5, z_up0 (by decide)]; exact hr.2.2.1
      try dsimp only
      have hq5 : (F (r.2.1 + 1)).1 = true → kz_p2 B N h o (F (r.2.1 + 1)).2.1 τ5 := fun z => z_p2N hN.2 hpU hq ⟨f5, a5, o5, w5, s5⟩ z
      generalize F (r.2.1 + 1) = t at *
      obtain ⟨ok, q, ec, er⟩ := t
      cases ok with
      | false =>
        have w5' : τ5 0 7 = 1 := w5
        rw [if_neg (fun z => by cases z)]
        refine k_e (r_emitW w5' (-2)) ?_
        rw [kl_X10_every_4]
        exact k_eq (by rw [w5']; decide) (by decide) (fun z => by omega) (fun _ => k_some (z_q2B F5 a5 O5 w5'))
      | true =>
        rw [if_pos rfl]
        have p5 := hq5 rfl
        have q1 : r.2.1 + 1 < q := (hq.2 rfl).1
        have q2 : (er.length : Int) ≤ q - (r.2.1 + 1) := (hq.2 rfl).2
        have q3 : q ≤ N := hq.1.2
        have A5 : kz_A2 h τ2 τ5 er := z_A2E (kp_up_ne (by decide)).symm rfl (s5 rfl)
        have r4 := hr.2.2.2.2 ht
        have g2 := hg.2 ht
        have s0 := hp.2.2.2.2.2
        have A1 : kz_A2 h τ τ5 (r.2.2.2 ++ er) := z_A2T hp.1.1.1 s0.1 r4 A5
        have p6 : τ5 1 (Int.toNat (361 + h)) ≤ q := p5.2.2.2.2.2.2
        refine r_emitO hp.1.1 p5.1.2.1 p5.2.2.2.1 p5.2.2.2.2.2.1 (by omega) (fun τ6 f6 e6 s6 => ?_)
        refine r_rowL hB hF hG hp m k (true, q, r.2.2.1 ++ ec ++ [-2], r.2.2.2 ++ er ++ [-2]) τ6 ?_ ?_ rfl ⟨⟨?_, ?_⟩, fun _ => ⟨?_, ?_⟩⟩ ⟨z_FeT F5 f6, by rw [e6]; exact a5, by rw [e6]; exact O5, by rw [e6]; exact w5, fun _ => ?_⟩
        · show N - q < m; omega
        · show N - q < k; omega
        · show p ≤ q; omega
        · show q ≤ N; omega
        · show p < q; omega
        · show ((r.2.2.2 ++ er ++ [-2]).length : Int) ≤ q - p
          simp only [List.length_append, List.length_cons, List.length_nil]; omega
        · exact z_A2T hp.1.1.1 s0.1 A1 s6
    · rw [if_neg (fun z => g z.2)]
      exact k_some hr
theorem r_rowC (hB : kz_By B N) {o : Int} {fac : kp_W → kp_R} {F : Int → kz_PR} (hF : kz_C2 B N h o fac F) (hG : ∀ q, q ≤ N → kz_Gr N q (F q)) : kz_C2 B N h o (kf_X10_every fac) (fun p => kz_pL F B 38 (-2) 130 (F p)) := by
  intro p τ hp
  have hN := hB.1
  have hq := hG p hp.2.2.1.2
  have hpp := hp.2.2.1
  unfold kf_X10_every
  rw [show kp_fu = 99999 + 1 by rw [kp_fu_eq]]
  refine k_bd (k_mono (hF p τ hp) (fun v τ1 h1 => ?_))
  cases ht : (F p).1 with
  | false =>
    have w1 : τ1 0 7 = 1 := by have := h1.2.2.2.1; rw [ht] at this; exact this
    show kp_ok _ (fun _ τ' => kz_q2 h (kz_pL F B 38 (-2) (129 + 1) (F p)) τ τ')
    rw [kl_X10_every_4, kz_pL, if_neg (fun z => by rw [ht] at z; cases z.1)]
    exact k_eq (by rw [w1]; decide) (by decide) (fun z => by omega) (fun _ => k_some h1)
  | true => exact r_rowL hB hF hG hp 99999 130 (F p) τ1 (by have := hq.1; omega) (by have := hq.1; omega) ht hq h1
theorem r_roxL (hB : kz_By B N) {o : Int} {fac : kp_W → kp_R} {F : Int → kz_PR} (hF : kz_C2 B N h o fac F) (hG : ∀ q, q ≤ N → kz_Gr N q (F q)) {p : Int} {τ : kp_W} (hp : kz_p2 B N h o p τ) : ∀ (m k : Nat) (r : kz_PR) (τ2 : kp_W), N - r.2.1 < m → N - r.2.1 < k → r.1 = true → kz_Gr N p r → kz_q2 h r τ τ2 → kp_ok (kl_X10_some_4 fac (m + 1) τ2 (fun (σ_3 : kp_W) => some (0, σ_3))) (fun _ τ' => kz_q2 h (kz_pL F B 124 (-3) k r) τ τ')
  | 0, k, r, τ2, h1, h2, ht, hg, hr => by have := hg.1; omega
  | m + 1, 0, r, τ2, h1, h2, ht, hg, hr => by have := hg.1; omega
  | m + 1, k + 1, r, τ2, h1, h2, ht, hg, hr => by
    have hN := hB.1
    have hb := z_By hB
    have hp2 := z_p2N hN.2 hp hg hr ht
    have hg1 := hg.1
    have e7 : τ2 0 7 = 0 := hp2.2.2.2.1
    rw [kl_X10_some_4, kz_pL]
    refine k_eq (by rw [e7]; decide) (by decide) (fun _ => k_e (r_hereB hB hp2.1 hp2.2.1 hp2.2.2.1) (k_eq (z_ByI hB _).1 (by decide) (fun g => k_lt ?_) (fun g => ?_))) (fun z => absurd e7 z)
    · rw [if_pos ⟨ht, g⟩]
      have hlt := hb r.2.1 (by omega)
      have hpU := z_p2U hN.2 hp2 (by omega)
      have hq := hG (r.2.1 + 1) (by omega)
      rw [hp2.2.1]
      refine k_bd (k_mono (hF (r.2.1 + 1) _ hpU) (fun v τ5 h5 => ?_))
      obtain ⟨f5, a5, o5, w5, s5⟩ := h5
      have F5 : kz_Fe h τ τ5 := z_FeT hr.1 (z_FeT (z_FeU (Or.inl rfl) z_Fe0) f5)
      have O5 : τ5 0 8 = τ 0 8 := by rw [o5, z_up0 (by decide)]; exact hr.2.2.1
      try dsimp only
      have hq5 : (F (r.2.1 + 1)).1 = true → kz_p2 B N h o (F (r.2.1 + 1)).2.1 τ5 := fun z => z_p2N hN.2 hpU hq ⟨f5, a5, o5, w5, s5⟩ z
      generalize F (r.2.1 + 1) = t at *
      obtain ⟨ok, q, ec, er⟩ := t
      cases ok with
      | false =>
        have w5' : τ5 0 7 = 1 := w5
        rw [if_neg (fun z => by cases z)]
        refine k_e (r_emitW w5' (-3)) ?_
        rw [kl_X10_some_4]
        exact k_eq (by rw [w5']; decide) (by decide) (fun z => by omega) (fun _ => k_some (z_q2B F5 a5 O5 w5'))
      | true =>
        rw [if_pos rfl]
        have p5 := hq5 rfl
        have q1 : r.2.1 + 1 < q := (hq.2 rfl).1
        have q2 : (er.length : Int) ≤ q - (r.2.1 + 1) := (hq.2 rfl).2
        have q3 : q ≤ N := hq.1.2
        have A5 : kz_A2 h τ2 τ5 er := z_A2E (kp_up_ne (by decide)).symm rfl (s5 rfl)
        have r4 := hr.2.2.2.2 ht
        have g2 := hg.2 ht
        have s0 := hp.2.2.2.2.2
        have A1 : kz_A2 h τ τ5 (r.2.2.2 ++ er) := z_A2T hp.1.1.1 s0.1 r4 A5
        have p6 : τ5 1 (Int.toNat (361 + h)) ≤ q := p5.2.2.2.2.2.2
        refine r_emitO hp.1.1 p5.1.2.1 p5.2.2.2.1 p5.2.2.2.2.2.1 (by omega) (fun τ6 f6 e6 s6 => ?_)
        refine r_roxL hB hF hG hp m k (true, q, r.2.2.1 ++ ec ++ [-3], r.2.2.2 ++ er ++ [-3]) τ6 ?_ ?_ rfl ⟨⟨?_, ?_⟩, fun _ => ⟨?_, ?_⟩⟩ ⟨z_FeT F5 f6, by rw [e6]; exact a5, by rw [e6]; exact O5, by rw [e6]; exact w5, fun _ => ?_⟩
        · show N - q < m; omega
        · show N - q < k; omega
        · show p ≤ q; omega
        · show q ≤ N; omega
        · show p < q; omega
        · show ((r.2.2.2 ++ er ++ [-3]).length : Int) ≤ q - p
          simp only [List.length_append, List.length_cons, List.length_nil]; omega
        · exact z_A2T hp.1.1.1 s0.1 A1 s6
    · rw [if_neg (fun z => g z.2)]
      exact k_some hr
theorem r_roxC (hB : kz_By B N) {o : Int} {fac : kp_W → kp_R} {F : Int → kz_PR} (hF : kz_C2 B N h o fac F) (hG : ∀ q, q ≤ N → kz_Gr N q (F q)) : kz_C2 B N h o (kf_X10_some fac) (fun p => kz_pL F B 124 (-3) 130 (F p)) := by
  intro p τ hp
  have hN := hB.1
  have hq := hG p hp.2.2.1.2
  have hpp := hp.2.2.1
  unfold kf_X10_some
  rw [show kp_fu = 99999 + 1 by rw [kp_fu_eq]]
  refine k_bd (k_mono (hF p τ hp) (fun v τ1 h1 => ?_))
  cases ht : (F p).1 with
  | false =>
    have w1 : τ1 0 7 = 1 := by have := h1.2.2.2.1; rw [ht] at this; exact this
    show kp_ok _ (fun _ τ' => kz_q2 h (kz_pL F B 124 (-3) (129 + 1) (F p)) τ τ')
    rw [kl_X10_some_4, kz_pL, if_neg (fun z => by rw [ht] at z; cases z.1)]
    exact k_eq (by rw [w1]; decide) (by decide) (fun z => by omega) (fun _ => k_some h1)
  | true => exact r_roxL hB hF hG hp 99999 130 (F p) τ1 (by have := hq.1; omega) (by have := hq.1; omega) ht hq h1
theorem r_facC (hB : kz_By B N) : ∀ (m : Nat) (o : Int), 0 ≤ o → o ≤ 5 → 7 ≤ o + (m : Int) → ∀ n k : Nat, 5 - o ≤ n → 6 - o ≤ k → kz_C2 B N h o (kt_X10_factor m) (fun p => (kz_pF (kz_pE B n) B k o p).1)
  | 0, o, h0, h5, h7, n, k, hn, hk => by omega
  | 1, o, h0, h5, h7, n, k, hn, hk => by omega
  | m + 1, o, h0, h5, h7, n, 0, hn, hk => by omega
  | m + 2, o, h0, h5, h7, n, k + 1, hn, hk => by
    intro p τ hp
    have hN := hB.1
    have hb := z_By hB
    obtain ⟨hR, e5, hpp, e7, e8, s0, s1⟩ := id hp
    have hbp := z_ByI hB p
    show kp_ok (kt_X10_factor (m + 2) τ) (fun _ τ' => kz_q2 h (kz_pF (kz_pE B n) B (k + 1) o p).1 τ τ')
    rw [kt_X10_factor]
    unfold kf_X10_factor
    refine k_eq (by rw [e7]; decide) (by decide) (fun _ => k_e (r_hereB hB hR e5 hpp) (k_lt ?_)) (fun z => absurd e7 z)
    have bad : o = 5 → B p = 33 ∨ B p = 40 → (kz_pF (kz_pE B n) B (k + 1) o p).1 = kz_bad p := by
      intro ho hc
      rw [kz_pF]
      rcases hc with c | c
      · rw [if_pos c, if_pos ho]
      · rw [if_neg (by omega), if_pos c, if_pos ho]
    have opn : B p = 33 ∨ B p = 40 → kp_ok (kp_jn (fun (v_0 : Int) => kp_ck (v_0 = 0 ∨ v_0 = 1) (kp_lt (kp_up τ 0 7 v_0) (fun σ_3 => kp_lt (kp_up σ_3 0 8 ((σ_3 0 8) + 1)) (fun σ_4 => kp_jn (fun (v_1 : Int) => kp_lt (kp_up σ_4 0 5 ((σ_4 0 5) + v_1)) (fun σ_5 => kp_jn (fun (σ_6 : kp_W) => kp_lt (kp_up σ_6 0 8 ((σ_6 0 8) - 1)) (fun σ_7 => some (0, σ_7))) (fun j101 => kp_eq (B p) 33 (kp_bd (kt_X10_factor (m + 1) σ_5) (fun r_3 σ_10 => kp_bd (kf_X10_emits (-1) σ_10) (fun r_4 σ_11 => j101 σ_11))) (kp_bd (kf_X10_some (fun σ => kf_X10_every (kt_X10_factor (m + 1)) σ) σ_5) (fun r_1 σ_8 => kp_bd (kf_X10_must 41 σ_8) (fun r_2 σ_9 => j101 σ_9)))))) (fun j69 => kp_eq (σ_4 0 7) 0 (j69 1) (j69 0)))))) (fun j39 => kp_eq (τ 0 8) 5 (j39 1) (j39 0))) (fun _ τ' => kz_q2 h (kz_pF (kz_pE B n) B (k + 1) o p).1 τ τ') := by
      intro hc
      refine k_jn (k_eq (by rw [e8]; exact ⟨by omega, by omega⟩) (by decide) (fun ho => k_ck (Or.inr rfl) (k_lt (k_lt (k_jn ?_)))) (fun ho => k_ck (Or.inl rfl) (k_lt (k_lt (k_jn ?_)))))
      · rw [bad (by omega) hc]
        generalize hσ : kp_up (kp_up τ 0 7 1) 0 8 (kp_up τ 0 7 1 0 8 + 1) = σ4
        have a7 : σ4 0 7 = 1 := by rw [← hσ, z_up0 (by decide), z_up0e]
        have a5 : σ4 0 5 = p := by rw [← hσ, z_up0 (by decide), z_up0 (by decide)]; exact e5
        have a8 : σ4 0 8 = o + 1 := by rw [← hσ, z_up0e, z_up0 (by decide), e8]
        have f4 : kz_Fe h τ σ4 := by rw [← hσ]; exact z_FeU (Or.inr (Or.inr rfl)) (z_FeU (Or.inr (Or.inl rfl)) z_Fe0)
        refine k_eq (by rw [a7]; decide) (by decide) (fun z => by omega) (fun _ => k_lt (k_jn ?_))
        rw [Int.add_zero, z_upI rfl]
        have fin : kz_q2 h (kz_bad p) τ (kp_up σ4 0 8 (σ4 0 8 - 1)) := z_q2B (z_FeU (Or.inr (Or.inr rfl)) f4) (by rw [z_up0 (by decide)]; exact a5) (by rw [z_up0e]; omega) (by rw [z_up0 (by decide)]; exact a7)
        refine k_eq hbp.1 (by decide) (fun _ => k_e (r_tfW m a7) (k_e (r_emitW a7 _) (k_lt (k_some fin)))) (fun _ => k_e (r_somW a7 (r_eveW a7 (r_tfW m a7))) (k_e (r_mustW a7 _) (k_lt (k_some fin))))
      · rw [z_upI e7]
        have hlt := hb p (by omega)
        have ho4 : o ≤ 4 := by omega
        have a8 : kp_up τ 0 8 (τ 0 8 + 1) 0 7 = 0 := by rw [z_up0 (by decide)]; exact e7
        refine k_eq (by rw [a8]; decide) (by decide) (fun _ => k_lt (k_jn ?_)) (fun z => absurd a8 z)
        rw [z_up0 (show (5 : Nat) ≠ 8 by decide), e5]
        generalize hσ : kp_up (kp_up τ 0 8 (τ 0 8 + 1)) 0 5 (p + 1) = σ5
        have f5 : kz_Fe h τ σ5 := by rw [← hσ]; exact z_FeU (Or.inl rfl) (z_FeU (Or.inr (Or.inr rfl)) z_Fe0)
        have b1 : σ5 1 = τ 1 := by rw [← hσ, kp_up_ne (by decide), kp_up_ne (by decide)]
        have b8 : σ5 0 8 = o + 1 := by rw [← hσ, z_up0 (by decide), z_up0e, e8]
        have p5 : kz_p2 B N h (o + 1) (p + 1) σ5 := ⟨z_R0F hN.2 (z_FfE hR.1 f5) hR, by rw [← hσ, z_up0e], ⟨by omega, by omega⟩, by rw [← hσ, z_up0 (by decide), z_up0 (by decide)]; exact e7, b8, by rw [b1]; exact s0, by rw [b1]; omega⟩
        have fin : ∀ (r : kz_PR) (σ6 : kp_W), kz_Fe h σ5 σ6 → σ6 0 5 = r.2.1 → σ6 0 8 = σ5 0 8 → σ6 0 7 = (if r.1 = true then 0 else 1) → (r.1 = true → kz_A2 h σ5 σ6 r.2.2.2) → kz_q2 h r τ (kp_up σ6 0 8 (σ6 0 8 - 1)) := fun r σ6 c1 c2 c3 c4 c5 => ⟨z_FeU (Or.inr (Or.inr rfl)) (z_FeT f5 c1), by rw [z_up0 (by decide)]; exact c2, by rw [z_up0e, c3, b8]; omega, by rw [z_up0 (by decide)]; exact c4, fun z => z_A2E b1.symm (kp_up_ne (by decide)) (c5 z)⟩
        refine k_eq hbp.1 (by decide) (fun c => ?_) (fun c => ?_)
        · have ih : kp_ok (kt_X10_factor (m + 1) σ5) (fun _ τ' => kz_q2 h (kz_pF (kz_pE B n) B k (o + 1) (p + 1)).1 σ5 τ') := r_facC hB (m + 1) (o + 1) (by omega) (by omega) (by omega) n k (by omega) (by omega) (p + 1) σ5 p5
          have hg := z_Grf (z_gF hb (E := kz_pE B n) (fun o' q' o0 o1 hq' => z_gE hb n o' q' (by omega) o1 hq') k (o + 1) (p + 1) (by omega) (by omega) (by omega))
          have e : (kz_pF (kz_pE B n) B (k + 1) o p).1 = ((kz_pF (kz_pE B n) B k (o + 1) (p + 1)).1.1, (kz_pF (kz_pE B n) B k (o + 1) (p + 1)).1.2.1, (kz_pF (kz_pE B n) B k (o + 1) (p + 1)).1.2.2.1, (kz_pF (kz_pE B n) B k (o + 1) (p + 1)).1.2.2.2 ++ [-1]) := by
            rw [kz_pF, if_pos c, if_neg (by omega)]
          rw [e]
          refine k_bd (k_mono ih (fun v σ10 h10 => ?_))
          have n10 : (kz_pF (kz_pE B n) B k (o + 1) (p + 1)).1.1 = true → kz_p2 B N h (o + 1) (kz_pF (kz_pE B n) B k (o + 1) (p + 1)).1.2.1 σ10 := fun z => z_p2N hN.2 p5 hg h10 z
          generalize (kz_pF (kz_pE B n) B k (o + 1) (p + 1)).1 = t at *
          obtain ⟨ok, q, ec, er⟩ := t
          obtain ⟨c1, c2, c3, c4, c5⟩ := h10
          cases ok with
          | false =>
            have c4' : σ10 0 7 = 1 := c4
            exact k_e (r_emitW c4' _) (k_lt (k_some (fin _ _ c1 c2 c3 c4 (fun z => by cases z))))
          | true =>
            have p10 := n10 rfl
            have l10 : σ10 1 (Int.toNat (361 + h)) ≤ q := p10.2.2.2.2.2.2
            have hq : q ≤ N := hg.1.2
            refine r_emitO hR.1 p10.1.2.1 p10.2.2.2.1 p10.2.2.2.2.2.1 (by omega) (fun σ11 g1 g2 g3 => k_lt (k_some (fin _ _ (z_FeT c1 g1) (by rw [g2]; exact c2) (by rw [g2]; exact c3) (by rw [g2]; exact c4) (fun _ => ?_))))
            exact z_A2T hR.1.1 (by rw [b1]; exact s0) (c5 rfl) g3
        · have c' : B p = 40 := by omega
          obtain ⟨n', rfl⟩ : ∃ n', n = n' + 1 := ⟨n - 1, by omega⟩
          have gF : ∀ q, q ≤ N → kz_Gd (11 - 2 * Int.toNat (o + 1)) N q (kz_pFx (kz_pF (kz_pE B n') B 7 (o + 1) q)) := fun q hq => z_glF hB n' (by omega) (by omega) hq
          have ih := r_facC hB (m + 1) (o + 1) (by omega) (by omega) (by omega) n' 7 (by omega) (by omega)
          have ih' : kz_C2 B N h (o + 1) (kt_X10_factor (m + 1)) (fun q => kz_pFx (kz_pF (kz_pE B n') B 7 (o + 1) q)) := fun p' τ' hp' => ih p' τ' hp'
          have he := r_rowC hB ih' (fun q hq => z_Gr (gF q hq))
          have he' : kz_C2 B N h (o + 1) (fun σ => kf_X10_every (kt_X10_factor (m + 1)) σ) (fun p => kz_pL (fun q => kz_pFx (kz_pF (kz_pE B n') B 7 (o + 1) q)) B 38 (-2) 130 (kz_pFx (kz_pF (kz_pE B n') B 7 (o + 1) p))) := he
          have hs := r_roxC hB he' (fun q hq => z_Gr (z_gL hb (by decide) (Or.inl rfl) gF 130 _ (z_gM (by omega) (gF q hq))))
          have hs' : kz_C2 B N h (o + 1) (kf_X10_some (fun σ => kf_X10_every (kt_X10_factor (m + 1)) σ)) (kz_pE B (n' + 1) (o + 1)) := hs
          have hg := z_Gr (z_gE hb (n' + 1) (o + 1) (p + 1) (by omega) (by omega) (by omega))
          have e : (kz_pF (kz_pE B (n' + 1)) B (k + 1) o p).1 = if (kz_pE B (n' + 1) (o + 1) (p + 1)).1 = true ∧ B (kz_pE B (n' + 1) (o + 1) (p + 1)).2.1 = 41 then (true, (kz_pE B (n' + 1) (o + 1) (p + 1)).2.1 + 1, (kz_pE B (n' + 1) (o + 1) (p + 1)).2.2.1, (kz_pE B (n' + 1) (o + 1) (p + 1)).2.2.2) else kz_bad (kz_pE B (n' + 1) (o + 1) (p + 1)).2.1 := by
            rw [kz_pF, if_neg c, if_pos c', if_neg (by omega)]
            dsimp only
            split <;> rfl
          rw [e]
          refine k_bd (k_mono (hs' (p + 1) σ5 p5) (fun v σ8 h8 => ?_))
          have n8 : (kz_pE B (n' + 1) (o + 1) (p + 1)).1 = true → kz_p2 B N h (o + 1) (kz_pE B (n' + 1) (o + 1) (p + 1)).2.1 σ8 := fun z => z_p2N hN.2 p5 hg h8 z
          generalize kz_pE B (n' + 1) (o + 1) (p + 1) = t at *
          obtain ⟨ok, q, ec, er⟩ := t
          obtain ⟨c1, c2, c3, c4, c5⟩ := h8
          cases ok with
          | false =>
            have c4' : σ8 0 7 = 1 := c4
            rw [if_neg (fun z => by cases z.1)]
            exact k_e (r_mustW c4' _) (k_lt (k_some (fin (kz_bad q) _ c1 c2 c3 c4 (fun z => by cases z))))
          | true =>
            have p8 := n8 rfl
            have hq : q ≤ N := hg.1.2
            refine r_mustO hB p8.1 p8.2.1 p8.2.2.1 p8.2.2.2.1 (by decide) (fun g => k_lt (k_some ?_)) (fun g => k_lt (k_some ?_))
            · have g' : B q = 41 := g
              rw [if_pos ⟨rfl, g'⟩]
              exact fin (true, q + 1, ec, er) _ (z_FeU (Or.inl rfl) c1) z_up0e (by rw [z_up0 (by decide)]; exact c3) (by rw [z_up0 (by decide)]; exact c4) (fun _ => z_A2E rfl (kp_up_ne (by decide)) (c5 rfl))
            · rw [if_neg (fun z => g z.2)]
              exact fin (kz_bad q) _ (z_FeU (Or.inr (Or.inl rfl)) c1) (by rw [z_up0 (by decide)]; exact c2) (by rw [z_up0 (by decide)]; exact c3) z_up0e (fun z => by cases z)
    refine k_jn (k_eq hbp.1 (by decide) (fun c => opn (Or.inl c)) (fun c1 => k_eq hbp.1 (by decide) (fun c => opn (Or.inr c)) (fun c2 => ?_)))
    have e : (kz_pF (kz_pE B n) B (k + 1) o p).1 = kz_pT B p := by rw [kz_pF, if_neg c1, if_neg c2]
    rw [e]
    -- a test
    have W : ∀ {q : Int} {σ : kp_W}, kz_pT B p = kz_bad q → kz_Fe h τ σ → σ 0 5 = q → σ 0 8 = τ 0 8 → σ 0 7 = 1 → kz_q2 h (kz_pT B p) τ σ := fun h a b c d => by rw [h]; exact z_q2B a b c d
    refine r_amS hB hR e5 hpp (fun h1 => k_lt (k_jn ?_)) (fun h1 => k_lt (k_jn ?_))
    · have i0 : (0 ≤ kz_iS (B p) ∧ kz_iS (B p) ≤ 4) ∧ 0 ≤ B p := (z_iS (x := B p)).resolve_left h1
      have n1 := hb p i0.2
      have hR1 := z_R0U (x := p + 1) hN.2 (Or.inl rfl) hR
      have e71 : kp_up τ 0 5 (p + 1) 0 7 = 0 := by rw [z_up0 (by decide)]; exact e7
      have F1 : kz_Fe h τ (kp_up τ 0 5 (p + 1)) := z_FeU (Or.inl rfl) z_Fe0
      refine k_eq ⟨by omega, by omega⟩ (by decide) (fun z => absurd z h1) (fun _ => k_ck (Or.inl rfl) (k_lt (k_jn ?_)))
      rw [z_upI e71]
      refine k_eq (by rw [e71]; decide) (by decide) (fun _ => r_amG hB hR1 z_up0e ⟨by omega, by omega⟩ (fun h2 => k_lt (k_jn (k_jn ?_))) (fun h2 => k_lt (k_jn (k_jn ?_)))) (fun z => absurd e71 z)
      · have i1 : (0 ≤ kz_iG (B (p + 1)) ∧ kz_iG (B (p + 1)) ≤ 2) ∧ 0 ≤ B (p + 1) := (z_iG (x := B (p + 1))).resolve_left h2
        have n2 := hb (p + 1) i1.2
        rw [z_upU, show p + 1 + 1 = p + 2 by omega]
        have hR2 := z_R0U (x := p + 2) hN.2 (Or.inl rfl) hR
        have e72 : kp_up τ 0 5 (p + 2) 0 7 = 0 := by rw [z_up0 (by decide)]; exact e7
        have F2 : kz_Fe h τ (kp_up τ 0 5 (p + 2)) := z_FeU (Or.inl rfl) z_Fe0
        have hn := z_pN hb (p := p + 2)
        refine k_eq (by rw [e72]; decide) (by decide) (fun _ => k_eq ⟨by omega, by omega⟩ (by decide) (fun z => absurd z h2) (fun _ => k_ck (Or.inl rfl) (k_lt ?_))) (fun z => absurd e72 z)
        rw [z_upI e72]
        refine r_figO hB hR2 z_up0e ⟨by omega, by omega⟩ e72 (fun h3 => k_lt ?_) (fun h3 => k_lt ?_)
        · rw [z_upU]
          have e4 : kz_pT B p = (true, (kz_pN B (p + 2)).2, [(kz_iS (B p) * 3 + kz_iG (B (p + 1))) * 100 + (kz_pN B (p + 2)).1], [kz_iS (B p) + 8 * kz_iG (B (p + 1)) + 32 * (kz_pN B (p + 2)).1]) := by
            unfold kz_pT; rw [if_neg h1, if_neg h2, if_neg h3]
          have q1 : kp_up τ 0 5 (kz_pN B (p + 2)).2 1 = τ 1 := kp_up_ne (by decide)
          refine r_emitO hR.1 (by rw [z_up0 (by decide)]; exact hR.2.1) (by rw [z_up0 (by decide)]; exact e7) (by rw [q1]; exact s0) (by rw [q1]; omega) (fun σ17 g1 g2 g3 => k_some ?_)
          rw [e4]
          exact ⟨z_FeT (z_FeU (Or.inl rfl) z_Fe0) g1, by rw [g2, z_up0e], by rw [g2, z_up0 (by decide)], by rw [g2, z_up0 (by decide)]; exact e7, fun _ => z_A2E q1.symm rfl g3⟩
        · refine k_e (r_emitW z_up0e _) (k_some (W (q := p + 2) ?_ (z_FeU (Or.inr (Or.inl rfl)) F2) (by rw [z_up0 (by decide), z_up0e]) (by rw [z_up0 (by decide), z_up0 (by decide)]) z_up0e))
          unfold kz_pT; rw [if_neg h1, if_neg h2, if_pos h3]
      · refine k_eq (by rw [e71]; decide) (by decide) (fun _ => k_eq (by decide) (by decide) (fun _ => k_ck (Or.inr rfl) (k_lt ?_)) (fun z => absurd rfl z)) (fun z => absurd e71 z)
        refine k_e (r_figW z_up0e) (k_lt (k_e (r_emitW z_up0e _) (k_some (W (q := p + 1) ?_ (z_FeU (Or.inr (Or.inl rfl)) F1) (by rw [z_up0 (by decide), z_up0e]) (by rw [z_up0 (by decide), z_up0 (by decide)]) z_up0e))))
        unfold kz_pT; rw [if_neg h1, if_pos h2]
    · have w1 : kp_up τ 0 7 1 0 7 = 1 := z_up0e
      refine k_eq (by decide) (by decide) (fun _ => k_ck (Or.inr rfl) (k_lt (k_jn (k_eq (by rw [w1]; decide) (by decide) (fun z => by omega) (fun _ => k_lt (k_jn (k_jn (k_eq (by rw [w1]; decide) (by decide) (fun z => by omega) (fun _ => k_ck (Or.inr rfl) (k_lt ?_)))))))))) (fun z => absurd rfl z)
      rw [z_upU]
      refine k_e (r_figW z_up0e) (k_lt (k_e (r_emitW z_up0e _) (k_some (W (q := p) ?_ (z_FeU (Or.inr (Or.inl rfl)) z_Fe0) (by rw [z_up0 (by decide)]; exact e5) (by rw [z_up0 (by decide)]) z_up0e))))
      unfold kz_pT; rw [if_pos h1]
theorem r_somC (hB : kz_By B N) : kz_C2 B N h 0 (kt_X10_some 10) (kz_pE B 10 0) := by
  have hb := z_By hB
  have gF : ∀ q, q ≤ N → kz_Gd (11 - 2 * Int.toNat 0) N q (kz_pFx (kz_pF (kz_pE B 9) B 7 0 q)) := fun q hq => z_glF hB 9 (by decide) (by decide) hq
  have ih := r_facC (h := h) hB 10 0 (by decide) (by decide) (by decide) 9 7 (by decide) (by decide)
  have ih' : kz_C2 B N h 0 (kt_X10_factor 10) (fun q => kz_pFx (kz_pF (kz_pE B 9) B 7 0 q)) := fun p' τ' hp' => ih p' τ' hp'
  have he := r_rowC hB ih' (fun q hq => z_Gr (gF q hq))
  have he' : kz_C2 B N h 0 (kt_X10_every 10) (fun p => kz_pL (fun q => kz_pFx (kz_pF (kz_pE B 9) B 7 0 q)) B 38 (-2) 130 (kz_pFx (kz_pF (kz_pE B 9) B 7 0 p))) := he
  exact r_roxC hB he' (fun q hq => z_Gr (z_gL hb (by decide) (Or.inl rfl) gF 130 _ (z_gM (by omega) (gF q hq))))
end RPB
