-- the reference reads a tape: bytes, figures, steps
def kz_col (h : Int) (i : Nat) : Prop := (336 ≤ (i : Int) ∧ (i : Int) < 366 ∧ ((i : Int) - 336) % 5 = h) ∨ (366 + 140 * h ≤ (i : Int) ∧ (i : Int) < 506 + 140 * h)
def kz_coE (h : Int) (i : Nat) : Prop := (i : Int) = 361 + h ∨ (366 + 140 * h ≤ (i : Int) ∧ (i : Int) < 506 + 140 * h)
def kz_Ff (h : Int) (b τ : kp_W) : Prop := (∀ a, a ≠ 0 → a ≠ 1 → τ a = b a) ∧ (∀ j, j ≠ 5 → j ≠ 7 → j ≠ 8 → τ 0 j = b 0 j) ∧ ∀ i : Nat, ¬ kz_col h i → τ 1 i = b 1 i
def kz_Fe (h : Int) (b τ : kp_W) : Prop := (∀ a, a ≠ 0 → a ≠ 1 → τ a = b a) ∧ (∀ j, j ≠ 5 → j ≠ 7 → j ≠ 8 → τ 0 j = b 0 j) ∧ ∀ i : Nat, ¬ kz_coE h i → τ 1 i = b 1 i
theorem z_coE {h : Int} {i : Nat} (h0 : 0 ≤ h ∧ h ≤ 4) (c : kz_coE h i) : kz_col h i := by
  unfold kz_coE at c
  unfold kz_col
  omega
theorem z_FfE {h : Int} {b τ : kp_W} (h0 : 0 ≤ h ∧ h ≤ 4) (f : kz_Fe h b τ) : kz_Ff h b τ := ⟨f.1, f.2.1, fun i hi => f.2.2 i (fun z => hi (z_coE h0 z))⟩
theorem z_Fe0 {h : Int} {b : kp_W} : kz_Fe h b b := ⟨fun _ _ _ => rfl, fun _ _ _ _ => rfl, fun _ _ => rfl⟩
theorem z_Ff0 {h : Int} {b : kp_W} : kz_Ff h b b := ⟨fun _ _ _ => rfl, fun _ _ _ _ => rfl, fun _ _ => rfl⟩
theorem z_FeT {h : Int} {a b c : kp_W} (f : kz_Fe h a b) (g : kz_Fe h b c) : kz_Fe h a c := ⟨fun k k0 k1 => (g.1 k k0 k1).trans (f.1 k k0 k1), fun j j5 j7 j8 => (g.2.1 j j5 j7 j8).trans (f.2.1 j j5 j7 j8), fun i hi => (g.2.2 i hi).trans (f.2.2 i hi)⟩
theorem z_FfT {h : Int} {a b c : kp_W} (f : kz_Ff h a b) (g : kz_Ff h b c) : kz_Ff h a c := ⟨fun k k0 k1 => (g.1 k k0 k1).trans (f.1 k k0 k1), fun j j5 j7 j8 => (g.2.1 j j5 j7 j8).trans (f.2.1 j j5 j7 j8), fun i hi => (g.2.2 i hi).trans (f.2.2 i hi)⟩
theorem z_FeU {h : Int} {b τ : kp_W} {j : Nat} {x : Int} (hj : j = 5 ∨ j = 7 ∨ j = 8) (f : kz_Fe h b τ) : kz_Fe h b (kp_up τ 0 j x) := ⟨fun a a0 a1 => by rw [kp_up_ne a0]; exact f.1 a a0 a1, fun i i5 i7 i8 => by rw [z_up0 (by omega)]; exact f.2.1 i i5 i7 i8, fun i hi => by rw [kp_up_ne (by decide)]; exact f.2.2 i hi⟩
theorem z_FfU {h : Int} {b τ : kp_W} {j : Nat} {x : Int} (hj : j = 5 ∨ j = 7 ∨ j = 8) (f : kz_Ff h b τ) : kz_Ff h b (kp_up τ 0 j x) := ⟨fun a a0 a1 => by rw [kp_up_ne a0]; exact f.1 a a0 a1, fun i i5 i7 i8 => by rw [z_up0 (by omega)]; exact f.2.1 i i5 i7 i8, fun i hi => by rw [kp_up_ne (by decide)]; exact f.2.2 i hi⟩
theorem z_upI {σ : kp_W} {k i : Nat} {x : Int} (h : σ k i = x) : kp_up σ k i x = σ := by
  funext a b
  unfold kp_up
  by_cases c : a = k ∧ b = i
  · rw [if_pos c, c.1, c.2, h]
  · rw [if_neg c]
theorem z_upU {σ : kp_W} {k i : Nat} {x y : Int} : kp_up (kp_up σ k i x) k i y = kp_up σ k i y := by
  funext a b
  unfold kp_up
  by_cases c : a = k ∧ b = i
  · rw [if_pos c, if_pos c]
  · rw [if_neg c, if_neg c, if_neg c]
def kz_R0 (B : Int → Int) (N h : Int) (τ : kp_W) : Prop := (0 ≤ h ∧ h ≤ 4) ∧ τ 0 4 = h ∧ τ 0 6 = N ∧ ∀ x, 0 ≤ x → x < N → τ 1 (Int.toNat (10 + x)) = B x
theorem z_R0F {B : Int → Int} {N h : Int} {b τ : kp_W} (hN : N ≤ 120) (f : kz_Ff h b τ) (q : kz_R0 B N h b) : kz_R0 B N h τ := by
  obtain ⟨q0, q1, q2, q3⟩ := q
  refine ⟨q0, by rw [f.2.1 4 (by decide) (by decide) (by decide)]; exact q1, by rw [f.2.1 6 (by decide) (by decide) (by decide)]; exact q2, fun x x0 x1 => ?_⟩
  rw [f.2.2 _ (fun z => by unfold kz_col at z; omega)]
  exact q3 x x0 x1
theorem z_R0U {B : Int → Int} {N h : Int} {τ : kp_W} {j : Nat} {x : Int} (hN : N ≤ 120) (hj : j = 5 ∨ j = 7 ∨ j = 8) (q : kz_R0 B N h τ) : kz_R0 B N h (kp_up τ 0 j x) := z_R0F hN (z_FfU hj z_Ff0) q
section RPA
variable {B : Int → Int} {N h : Int} {Q : Int → kp_W → Prop} {τ : kp_W}
theorem r_hereB (hB : kz_By B N) (hR : kz_R0 B N h τ) {p : Int} (e5 : τ 0 5 = p) (hp : 0 ≤ p ∧ p ≤ N) : kf_X10_here τ = some (B p, τ) := by
  have hN := hB.1
  unfold kf_X10_here
  rw [e5, hR.2.2.1]
  exact k_is (k_ls ⟨by omega, by omega⟩ ⟨by omega, by omega⟩ (fun c => k_ck ⟨by omega, by omega⟩ (k_some ⟨hR.2.2.2 p hp.1 c, rfl⟩)) (fun c => k_some ⟨(hB.2.2 p (by omega)).symm, rfl⟩))
theorem r_mustW (h7 : τ 0 7 = 1) (c : Int) : kf_X10_must c τ = some (0, τ) := by
  unfold kf_X10_must
  refine k_is (k_jn (k_jn (k_eq (by rw [h7]; decide) (by decide) (fun z => by omega) (fun _ => k_ck (Or.inr rfl) (k_lt ?_)))))
  rw [z_upI h7]
  refine k_eq (by rw [h7]; decide) (by decide) (fun z => by omega) (fun _ => k_lt (k_some ⟨rfl, ?_⟩))
  rw [Int.add_zero, z_upI rfl]
theorem r_mustO (hB : kz_By B N) (hR : kz_R0 B N h τ) {p : Int} (e5 : τ 0 5 = p) (hp : 0 ≤ p ∧ p ≤ N) (e7 : τ 0 7 = 0) {c : Int} (hc : kp_in c) {f : Int → kp_W → kp_R} (h1 : B p = c → kp_ok (f 0 (kp_up τ 0 5 (p + 1))) Q) (h0 : ¬ B p = c → kp_ok (f 0 (kp_up τ 0 7 1)) Q) : kp_ok (kp_bd (kf_X10_must c τ) f) Q := by
  refine k_bd ?_
  unfold kf_X10_must
  refine k_jn (k_jn (k_eq (by rw [e7]; decide) (by decide) (fun _ => k_e (r_hereB hB hR e5 hp) (k_eq (z_ByI hB p).1 hc (fun g => k_ck (Or.inl rfl) (k_lt ?_)) (fun g => k_ck (Or.inr rfl) (k_lt ?_)))) (fun z => absurd e7 z)))
  · rw [z_upI e7]
    refine k_eq (by rw [e7]; decide) (by decide) (fun _ => k_lt (k_some ?_)) (fun z => absurd e7 z)
    rw [e5]; exact h1 g
  · refine k_eq (by rw [z_up0e]; decide) (by decide) (fun z => by rw [z_up0e] at z; omega) (fun _ => k_lt (k_some ?_))
    rw [Int.add_zero, z_upI rfl]; exact h0 g
theorem r_figL (n : Nat) {x1 x2 : Int} (h7 : τ 0 7 = 1) {k : Int → kp_W → kp_R} (h2 : kp_in x2) (hk : kp_ok (k x1 τ) Q) : kp_ok (kl_X10_figures_34 (n + 1) x1 x2 τ k) Q := by
  rw [kl_X10_figures_34]
  exact k_ls h2 (by decide) (fun _ => k_eq (by rw [h7]; decide) (by decide) (fun z => by omega) (fun _ => hk)) (fun _ => hk)
theorem r_figW (h7 : τ 0 7 = 1) : kf_X10_figures τ = some (0, τ) := by
  unfold kf_X10_figures
  rw [show kp_fu = 99999 + 1 by rw [kp_fu_eq]]
  refine k_is (k_jn (k_jn (k_eq (by rw [h7]; decide) (by decide) (fun z => by omega) (fun _ => k_ck (Or.inr rfl) (k_lt ?_)))))
  rw [z_upI h7]
  exact k_lt (k_lt (r_figL _ h7 (by decide) (k_some ⟨rfl, rfl⟩)))
theorem r_figO (hB : kz_By B N) (hR : kz_R0 B N h τ) {p : Int} (e5 : τ 0 5 = p) (hp : 0 ≤ p ∧ p ≤ N) (e7 : τ 0 7 = 0) {f : Int → kp_W → kp_R} (h1 : ¬ (kz_pN B p).1 = -1 → kp_ok (f (kz_pN B p).1 (kp_up τ 0 5 (kz_pN B p).2)) Q) (h0 : (kz_pN B p).1 = -1 → kp_ok (f 0 (kp_up τ 0 7 1)) Q) : kp_ok (kp_bd (kf_X10_figures τ) f) Q := by
  have hN := hB.1
  have hbp := z_ByI hB p
  refine k_bd ?_
  unfold kf_X10_figures
  rw [show kp_fu = 99997 + 1 + 1 + 1 by rw [kp_fu_eq]]
  refine k_jn (k_jn (k_eq (by rw [e7]; decide) (by decide) (fun _ => k_e (r_hereB hB hR e5 hp) (k_e (r_in hbp.1 (by decide) (by decide)) (k_b (fun c => k_ck (Or.inr rfl) (k_lt (k_lt (k_lt ?_)))) (fun c => k_ck (Or.inl rfl) (k_lt (k_lt (k_lt ?_))))))) (fun z => absurd e7 z)))
  · refine r_figL _ z_up0e (by decide) (k_some (h0 ?_))
    unfold kz_pN; rw [if_neg c]
  · have hlt := z_By hB p (by omega)
    unfold kz_pN at h1
    rw [if_pos c] at h1
    rw [z_upI e7, kl_X10_figures_34]
    refine k_ls (by decide) (by decide) (fun _ => k_eq (by rw [e7]; decide) (by decide) (fun _ => k_e (r_hereB hB hR e5 hp) (k_e (r_in hbp.1 (by decide) (by decide)) (k_b (fun z => absurd c z) (fun _ => k_jn (k_eq (by decide) (by decide) (fun _ => k_e (r_hereB hB hR e5 hp) (k_lt (k_lt (k_lt ?_)))) (fun z => absurd rfl z)))))) (fun z => absurd e7 z)) (fun z => absurd (by decide) z)
    rw [e5]
    have hR1 := z_R0U (x := p + 1) hN.2 (Or.inl rfl) hR
    have e7' : kp_up τ 0 5 (p + 1) 0 7 = 0 := by rw [z_up0 (by decide)]; exact e7
    have hb1 := z_ByI hB (p + 1)
    have h11 : 0 ≤ p + 1 ∧ p + 1 ≤ N := ⟨by omega, by omega⟩
    rw [kl_X10_figures_34]
    refine k_ls (by decide) (by decide) (fun _ => k_eq (by rw [e7']; decide) (by decide) (fun _ => k_e (r_hereB hB hR1 z_up0e h11) (k_e (r_in hb1.1 (by decide) (by decide)) (k_b (fun d => k_some ?_) (fun d => k_jn (k_eq (by decide) (by decide) (fun z => absurd z (by decide)) (fun _ => k_ls (by decide) ⟨by omega, by omega⟩ (fun g => k_e (r_hereB hB hR1 z_up0e h11) (k_lt (k_lt (k_lt ?_)))) (fun g => k_some ?_))))))) (fun z => absurd e7' z)) (fun z => absurd (by decide) z)
    · by_cases q : B p = 48
      · rw [if_pos q] at h1
        rw [q]; exact h1 (show ¬ (0 : Int) = -1 by decide)
      · rw [if_neg q, if_neg d] at h1
        rw [show 10 * 0 + B p - 48 = B p - 48 by omega]
        exact h1 (by dsimp only; omega)
    · rw [if_neg (by omega), if_pos d] at h1
      rw [z_up0e, z_upU, kl_X10_figures_34]
      refine k_ls (by decide) (by decide) (fun z => absurd z (by decide)) (fun _ => k_some ?_)
      rw [show 10 * (10 * 0 + B p - 48) + B (p + 1) - 48 = 10 * (B p - 48) + (B (p + 1) - 48) by omega, show p + 1 + 1 = p + 2 by omega]
      exact h1 (by dsimp only; omega)
    · have q : B p = 48 := by omega
      rw [if_pos q] at h1
      rw [q]; exact h1 (show ¬ (0 : Int) = -1 by decide)
/-- steps put -/
def kz_A2 (h : Int) (σ σ' : kp_W) (e : List Int) : Prop := σ' 1 (Int.toNat (361 + h)) = σ 1 (Int.toNat (361 + h)) + (e.length : Int) ∧ (∀ j, 0 ≤ j → j < σ 1 (Int.toNat (361 + h)) → σ' 1 (Int.toNat (366 + 140 * h + j)) = σ 1 (Int.toNat (366 + 140 * h + j))) ∧ kz_arr (σ' 1) (366 + 140 * h + σ 1 (Int.toNat (361 + h))) e
theorem z_A20 {σ : kp_W} : kz_A2 h σ σ [] := ⟨by simp, fun _ _ _ => rfl, trivial⟩
theorem z_A2T {a b c : kp_W} {e f : List Int} (hh : 0 ≤ h) (h0 : 0 ≤ a 1 (Int.toNat (361 + h))) (q : kz_A2 h a b e) (q2 : kz_A2 h b c f) : kz_A2 h a c (e ++ f) := by
  obtain ⟨h1, h3, h4⟩ := q
  obtain ⟨g1, g3, g4⟩ := q2
  refine ⟨by rw [g1, h1, List.length_append]; omega, fun j j0 j1 => by rw [g3 j j0 (by omega)]; exact h3 j j0 j1, z_arrA (z_arrC (by omega) (fun i i0 i1 => ?_) h4) ?_⟩
  · have := g3 (i - (366 + 140 * h)) (by omega) (by omega)
    rw [show 366 + 140 * h + (i - (366 + 140 * h)) = i by omega] at this
    exact this
  · rw [h1] at g4
    rw [show 366 + 140 * h + a 1 (Int.toNat (361 + h)) + (e.length : Int) = 366 + 140 * h + (a 1 (Int.toNat (361 + h)) + (e.length : Int)) by omega]
    exact g4
theorem z_A2E {a a' b b' : kp_W} {e : List Int} (ha : a' 1 = a 1) (hb : b' 1 = b 1) (q : kz_A2 h a b e) : kz_A2 h a' b' e := by
  unfold kz_A2; rw [ha, hb]; exact q
theorem r_emitW (h7 : τ 0 7 = 1) (c : Int) : kf_X10_emits c τ = some (0, τ) := by
  unfold kf_X10_emits
  exact k_is (k_eq (by rw [h7]; decide) (by decide) (fun z => by omega) (fun _ => k_some ⟨rfl, rfl⟩))
theorem r_emitO (hh : 0 ≤ h ∧ h ≤ 4) (e4 : τ 0 4 = h) (e7 : τ 0 7 = 0) {c : Int} (h0 : 0 ≤ τ 1 (Int.toNat (361 + h))) (h1 : τ 1 (Int.toNat (361 + h)) < 140) {f : Int → kp_W → kp_R} (hk : ∀ τ', kz_Fe h τ τ' → τ' 0 = τ 0 → kz_A2 h τ τ' [c] → kp_ok (f 0 τ') Q) : kp_ok (kp_bd (kf_X10_emits c τ) f) Q := by
  refine k_bd ?_
  unfold kf_X10_emits
  refine k_eq (by rw [e7]; decide) (by decide) (fun _ => ?_) (fun z => absurd e7 z)
  rw [e4]
  refine k_ck ⟨by omega, by omega⟩ (k_ck ⟨by omega, by omega⟩ (k_lt ?_))
  rw [kp_up_ne (show (0 : Nat) ≠ 1 by decide), e4]
  refine k_ck ⟨by omega, by omega⟩ (k_ck ⟨by omega, by omega⟩ (k_lt (k_some (hk _ ⟨fun a a0 a1 => ?_, fun j _ _ _ => ?_, fun i hi => ?_⟩ ?_ ⟨?_, fun j j0 j1 => ?_, ?_, trivial⟩))))
  · rw [kp_up_ne a1, kp_up_ne a1]
  · rw [kp_up_ne (by decide), kp_up_ne (by decide)]
  · unfold kz_coE at hi
    rw [kp_up_eq, if_neg (by omega), kp_up_eq, if_neg (by omega)]
  · rw [kp_up_ne (by decide), kp_up_ne (by decide)]
  · rw [z_up0e, kp_up_eq, if_neg (by omega)]; simp
  · rw [kp_up_eq, if_neg (by omega), kp_up_eq, if_neg (by omega)]
  · rw [kp_up_eq, if_neg (by omega), z_up0e]
theorem r_amL (hB : kz_By B N) (hR : kz_R0 B N h τ) {p : Int} (e5 : τ 0 5 = p) (hp : 0 ≤ p ∧ p ≤ N) {a : Nat} (ha : a < 10) {k : Int → kp_W → kp_R} (hk : ∀ x, 0 ≤ x → x < kp_slen a → kp_sch a x = B p → kp_ok (k x τ) Q) (h0 : (∀ i, 0 ≤ i → i < kp_slen a → ¬ kp_sch a i = B p) → Q (-1) τ) : ∀ (n : Nat) (x : Int), 0 ≤ x → x ≤ kp_slen a → kp_slen a - x < n → (∀ i, 0 ≤ i → i < x → ¬ kp_sch a i = B p) → kp_ok (kl_X10_among_2 a n x τ k) Q := by
  have hl : kp_slen a ≤ 35 := (by decide +kernel : ∀ i : Nat, i < 10 → kp_slen i ≤ 35) a ha
  intro n
  induction n with
  | zero => intro x g0 g1 g2; omega
  | succ n ih =>
    intro x g0 g1 g2 hx
    rw [kl_X10_among_2]
    refine k_ls ⟨by omega, by omega⟩ ⟨by omega, by omega⟩ (fun d => k_e (r_hereB hB hR e5 hp) (k_ck ⟨g0, d⟩ ?_)) (fun d => k_some (h0 (fun i i0 i1 => hx i i0 (by omega))))
    have hr := kp_schR ha ⟨g0, d⟩
    refine k_eq (z_ByI hB p).1 ⟨by omega, by omega⟩ (fun e => hk x g0 d e.symm) (fun e => k_lt (ih _ (by omega) (by omega) (by omega) (fun i i0 i1 => ?_)))
    by_cases q : i = x
    · rw [q]; exact fun z => e z.symm
    · exact hx i i0 (by omega)
theorem r_amS (hB : kz_By B N) (hR : kz_R0 B N h τ) {p : Int} (e5 : τ 0 5 = p) (hp : 0 ≤ p ∧ p ≤ N) {f : Int → kp_W → kp_R} (h1 : ¬ kz_iS (B p) = -1 → kp_ok (f (kz_iS (B p)) (kp_up τ 0 5 (p + 1))) Q) (h0 : kz_iS (B p) = -1 → kp_ok (f (-1) τ) Q) : kp_ok (kp_bd (kf_X10_among 0 τ) f) Q := by
  refine k_bd ?_
  unfold kf_X10_among
  refine k_lt (r_amL hB hR e5 hp (by decide) (fun x x0 x1 hx => k_lt (k_some ?_)) (fun hx => ?_) kp_fu 0 (by decide) (by decide) (kp_fu_big (by decide)) (fun i i0 i1 => by omega))
  · have x1' : x < 5 := x1
    rw [e5]
    have hq : kz_iS (B p) = x := by
      rw [← hx]
      have hx' : x = 0 ∨ x = 1 ∨ x = 2 ∨ x = 3 ∨ x = 4 := by omega
      rcases hx' with rfl | rfl | rfl | rfl | rfl <;> decide +kernel
    rw [hq] at h1
    exact h1 (by omega)
  · refine h0 ?_
    have a0 := hx 0 (by decide) (by decide)
    have a1 := hx 1 (by decide) (by decide)
    have a2 := hx 2 (by decide) (by decide)
    have a3 := hx 3 (by decide) (by decide)
    have a4 := hx 4 (by decide) (by decide)
    rw [show kp_sch 0 0 = 110 by decide +kernel] at a0
    rw [show kp_sch 0 1 = 112 by decide +kernel] at a1
    rw [show kp_sch 0 2 = 107 by decide +kernel] at a2
    rw [show kp_sch 0 3 = 118 by decide +kernel] at a3
    rw [show kp_sch 0 4 = 116 by decide +kernel] at a4
    unfold kz_iS
    rw [if_neg (by omega), if_neg (by omega), if_neg (by omega), if_neg (by omega), if_neg (by omega)]
theorem r_amG (hB : kz_By B N) (hR : kz_R0 B N h τ) {p : Int} (e5 : τ 0 5 = p) (hp : 0 ≤ p ∧ p ≤ N) {f : Int → kp_W → kp_R} (h1 : ¬ kz_iG (B p) = -1 → kp_ok (f (kz_iG (B p)) (kp_up τ 0 5 (p + 1))) Q) (h0 : kz_iG (B p) = -1 → kp_ok (f (-1) τ) Q) : kp_ok (kp_bd (kf_X10_among 1 τ) f) Q := by
  refine k_bd ?_
  unfold kf_X10_among
  refine k_lt (r_amL hB hR e5 hp (by decide) (fun x x0 x1 hx => k_lt (k_some ?_)) (fun hx => ?_) kp_fu 0 (by decide) (by decide) (kp_fu_big (by decide)) (fun i i0 i1 => by omega))
  · have x1' : x < 3 := x1
    rw [e5]
    have hq : kz_iG (B p) = x := by
      rw [← hx]
      have hx' : x = 0 ∨ x = 1 ∨ x = 2 := by omega
      rcases hx' with rfl | rfl | rfl <;> decide +kernel
    rw [hq] at h1
    exact h1 (by omega)
  · refine h0 ?_
    have a0 := hx 0 (by decide) (by decide)
    have a1 := hx 1 (by decide) (by decide)
    have a2 := hx 2 (by decide) (by decide)
    rw [show kp_sch 1 0 = 60 by decide +kernel] at a0
    rw [show kp_sch 1 1 = 61 by decide +kernel] at a1
    rw [show kp_sch 1 2 = 62 by decide +kernel] at a2
    unfold kz_iG
    rw [if_neg (by omega), if_neg (by omega), if_neg (by omega)]
end RPA
