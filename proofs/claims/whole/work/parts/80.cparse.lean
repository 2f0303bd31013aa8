-- the class reads a tape
def kz_By (B : Int → Int) (N : Int) : Prop := (0 ≤ N ∧ N ≤ 120) ∧ (∀ x, 0 ≤ x → x < N → 0 ≤ B x ∧ B x ≤ 255) ∧ ∀ x, ¬ (0 ≤ x ∧ x < N) → B x = -1
theorem z_By {B : Int → Int} {N : Int} (h : kz_By B N) : ∀ x, 0 ≤ B x → x < N := fun x hx => by
  by_cases c : 0 ≤ x ∧ x < N
  · exact c.2
  · have := h.2.2 x c; omega
theorem z_ByI {B : Int → Int} {N : Int} (h : kz_By B N) (x : Int) : kp_in (B x) ∧ -1 ≤ B x ∧ B x ≤ 255 := by
  by_cases c : 0 ≤ x ∧ x < N
  · have := h.2.1 x c.1 c.2
    exact ⟨⟨by omega, by omega⟩, by omega, by omega⟩
  · have := h.2.2 x c
    exact ⟨⟨by omega, by omega⟩, by omega, by omega⟩
def kz_Tp (B : Int → Int) (N : Int) (σ : kp_W) : Prop := σ 46 1 = N ∧ ∀ x, 0 ≤ x → x < N → σ 47 (Int.toNat x) = B x
def kz_Fp (b σ : kp_W) : Prop := (∀ a, a ≠ 39 → a ≠ 40 → a ≠ 42 → σ a = b a) ∧ (∀ j, j ≠ 2 → σ 39 j = b 39 j) ∧ ∀ j, j ≠ 6 → σ 40 j = b 40 j
theorem z_Fp0 {b : kp_W} : kz_Fp b b := ⟨fun _ _ _ _ => rfl, fun _ _ => rfl, fun _ _ => rfl⟩
theorem z_FpT {a b c : kp_W} (h : kz_Fp a b) (h2 : kz_Fp b c) : kz_Fp a c := ⟨fun k a0 a1 a2 => (h2.1 k a0 a1 a2).trans (h.1 k a0 a1 a2), fun j hj => (h2.2.1 j hj).trans (h.2.1 j hj), fun j hj => (h2.2.2 j hj).trans (h.2.2 j hj)⟩
theorem z_TpF {B : Int → Int} {N : Int} {b σ : kp_W} (f : kz_Fp b σ) (h : kz_Tp B N b) : kz_Tp B N σ := by
  unfold kz_Tp
  rw [f.1 46 (by decide) (by decide) (by decide), f.1 47 (by decide) (by decide) (by decide)]
  exact h
section CPA
variable {B : Int → Int} {N : Int} {Q : Int → kp_W → Prop}
theorem c_peek (hB : kz_By B N) {σ : kp_W} (hT : kz_Tp B N σ) {p : Int} (e : σ 39 2 = p) (hp : 0 ≤ p ∧ p ≤ N) : kf_X5_peek σ = some (B p, σ) := by
  have h0 := hB.1
  unfold kf_X5_peek
  rw [e, hT.1]
  refine k_is (k_ls ⟨by omega, by omega⟩ (by decide) (fun c => by omega) (fun _ => k_ls ⟨by omega, by omega⟩ ⟨by omega, by omega⟩ (fun c => k_ls ⟨by omega, by omega⟩ (by decide) (fun _ => k_ck ⟨hp.1, by omega⟩ (k_some ⟨hT.2 p hp.1 c, rfl⟩)) (fun d => by omega)) (fun c => k_some ⟨(hB.2.2 p (by omega)).symm, rfl⟩)))
/-- at the next byte -/
theorem z_adv {b σ : kp_W} {x : Int} (f : kz_Fp b σ) : kz_Fp b (kp_up σ 39 2 x) := ⟨fun a a0 a1 a2 => by rw [kp_up_ne a0]; exact f.1 a a0 a1 a2, fun j hj => by rw [kp_up_eq, if_neg hj]; exact f.2.1 j hj, fun j hj => by rw [kp_up_ne (by decide)]; exact f.2.2 j hj⟩
theorem c_eats (hB : kz_By B N) {σ : kp_W} (hT : kz_Tp B N σ) {p g : Int} (e : σ 39 2 = p) (hp : 0 ≤ p ∧ p ≤ N) (hg : 0 ≤ g ∧ g ≤ 255) {f : Int → kp_W → kp_R} (h1 : B p = g → kp_ok (f 1 (kp_up σ 39 2 (p + 1))) Q) (h0 : ¬ B p = g → kp_ok (f 0 σ) Q) : kp_ok (kp_bd (kf_X5_eats g σ) f) Q := by
  refine k_bd ?_
  unfold kf_X5_eats
  refine k_e (c_peek hB hT e hp) (k_eq (z_ByI hB p).1 ⟨by omega, by omega⟩ (fun c => k_lt (k_some ?_)) (fun c => k_some (h0 c)))
  rw [e]; exact h1 c
/-- a number: the answer, and where it reads on -/
theorem c_numberP (hB : kz_By B N) {σ : kp_W} (hT : kz_Tp B N σ) {p : Int} (e : σ 39 2 = p) (hp : 0 ≤ p ∧ p ≤ N) {f : Int → kp_W → kp_R} (hk : ∀ σ', kz_Fp σ σ' → σ' 40 6 = σ 40 6 → σ' 42 = σ 42 → σ' 39 2 = (kz_pN B p).2 → kp_ok (f (kz_pN B p).1 σ') Q) : kp_ok (kp_bd (kf_X5_number σ) f) Q := by
  have hb := z_ByI hB p
  have h0 := hB.1
  refine k_bd ?_
  unfold kf_X5_number
  refine k_e (c_peek hB hT e hp) (k_lt ?_)
  unfold kz_pN at hk
  by_cases c : 48 ≤ B p ∧ B p ≤ 57
  · have hlt := z_By hB p (by omega)
    rw [if_pos c] at hk
    refine k_ls ⟨by omega, by omega⟩ (by decide) (fun z => by omega) (fun _ => k_ls (by decide) ⟨by omega, by omega⟩ (fun z => by omega) (fun _ => k_lt ?_))
    rw [e]
    have hT1 := z_TpF (z_adv (x := p + 1) z_Fp0) hT
    have hb1 := z_ByI hB (p + 1)
    refine k_e (c_peek hB hT1 z_up0e ⟨by omega, by omega⟩) (k_lt (k_eq ⟨by omega, by omega⟩ (by decide) (fun d => k_some ?_) (fun d => ?_)))
    · rw [if_pos (by omega)] at hk
      rw [d]
      exact hk _ (z_adv z_Fp0) (by rw [kp_up_ne (by decide)]) (kp_up_ne (by decide)) z_up0e
    · rw [if_neg (by omega)] at hk
      by_cases g : 48 ≤ B (p + 1) ∧ B (p + 1) ≤ 57
      · have hlt1 := z_By hB (p + 1) (by omega)
        rw [if_pos g] at hk
        refine k_ls ⟨by omega, by omega⟩ (by decide) (fun z => by omega) (fun _ => k_ls (by decide) ⟨by omega, by omega⟩ (fun z => by omega) (fun _ => k_lt (k_some (hk _ (z_adv (z_adv z_Fp0)) ?_ ?_ ?_))))
        · rw [kp_up_ne (by decide), kp_up_ne (by decide)]
        · rw [kp_up_ne (by decide), kp_up_ne (by decide)]
        · rw [z_up0e, z_up0e]; show p + 1 + 1 = p + 2; omega
      · rw [if_neg g] at hk
        have fin := hk _ (z_adv (x := p + 1) z_Fp0) (by rw [kp_up_ne (by decide)]) (kp_up_ne (by decide)) z_up0e
        exact k_ls ⟨by omega, by omega⟩ (by decide) (fun _ => k_some fin) (fun _ => k_ls (by decide) ⟨by omega, by omega⟩ (fun _ => k_some fin) (fun _ => by omega))
  · rw [if_neg c] at hk
    have fin := hk σ z_Fp0 rfl rfl e
    exact k_ls ⟨by omega, by omega⟩ (by decide) (fun _ => k_some fin) (fun _ => k_ls (by decide) ⟨by omega, by omega⟩ (fun _ => k_some fin) (fun _ => by omega))
end CPA
