-- the class reads an E
def kz_Ap (σ σ' : kp_W) (e : List Int) : Prop := σ' 40 6 = σ 40 6 + (e.length : Int) ∧ (∀ j, 0 ≤ j → j < σ 40 6 → σ' 42 (Int.toNat j) = σ 42 (Int.toNat j)) ∧ kz_arr (σ' 42) (σ 40 6) e
theorem z_arrA {s : Nat → Int} : ∀ {a b : List Int} {x : Int}, kz_arr s x a → kz_arr s (x + (a.length : Int)) b → kz_arr s x (a ++ b)
  | [], b, x, _, h => by simpa using h
  | c :: a, b, x, h1, h2 => by
    refine ⟨h1.1, z_arrA h1.2 ?_⟩
    have e : ((c :: a).length : Int) = (a.length : Int) + 1 := by simp
    rw [e] at h2
    rw [show x + 1 + (a.length : Int) = x + ((a.length : Int) + 1) by omega]; exact h2
theorem z_Ap0 {σ : kp_W} : kz_Ap σ σ [] := ⟨by simp, fun _ _ _ => rfl, trivial⟩
theorem z_ApT {a b c : kp_W} {e f : List Int} (h0 : 0 ≤ a 40 6) (h : kz_Ap a b e) (h2 : kz_Ap b c f) : kz_Ap a c (e ++ f) := by
  obtain ⟨h1, h3, h4⟩ := h
  obtain ⟨g1, g3, g4⟩ := h2
  refine ⟨by rw [g1, h1, List.length_append]; omega, fun j j0 j1 => by rw [g3 j j0 (by omega)]; exact h3 j j0 j1, z_arrA (z_arrC h0 (fun i i0 i1 => g3 i (by omega) (by omega)) h4) (by rw [← h1]; exact g4)⟩
theorem z_ApE {a a' b b' : kp_W} {e : List Int} (h6 : a' 40 6 = a 40 6) (h42 : a' 42 = a 42) (g6 : b' 40 6 = b 40 6) (g42 : b' 42 = b 42) (h : kz_Ap a b e) : kz_Ap a' b' e := by
  unfold kz_Ap; rw [h6, h42, g6, g42]; exact h
theorem kp_schR {i : Nat} {k : Int} (hi : i < 10) (hk : 0 ≤ k ∧ k < kp_slen i) : 0 ≤ kp_sch i k ∧ kp_sch i k ≤ 255 := by
  have l : ∀ i : Nat, i < 10 → kp_slen i ≤ 35 := by decide +kernel
  have key : ∀ i : Nat, i < 10 → ∀ k : Nat, k < 36 → 0 ≤ kp_sch i (k : Int) ∧ kp_sch i (k : Int) ≤ 255 := by decide +kernel
  have := l i hi
  have h2 := key i hi k.toNat (by omega)
  rwa [Int.toNat_of_nonneg hk.1] at h2
def kz_pre (B : Int → Int) (N p : Int) (σ : kp_W) : Prop := kz_Tp B N σ ∧ σ 39 2 = p ∧ (0 ≤ p ∧ p ≤ N) ∧ 0 ≤ σ 40 6 ∧ σ 40 6 ≤ p
def kz_post (r : kz_PR) (σ : kp_W) (v : Int) (σ' : kp_W) : Prop := v = kz_i r.1 ∧ kz_Fp σ σ' ∧ σ' 39 2 = r.2.1 ∧ (r.1 = true → kz_Ap σ σ' r.2.2.1)
def kz_Ct (B : Int → Int) (N : Int) (F : kp_W → kp_R) (G : Int → kz_PR) : Prop := ∀ p σ, kz_pre B N p σ → kp_ok (F σ) (fun v σ' => kz_post (G p) σ v σ')
theorem z_postU {r : kz_PR} {σ : kp_W} {x v : Int} {σ' : kp_W} (h : kz_post r (kp_up σ 39 2 x) v σ') : kz_post r σ v σ' := by
  obtain ⟨h1, h2, h3, h4⟩ := h
  exact ⟨h1, z_FpT (z_adv z_Fp0) h2, h3, fun z => z_ApE (by rw [kp_up_ne (by decide)]) (by rw [kp_up_ne (by decide)]) rfl rfl (h4 z)⟩
theorem z_preU {B : Int → Int} {N p : Int} {σ : kp_W} (h : kz_pre B N p σ) (h1 : p + 1 ≤ N) : kz_pre B N (p + 1) (kp_up σ 39 2 (p + 1)) := by
  obtain ⟨h2, h3, h4, h5, h6⟩ := h
  refine ⟨z_TpF (z_adv z_Fp0) h2, z_up0e, ⟨by omega, h1⟩, ?_, ?_⟩
  · rw [kp_up_ne (by decide)]; exact h5
  · rw [kp_up_ne (by decide)]; omega
section CPB
variable {B : Int → Int} {N : Int} {Q : Int → kp_W → Prop}
theorem c_put {σ : kp_W} {c : Int} (h0 : 0 ≤ σ 40 6) (h1 : σ 40 6 < 120) {f : Int → kp_W → kp_R} (hk : ∀ σ', kz_Fp σ σ' → σ' 39 2 = σ 39 2 → kz_Ap σ σ' [c] → kp_ok (f 0 σ') Q) : kp_ok (kp_bd (kf_X2_put c σ) f) Q := by
  refine k_bd ?_
  unfold kf_X2_put
  refine k_ls ⟨by omega, by omega⟩ (by decide) (fun z => by omega) (fun _ => k_ls ⟨by omega, by omega⟩ (by decide) (fun _ => k_ck ⟨h0, h1⟩ (k_lt (k_lt (k_some (hk _ ⟨fun a a0 a1 a2 => ?_, fun j hj => ?_, fun j hj => ?_⟩ ?_ ⟨?_, fun j j0 j1 => ?_, ?_, trivial⟩))))) (fun z => by omega))
  · rw [kp_up_ne a1, kp_up_ne a2]
  · rw [kp_up_ne (by decide), kp_up_ne (by decide)]
  · rw [kp_up_eq, if_neg hj, kp_up_ne (by decide)]
  · rw [kp_up_ne (by decide), kp_up_ne (by decide)]
  · rw [z_up0e, kp_up_ne (by decide)]; simp
  · rw [kp_up_ne (by decide), kp_up_eq, if_neg (by omega)]
  · rw [kp_up_ne (by decide), z_up0e]
theorem c_oneL {a : Nat} {σ : kp_W} {c : Int} (ha : a < 10) (hc : kp_in c) {k : Int → kp_R} (hk : ∀ x, 0 ≤ x → x < kp_slen a → kp_sch a x = c → (∀ i, 0 ≤ i → i < x → ¬ kp_sch a i = c) → kp_ok (k x) Q) (h0 : (∀ i, 0 ≤ i → i < kp_slen a → ¬ kp_sch a i = c) → Q (-1) σ) : ∀ (n : Nat) (x : Int), 0 ≤ x → x ≤ kp_slen a → kp_slen a - x < n → (∀ i, 0 ≤ i → i < x → ¬ kp_sch a i = c) → kp_ok (kl_X5_oneOf_7 a σ c n x k) Q := by
  have hl : kp_slen a ≤ 35 := (by decide +kernel : ∀ i : Nat, i < 10 → kp_slen i ≤ 35) a ha
  intro n
  induction n with
  | zero => intro x g0 g1 g2; omega
  | succ n ih =>
    intro x g0 g1 g2 hx
    rw [kl_X5_oneOf_7]
    refine k_ls ⟨by omega, by omega⟩ ⟨by omega, by omega⟩ (fun d => k_ck ⟨g0, d⟩ ?_) (fun d => k_some (h0 (fun i i0 i1 => hx i i0 (by omega))))
    have hr := kp_schR ha ⟨g0, d⟩
    refine k_eq ⟨by omega, by omega⟩ hc (fun e => hk x g0 d e hx) (fun e => k_lt (ih _ (by omega) (by omega) (by omega) (fun i i0 i1 => ?_)))
    by_cases q : i = x
    · rw [q]; exact e
    · exact hx i i0 (by omega)
theorem c_oneS (hB : kz_By B N) {σ : kp_W} (hT : kz_Tp B N σ) {p : Int} (e : σ 39 2 = p) (hp : 0 ≤ p ∧ p ≤ N) {f : Int → kp_W → kp_R} (h1 : ¬ kz_iS (B p) = -1 → kp_ok (f (kz_iS (B p)) (kp_up σ 39 2 (p + 1))) Q) (h0 : kz_iS (B p) = -1 → kp_ok (f (-1) σ) Q) : kp_ok (kp_bd (kf_X5_oneOf 0 σ) f) Q := by
  refine k_bd ?_
  unfold kf_X5_oneOf
  refine k_e (c_peek hB hT e hp) (k_lt (k_lt (c_oneL (by decide) (z_ByI hB p).1 (fun x x0 x1 hx _ => k_lt (k_some ?_)) (fun hx => ?_) kp_fu 0 (by decide) (by decide) (kp_fu_big (by decide)) (fun i i0 i1 => by omega))))
  · have x1' : x < 5 := x1
    rw [e]
    have hq : kz_iS (B p) = x := by
      rw [← hx]
      have hx' : x = 0 ∨ x = 1 ∨ x = 2 ∨ x = 3 ∨ x = 4 := by omega
      rcases hx' with rfl | rfl | rfl | rfl | rfl <;> decide +kernel
    rw [hq] at h1
    exact h1 (by omega)
  · refine h0 ?_
    have a0 := hx 0 (by decide) (by decide)
    have a1 := hx 1 (by decide) (by decide)
    have a2 := hx 2 (by decide) (by decide)
    have a3 := hx 3 (by decide) (by decide)
    have a4 := hx 4 (by decide) (by decide)
    rw [show kp_sch 0 0 = 110 by decide +kernel] at a0
    rw [show kp_sch 0 1 = 112 by decide +kernel] at a1
    rw [show kp_sch 0 2 = 107 by decide +kernel] at a2
    rw [show kp_sch 0 3 = 118 by decide +kernel] at a3
    rw [show kp_sch 0 4 = 116 by decide +kernel] at a4
    unfold kz_iS
    rw [if_neg (by omega), if_neg (by omega), if_neg (by omega), if_neg (by omega), if_neg (by omega)]
theorem c_oneG (hB : kz_By B N) {σ : kp_W} (hT : kz_Tp B N σ) {p : Int} (e : σ 39 2 = p) (hp : 0 ≤ p ∧ p ≤ N) {f : Int → kp_W → kp_R} (h1 : ¬ kz_iG (B p) = -1 → kp_ok (f (kz_iG (B p)) (kp_up σ 39 2 (p + 1))) Q) (h0 : kz_iG (B p) = -1 → kp_ok (f (-1) σ) Q) : kp_ok (kp_bd (kf_X5_oneOf 1 σ) f) Q := by
  refine k_bd ?_
  unfold kf_X5_oneOf
  refine k_e (c_peek hB hT e hp) (k_lt (k_lt (c_oneL (by decide) (z_ByI hB p).1 (fun x x0 x1 hx _ => k_lt (k_some ?_)) (fun hx => ?_) kp_fu 0 (by decide) (by decide) (kp_fu_big (by decide)) (fun i i0 i1 => by omega))))
  · have x1' : x < 3 := x1
    rw [e]
    have hq : kz_iG (B p) = x := by
      rw [← hx]
      have hx' : x = 0 ∨ x = 1 ∨ x = 2 := by omega
      rcases hx' with rfl | rfl | rfl <;> decide +kernel
    rw [hq] at h1
    exact h1 (by omega)
  · refine h0 ?_
    have a0 := hx 0 (by decide) (by decide)
    have a1 := hx 1 (by decide) (by decide)
    have a2 := hx 2 (by decide) (by decide)
    rw [show kp_sch 1 0 = 60 by decide +kernel] at a0
    rw [show kp_sch 1 1 = 61 by decide +kernel] at a1
    rw [show kp_sch 1 2 = 62 by decide +kernel] at a2
    unfold kz_iG
    rw [if_neg (by omega), if_neg (by omega), if_neg (by omega)]
theorem c_testC (hB : kz_By B N) : kz_Ct B N kf_X5_test (kz_pT B) := by
  intro p σ hp
  obtain ⟨hT, e, hp, s0, s1⟩ := hp
  have hN := hB.1
  have hb := z_By hB
  unfold kf_X5_test
  have bad : ∀ {q : Int} {σ' : kp_W}, kz_pT B p = kz_bad q → kz_Fp σ σ' → σ' 39 2 = q → kz_post (kz_pT B p) σ 0 σ' := fun h f a => by
    rw [h]; exact ⟨rfl, f, a, fun z => by cases z⟩
  refine c_oneS hB hT e hp (fun h1 => ?_) (fun h1 => k_lt (k_ls (by decide) (by decide) (fun _ => k_some (bad (q := p) ?_ z_Fp0 e)) (fun z => absurd (by decide) z)))
  · have i0 : (0 ≤ kz_iS (B p) ∧ kz_iS (B p) ≤ 4) ∧ 0 ≤ B p := (z_iS (x := B p)).resolve_left h1
    have n1 := hb p i0.2
    have hT1 := z_TpF (z_adv (x := p + 1) z_Fp0) hT
    refine k_lt (k_ls ⟨by omega, by omega⟩ (by decide) (fun z => by omega) (fun _ => c_oneG hB hT1 z_up0e ⟨by omega, by omega⟩ (fun h2 => ?_) (fun h2 => k_lt (k_ls (by decide) (by decide) (fun _ => k_some (bad (q := p + 1) ?_ (z_adv z_Fp0) z_up0e)) (fun z => absurd (by decide) z)))))
    · have i1 : (0 ≤ kz_iG (B (p + 1)) ∧ kz_iG (B (p + 1)) ≤ 2) ∧ 0 ≤ B (p + 1) := (z_iG (x := B (p + 1))).resolve_left h2
      have n2 := hb (p + 1) i1.2
      have hT2 := z_TpF (z_adv (x := p + 1 + 1) (z_adv (x := p + 1) z_Fp0)) hT
      refine k_lt (k_ls ⟨by omega, by omega⟩ (by decide) (fun z => by omega) (fun _ => c_numberP hB hT2 (p := p + 2) (by rw [z_up0e]; omega) ⟨by omega, by omega⟩ (fun σ3 f3 s3 c3 a3 => k_lt ?_)))
      have hn := z_pN hb (p := p + 2)
      have f3' : kz_Fp σ σ3 := z_FpT (z_adv (z_adv z_Fp0)) f3
      have s3' : σ3 40 6 = σ 40 6 := by rw [s3, kp_up_ne (by decide), kp_up_ne (by decide)]
      have c3' : σ3 42 = σ 42 := by rw [c3, kp_up_ne (by decide), kp_up_ne (by decide)]
      refine k_ls ⟨by omega, by omega⟩ (by decide) (fun z => k_some (bad (q := p + 2) ?_ f3' (by omega))) (fun z => ?_)
      · unfold kz_pT; rw [if_neg h1, if_neg h2, if_pos (by omega)]
      · refine k_bd ?_
        unfold kf_X8_code
        refine k_some (c_put (by omega) (by omega) (fun σ4 f4 a4 p4 => k_some ?_))
        have e4 : kz_pT B p = (true, (kz_pN B (p + 2)).2, [(kz_iS (B p) * 3 + kz_iG (B (p + 1))) * 100 + (kz_pN B (p + 2)).1], [kz_iS (B p) + 8 * kz_iG (B (p + 1)) + 32 * (kz_pN B (p + 2)).1]) := by
          unfold kz_pT; rw [if_neg h1, if_neg h2, if_neg (by omega)]
        rw [e4]
        exact ⟨rfl, z_FpT f3' f4, a4.trans a3, fun _ => z_ApE s3'.symm c3'.symm rfl rfl p4⟩
    · unfold kz_pT; rw [if_neg h1, if_pos h2]
  · unfold kz_pT; rw [if_pos h1]
end CPB
