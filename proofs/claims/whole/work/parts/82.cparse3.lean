-- the class reads an E: factors, rows of them
def kz_pX (r : kz_PR × Bool) (b : Bool) : kz_PR := (r.1.1, r.1.2.1, r.1.2.2.1 ++ (if (r.2 ^^ b) = true then [-1] else []), r.1.2.2.2)
theorem z_pX0 (r : kz_PR × Bool) : kz_pX r false = kz_pFx r := by unfold kz_pX kz_pFx; rw [Bool.xor_false]
/-- lengths -/
def kz_Gl (N p : Int) (r : kz_PR) : Prop := (p ≤ r.2.1 ∧ r.2.1 ≤ N) ∧ (r.1 = true → p < r.2.1 ∧ (r.2.2.1.length : Int) ≤ r.2.1 - p)
theorem z_Gl {d : Nat} {N p : Int} {r : kz_PR} (h : kz_Gd d N p r) : kz_Gl N p r := ⟨h.1, fun z => ⟨(h.2 z).1, (h.2 z).2.1.1⟩⟩
theorem z_postB {q : Int} {σ σ' : kp_W} (f : kz_Fp σ σ') (a : σ' 39 2 = q) : kz_post (kz_bad q) σ 0 σ' := ⟨rfl, f, a, fun z => by cases z⟩
theorem z_postX {q : Int} {m fl : Bool} {σ σ' : kp_W} (f : kz_Fp σ σ') (a : σ' 39 2 = q) : kz_post (kz_pX (kz_bad q, m) fl) σ 0 σ' := ⟨rfl, f, a, fun z => by cases z⟩
theorem z_preN {B : Int → Int} {N p : Int} {σ σ' : kp_W} {r : kz_PR} (hp : kz_pre B N p σ) (hg : kz_Gl N p r) (h : kz_post r σ 1 σ') (ht : r.1 = true) : kz_pre B N r.2.1 σ' := by
  obtain ⟨h1, h2, h3, h4⟩ := h
  obtain ⟨g1, g2, g3, g4, g5⟩ := hp
  have a := h4 ht
  have b := hg.2 ht
  have c := hg.1
  have s := a.1
  exact ⟨z_TpF h2 g1, h3, ⟨by omega, c.2⟩, by omega, by omega⟩
section CPC
variable {B : Int → Int} {N : Int}
theorem c_facL (hB : kz_By B N) {eit : Int → kp_W → kp_R} {E : Int → Int → kz_PR} {o0 : Int} (hE : ∀ o, o0 < o → o ≤ 5 → kz_Ct B N (eit o) (E o)) (hG : ∀ o q, o0 < o → o ≤ 5 → q ≤ N → kz_Gl N q (E o q)) : ∀ (n k : Nat) (o p : Int) (fl : Bool) (σ : kp_W), o0 ≤ o → o ≤ 5 → 5 - o < n → 6 - o ≤ k → 0 ≤ o0 → kz_pre B N p σ → (fl = true → σ 40 6 < p) → kp_ok (kl_X5_factor_4 n o (kz_i fl) σ (fun (x2_2 : Int) (x3_2 : Int) (σ_2 : kp_W) => kp_jn (fun (σ_3 : kp_W) => kp_eq x3_2 0 (some (1, σ_3)) (kp_bd (kf_X2_put (-1) σ_3) (fun r_0 σ_4 => some (1, σ_4)))) (fun j78 => kp_jn (fun (σ_5 : kp_W) => kp_bd (kf_X5_test σ_5) (fun r_1 σ_6 => kp_eq r_1 0 (some (0, σ_6)) (j78 σ_6))) (fun j69 => kp_ls x2_2 5 (kp_bd (kf_X5_eats 40 σ_2) (fun r_2 σ_7 => kp_eq r_2 0 (j69 σ_7) (kp_bd (eit (x2_2 + 1) σ_7) (fun r_3 σ_8 => kp_eq r_3 0 (some (0, σ_8)) (kp_bd (kf_X5_eats 41 σ_8) (fun r_4 σ_9 => kp_eq r_4 0 (some (0, σ_9)) (j78 σ_9))))))) (j69 σ_2))))) (fun v σ' => kz_post (kz_pX (kz_pF E B k o p) fl) σ v σ')
  | 0, k, o, p, fl, σ, h1, h2, h3, h4, h0, hp, hfl => by omega
  | n + 1, 0, o, p, fl, σ, h1, h2, h3, h4, h0, hp, hfl => by omega
  | n + 1, k + 1, o, p, fl, σ, h1, h2, h3, h4, h0, hp, hfl => by
    have hb := z_By hB
    have hN := hB.1
    have hz : kp_in (kz_i fl) := by cases fl <;> decide
    -- behind the operand
    have j78 : ∀ (σ3 : kp_W) (r : kz_PR × Bool), kz_post r.1 σ 1 σ3 → r.1.1 = true → r.2 = false → kz_Gl N p r.1 → kp_ok (kp_eq (kz_i fl) 0 (some (1, σ3)) (kp_bd (kf_X2_put (-1) σ3) (fun r_0 σ_4 => some (1, σ_4)))) (fun v σ' => kz_post (kz_pX r fl) σ v σ') := by
      intro σ3 r hr ht hf hg
      obtain ⟨⟨ok, q, ec, er⟩, m⟩ := r
      obtain rfl : ok = true := ht
      obtain rfl : m = false := hf
      have hg2 := hg.2 rfl
      have g1 : p < q := hg2.1
      have g2 : (ec.length : Int) ≤ q - p := hg2.2
      have g3 : q ≤ N := hg.1.2
      obtain ⟨r1, r2, r3, r4⟩ := hr
      have a4 := r4 rfl
      have a41 : σ3 40 6 = σ 40 6 + (ec.length : Int) := a4.1
      obtain ⟨_, _, _, s0, s1⟩ := hp
      cases fl with
      | false =>
        refine k_eq (by decide) (by decide) (fun _ => k_some ⟨rfl, r2, r3, fun _ => ?_⟩) (fun z => absurd rfl z)
        show kz_Ap σ σ3 (ec ++ [])
        rw [List.append_nil]; exact a4
      | true =>
        have := hfl rfl
        refine k_eq (by decide) (by decide) (fun z => absurd z (by decide)) (fun _ => c_put (by omega) (by omega) (fun σ4 f4 e4 p4 => k_some ⟨rfl, z_FpT r2 f4, e4.trans r3, fun _ => ?_⟩))
        exact z_ApT s0 a4 p4
    have j69 : B p = 33 ∧ o = 5 ∨ B p = 40 ∧ o = 5 ∨ ¬ B p = 33 ∧ ¬ B p = 40 → kp_ok (kp_bd (kf_X5_test σ) (fun r_1 σ_6 => kp_eq r_1 0 (some (0, σ_6)) (kp_eq (kz_i fl) 0 (some (1, σ_6)) (kp_bd (kf_X2_put (-1) σ_6) (fun r_0 σ_4 => some (1, σ_4)))))) (fun v σ' => kz_post (kz_pX (kz_pF E B (k + 1) o p) fl) σ v σ') := by
      intro hc
      have e : kz_pF E B (k + 1) o p = (kz_pT B p, false) := by
        rw [kz_pF]
        rcases hc with ⟨c1, c2⟩ | ⟨c1, c2⟩ | ⟨c1, c2⟩
        · rw [if_pos c1, if_pos c2]
          unfold kz_pT
          rw [c1, if_pos (by decide)]
        · rw [if_neg (by omega), if_pos c1, if_pos c2]
          unfold kz_pT
          rw [c1, if_pos (by decide)]
        · rw [if_neg c1, if_neg c2]
      rw [e]
      have hT := z_Gl (z_gT hb (p := p) hp.2.2.1.2)
      refine k_bd (k_mono (c_testC hB p σ hp) (fun v σ6 h6 => ?_))
      have hv := h6.1
      cases ht : (kz_pT B p).1 with
      | false =>
        rw [ht] at hv
        subst hv
        refine k_eq (by decide) (by decide) (fun _ => k_some ⟨?_, h6.2.1, h6.2.2.1, fun z => ?_⟩) (fun z => absurd rfl z)
        · show 0 = kz_i (kz_pT B p).1
          rw [ht]; rfl
        · have : (kz_pT B p).1 = true := z
          rw [ht] at this; cases this
      | true =>
        rw [ht] at hv
        subst hv
        exact k_eq (by decide) (by decide) (fun z => absurd z (by decide)) (fun _ => j78 σ6 (kz_pT B p, false) h6 ht rfl hT)
    have aft : ¬ B p = 33 ∨ o = 5 → kp_ok (kp_jn (fun (σ_3 : kp_W) => kp_eq (kz_i fl) 0 (some (1, σ_3)) (kp_bd (kf_X2_put (-1) σ_3) (fun r_0 σ_4 => some (1, σ_4)))) (fun j78 => kp_jn (fun (σ_5 : kp_W) => kp_bd (kf_X5_test σ_5) (fun r_1 σ_6 => kp_eq r_1 0 (some (0, σ_6)) (j78 σ_6))) (fun j69 => kp_ls o 5 (kp_bd (kf_X5_eats 40 σ) (fun r_2 σ_7 => kp_eq r_2 0 (j69 σ_7) (kp_bd (eit (o + 1) σ_7) (fun r_3 σ_8 => kp_eq r_3 0 (some (0, σ_8)) (kp_bd (kf_X5_eats 41 σ_8) (fun r_4 σ_9 => kp_eq r_4 0 (some (0, σ_9)) (j78 σ_9))))))) (j69 σ)))) (fun v σ' => kz_post (kz_pX (kz_pF E B (k + 1) o p) fl) σ v σ') := by
      intro c
      refine k_jn (k_jn (k_ls ⟨by omega, by omega⟩ (by decide) (fun d => c_eats hB hp.1 hp.2.1 hp.2.2.1 (by decide) (fun g => k_eq (by decide) (by decide) (fun z => absurd z (by decide)) (fun _ => ?_)) (fun g => k_eq (by decide) (by decide) (fun _ => j69 (by omega)) (fun z => absurd rfl z))) (fun d => ?_)))
      · have hlt := hb p (by omega)
        have e : kz_pF E B (k + 1) o p = if (E (o + 1) (p + 1)).1 = true ∧ B (E (o + 1) (p + 1)).2.1 = 41 then ((true, (E (o + 1) (p + 1)).2.1 + 1, (E (o + 1) (p + 1)).2.2.1, (E (o + 1) (p + 1)).2.2.2), false) else (kz_bad (E (o + 1) (p + 1)).2.1, false) := by
          rw [kz_pF, if_neg (by omega), if_pos g, if_neg (by omega)]
        rw [e]
        have hq := hG (o + 1) (p + 1) (by omega) (by omega) (by omega)
        have hpU := z_preU hp (by omega)
        refine k_bd (k_mono (hE (o + 1) (by omega) (by omega) (p + 1) _ hpU) (fun v σ8 h8 => ?_))
        have h8U := z_postU h8
        generalize E (o + 1) (p + 1) = t at *
        obtain ⟨ok, q, ec, er⟩ := t
        cases ok with
        | false =>
          obtain rfl : v = 0 := h8.1
          refine k_eq (by decide) (by decide) (fun _ => k_some ?_) (fun z => absurd rfl z)
          rw [if_neg (fun z => by cases z.1)]
          exact z_postX h8U.2.1 h8U.2.2.1
        | true =>
          obtain rfl : v = 1 := h8.1
          have hp8 := z_preN hpU hq h8 rfl
          have q1 : p + 1 < q := (hq.2 rfl).1
          have q2 : (ec.length : Int) ≤ q - (p + 1) := (hq.2 rfl).2
          refine k_eq (by decide) (by decide) (fun z => absurd z (by decide)) (fun _ => c_eats hB hp8.1 hp8.2.1 hp8.2.2.1 (by decide) (fun g2 => k_eq (by decide) (by decide) (fun z => absurd z (by decide)) (fun _ => ?_)) (fun g2 => k_eq (by decide) (by decide) (fun _ => k_some ?_) (fun z => absurd rfl z)))
          · have g2' : B q = 41 := g2
            have hlt2 := hb q (by omega)
            rw [if_pos ⟨rfl, g2⟩]
            refine j78 _ ((true, q + 1, ec, er), false) ⟨rfl, z_adv h8U.2.1, z_up0e, fun _ => ?_⟩ rfl rfl ⟨⟨?_, ?_⟩, fun _ => ⟨?_, ?_⟩⟩
            · exact z_ApE rfl rfl (by rw [kp_up_ne (by decide)]) (by rw [kp_up_ne (by decide)]) (h8U.2.2.2 rfl)
            · show p ≤ q + 1; omega
            · show q + 1 ≤ N; omega
            · show p < q + 1; omega
            · show (ec.length : Int) ≤ q + 1 - p; omega
          · rw [if_neg (fun z => g2 z.2)]
            exact z_postX h8U.2.1 h8U.2.2.1
      · exact j69 (by omega)
    rw [kl_X5_factor_4]
    refine k_ls ⟨by omega, by omega⟩ (by decide) (fun d => c_eats hB hp.1 hp.2.1 hp.2.2.1 (by decide) (fun g => k_eq (by decide) (by decide) (fun z => absurd z (by decide)) (fun _ => ?_)) (fun g => k_eq (by decide) (by decide) (fun _ => aft (Or.inl g)) (fun z => absurd rfl z))) (fun d => aft (Or.inr (by omega)))
    have hlt := hb p (by omega)
    have hpU := z_preU hp (by omega)
    have s6 : kp_up σ 39 2 (p + 1) 40 6 < p + 1 := by
      rw [kp_up_ne (by decide)]
      have := hp.2.2.2.2
      omega
    have e : ∀ b : Bool, kz_pX (kz_pF E B (k + 1) o p) b = ((kz_pX (kz_pF E B k (o + 1) (p + 1)) (!b)).1, (kz_pX (kz_pF E B k (o + 1) (p + 1)) (!b)).2.1, (kz_pX (kz_pF E B k (o + 1) (p + 1)) (!b)).2.2.1, (kz_pF E B k (o + 1) (p + 1)).1.2.2.2 ++ [-1]) := by
      intro b
      rw [kz_pF, if_pos g, if_neg (by omega)]
      unfold kz_pX
      dsimp only
      have hh : ∀ w : Bool, (!w ^^ b) = (w ^^ !b) := fun w => by cases w <;> cases b <;> rfl
      simp only [hh]
    rw [e]
    have fin : ∀ (v : Int) (σ' : kp_W), kz_post (kz_pX (kz_pF E B k (o + 1) (p + 1)) (!fl)) (kp_up σ 39 2 (p + 1)) v σ' → kz_post ((kz_pX (kz_pF E B k (o + 1) (p + 1)) (!fl)).1, (kz_pX (kz_pF E B k (o + 1) (p + 1)) (!fl)).2.1, (kz_pX (kz_pF E B k (o + 1) (p + 1)) (!fl)).2.2.1, (kz_pF E B k (o + 1) (p + 1)).1.2.2.2 ++ [-1]) σ v σ' := fun v σ' h => z_postU h
    refine k_eq hz (by decide) (fun z => ?_) (fun z => ?_)
    · cases fl with
      | true => cases z
      | false => exact k_lt (k_lt (k_mono (c_facL hB hE hG n k (o + 1) (p + 1) true _ (by omega) (by omega) (by omega) (by omega) h0 hpU (fun _ => s6)) fin))
    · cases fl with
      | false => exact absurd rfl z
      | true => exact k_lt (k_lt (k_mono (c_facL hB hE hG n k (o + 1) (p + 1) false _ (by omega) (by omega) (by omega) (by omega) h0 hpU (fun z => by cases z)) fin))
theorem c_facC (hB : kz_By B N) {eit : Int → kp_W → kp_R} {E : Int → Int → kz_PR} {o : Int} (h0 : 0 ≤ o) (h5 : o ≤ 5) (hE : ∀ o', o < o' → o' ≤ 5 → kz_Ct B N (eit o') (E o')) (hG : ∀ o' q, o < o' → o' ≤ 5 → q ≤ N → kz_Gl N q (E o' q)) : kz_Ct B N (kf_X5_factor eit o) (fun p => kz_pFx (kz_pF E B 7 o p)) := by
  intro p σ hp
  have h := c_facL hB hE hG kp_fu 7 o p false σ (Int.le_refl _) h5 (kp_fu_big (by omega)) (by omega) h0 hp (fun z => by cases z)
  rw [z_pX0] at h
  exact k_lt (k_lt h)
/-- an operand behind a sign, or the first -/
def kz_jo (c : Int) (A : Option (List Int × List Int)) (t : kz_PR) : kz_PR := match A with
  | none => t
  | some w => if t.1 = true then (true, t.2.1, w.1 ++ t.2.2.1 ++ [c], w.2 ++ t.2.2.2 ++ [c]) else kz_bad t.2.1
/-- what waits for its sign -/
def kz_li : Option (List Int × List Int) → List Int
  | none => []
  | some w => w.1
theorem z_pLf {F : Int → kz_PR} {g c : Int} : ∀ (k : Nat) {r : kz_PR}, r.1 = false → kz_pL F B g c k r = r
  | 0, _, _ => rfl
  | k + 1, r, h => by rw [kz_pL, if_neg (fun z => by rw [h] at z; cases z.1)]
theorem z_pLn {F : Int → kz_PR} {g c : Int} : ∀ (k : Nat) {r : kz_PR}, ¬ B r.2.1 = g → kz_pL F B g c k r = r
  | 0, _, _ => rfl
  | k + 1, r, h => by rw [kz_pL, if_neg (fun z => h z.2)]
theorem z_pLj {F : Int → kz_PR} {g c : Int} (k : Nat) {q : Int} {e1 e2 : List Int} (h : B q = g) : kz_pL F B g c (k + 1) (true, q, e1, e2) = kz_pL F B g c k (kz_jo c (some (e1, e2)) (F (q + 1))) := by
  rw [kz_pL, if_pos ⟨rfl, h⟩]
  dsimp only
  unfold kz_jo
  dsimp only
  by_cases ht : (F (q + 1)).1 = true
  · rw [if_pos ht, if_pos ht]
  · rw [if_neg ht, if_neg ht, z_pLf k rfl]
theorem z_joF {c : Int} {A : Option (List Int × List Int)} {t : kz_PR} (h : t.1 = false) : (kz_jo c A t).1 = false ∧ (kz_jo c A t).2.1 = t.2.1 := by
  cases A with
  | none => exact ⟨h, rfl⟩
  | some w =>
    unfold kz_jo
    dsimp only
    rw [if_neg (by rw [h]; decide)]
    exact ⟨rfl, rfl⟩
theorem z_postF {r : kz_PR} {q : Int} {σ σ' : kp_W} (h : r.1 = false) (hq : r.2.1 = q) (f : kz_Fp σ σ') (a : σ' 39 2 = q) : kz_post r σ 0 σ' := ⟨by rw [h]; rfl, f, a.trans hq.symm, fun z => by rw [h] at z; cases z⟩
theorem c_eitL (hB : kz_By B N) {fac : Int → kp_W → kp_R} {F : Int → kz_PR} {a1 : Int} (hF : kz_Ct B N (fac a1) F) (hG : ∀ q, q ≤ N → kz_Gl N q (F q)) {σ : kp_W} (h0 : 0 ≤ σ 40 6) (hT : kz_Tp B N σ) : ∀ (m k1 k2 : Nat) (x q : Int) (A O : Option (List Int × List Int)) (σ2 : kp_W), 0 ≤ x → 2 * x ≤ q → 120 - x < m → N - q < k1 → N - q < k2 → q ≤ N → kz_Fp σ σ2 → σ2 39 2 = q → 0 ≤ σ2 40 6 → σ2 40 6 + kz_i A.isSome + kz_i O.isSome ≤ q → kz_Ap σ σ2 (kz_li O ++ kz_li A) → kp_ok (kl_X5_either_7 fac a1 m (kz_i A.isSome) (kz_i O.isSome) x σ2 (fun (σ_2 : kp_W) => some (0, σ_2))) (fun v σ' => kz_post (kz_pL (fun q => kz_pL F B 38 (-2) 130 (F q)) B 124 (-3) k2 (kz_jo (-3) O (kz_pL F B 38 (-2) k1 (kz_jo (-2) A (F q))))) σ v σ')
  | 0, k1, k2, x, q, A, O, σ2, hx, h2, h3, h4, h5, h6, f2, e2, s2, l2, a2 => by have := hB.1; omega
  | m + 1, 0, k2, x, q, A, O, σ2, hx, h2, h3, h4, h5, h6, f2, e2, s2, l2, a2 => by omega
  | m + 1, k1 + 1, 0, x, q, A, O, σ2, hx, h2, h3, h4, h5, h6, f2, e2, s2, l2, a2 => by omega
  | m + 1, k1 + 1, k2 + 1, x, q, A, O, σ2, hx, h2, h3, h4, h5, h6, f2, e2, s2, l2, a2 => by
    have hN := hB.1
    have hb := z_By hB
    have iA := z_i01 (b := A.isSome)
    have iO := z_i01 (b := O.isSome)
    rw [kl_X5_either_7]
    have hq0 := hG q h6
    refine k_ls ⟨by omega, by omega⟩ (by decide) (fun _ => k_bd (k_mono (hF q σ2 ⟨z_TpF f2 hT, e2, ⟨by omega, h6⟩, s2, by omega⟩) (fun v σ5 h5' => ?_))) (fun z => by omega)
    have fr : kz_Fp σ σ5 := z_FpT f2 h5'.2.1
    generalize hFq : F q = t at *
    obtain ⟨ok, q', ec, er⟩ := t
    cases ok with
    | false =>
      obtain rfl : v = 0 := h5'.1
      refine k_eq (by decide) (by decide) (fun _ => k_some ?_) (fun z => absurd rfl z)
      obtain ⟨b1, b2⟩ := z_joF (c := -2) (A := A) (t := (false, q', ec, er)) rfl
      rw [z_pLf (k1 + 1) b1]
      obtain ⟨b3, b4⟩ := z_joF (c := -3) (A := O) b1
      rw [z_pLf (k2 + 1) b3]
      exact z_postF b3 (b4.trans b2) fr h5'.2.2.1
    | true =>
      obtain rfl : v = 1 := h5'.1
      have g1 : q < q' := (hq0.2 rfl).1
      have g2 : (ec.length : Int) ≤ q' - q := (hq0.2 rfl).2
      have g3 : q' ≤ N := hq0.1.2
      have t4 : kz_Ap σ2 σ5 ec := h5'.2.2.2 rfl
      have l5 : σ5 40 6 = σ2 40 6 + (ec.length : Int) := t4.1
      have e5 : σ5 39 2 = q' := h5'.2.2.1
      -- behind both: an or, or the end
      have J64 : ∀ (σ7 : kp_W) (cO cR : List Int), kz_Fp σ σ7 → σ7 39 2 = q' → 0 ≤ σ7 40 6 → σ7 40 6 ≤ q' → kz_Ap σ σ7 cO → ¬ B q' = 38 → kp_ok (kp_bd (kf_X5_eats 124 σ7) (fun r_2 σ_7 => kp_lt (r_2 : Int) (fun x3_2 => kp_eq x3_2 0 (some (1, σ_7)) (kp_lt (x + 1) (fun x4_2 => kl_X5_either_7 fac a1 m 0 x3_2 x4_2 σ_7 (fun (σ_2 : kp_W) => some (0, σ_2))))))) (fun v σ' => kz_post (kz_pL (fun q => kz_pL F B 38 (-2) 130 (F q)) B 124 (-3) (k2 + 1) (true, q', cO, cR)) σ v σ') := by
        intro σ7 cO cR f7 e7 s7 l7 a7 hn
        refine c_eats hB (z_TpF f7 hT) e7 ⟨by omega, g3⟩ (by decide) (fun g => k_lt (k_eq (by decide) (by decide) (fun z => absurd z (by decide)) (fun _ => k_lt ?_))) (fun g => k_lt (k_eq (by decide) (by decide) (fun _ => k_some ?_) (fun z => absurd rfl z)))
        · have hlt := hb q' (by omega)
          rw [z_pLj k2 g]
          refine c_eitL hB hF hG h0 hT m 130 k2 (x + 1) (q' + 1) none (some (cO, cR)) _ (by omega) (by omega) (by omega) (by omega) (by omega) (by omega) (z_adv f7) z_up0e ?_ ?_ ?_
          · rw [kp_up_ne (by decide)]; exact s7
          · rw [kp_up_ne (by decide)]
            show σ7 40 6 + 0 + 1 ≤ q' + 1
            omega
          · show kz_Ap σ _ (cO ++ [])
            rw [List.append_nil]
            exact z_ApE rfl rfl (by rw [kp_up_ne (by decide)]) (by rw [kp_up_ne (by decide)]) a7
        · rw [z_pLn (k2 + 1) g]
          exact ⟨rfl, f7, e7, fun _ => a7⟩
      -- behind the factor: an and, or what waits for the or
      have J37 : ∀ (σ6 : kp_W) (cA cR : List Int), kz_Fp σ σ6 → σ6 39 2 = q' → 0 ≤ σ6 40 6 → σ6 40 6 + kz_i O.isSome ≤ q' → kz_Ap σ σ6 (kz_li O ++ cA) → kp_ok (kp_bd (kf_X5_eats 38 σ6) (fun r_1 σ_5 => kp_lt (r_1 : Int) (fun x2_2 => kp_eq x2_2 0 (kp_jn (fun (σ_6 : kp_W) => kp_bd (kf_X5_eats 124 σ_6) (fun r_2 σ_7 => kp_lt (r_2 : Int) (fun x3_2 => kp_eq x3_2 0 (some (1, σ_7)) (kp_lt (x + 1) (fun x4_2 => kl_X5_either_7 fac a1 m x2_2 x3_2 x4_2 σ_7 (fun (σ_2 : kp_W) => some (0, σ_2))))))) (fun j64 => kp_eq (kz_i O.isSome) 0 (j64 σ_5) (kp_bd (kf_X2_put (-3) σ_5) (fun r_3 σ_8 => j64 σ_8)))) (kp_lt (x + 1) (fun x4_3 => kl_X5_either_7 fac a1 m x2_2 (kz_i O.isSome) x4_3 σ_5 (fun (σ_2 : kp_W) => some (0, σ_2))))))) (fun v σ' => kz_post (kz_pL (fun q => kz_pL F B 38 (-2) 130 (F q)) B 124 (-3) (k2 + 1) (kz_jo (-3) O (kz_pL F B 38 (-2) (k1 + 1) (true, q', cA, cR)))) σ v σ') := by
        intro σ6 cA cR f6 e6 s6 l6 a6
        refine c_eats hB (z_TpF f6 hT) e6 ⟨by omega, g3⟩ (by decide) (fun g => k_lt (k_eq (by decide) (by decide) (fun z => absurd z (by decide)) (fun _ => k_lt ?_))) (fun g => k_lt (k_eq (by decide) (by decide) (fun _ => k_jn ?_) (fun z => absurd rfl z)))
        · have hlt := hb q' (by omega)
          rw [z_pLj k1 g]
          refine c_eitL hB hF hG h0 hT m k1 (k2 + 1) (x + 1) (q' + 1) (some (cA, cR)) O _ (by omega) (by omega) (by omega) (by omega) (by omega) (by omega) (z_adv f6) z_up0e ?_ ?_ ?_
          · rw [kp_up_ne (by decide)]; exact s6
          · rw [kp_up_ne (by decide)]
            show σ6 40 6 + 1 + kz_i O.isSome ≤ q' + 1
            omega
          · exact z_ApE rfl rfl (by rw [kp_up_ne (by decide)]) (by rw [kp_up_ne (by decide)]) a6
        · rw [z_pLn (k1 + 1) g]
          cases O with
          | none =>
            have l6' : σ6 40 6 + 0 ≤ q' := l6
            show kp_ok (kp_eq 0 0 _ _) _
            exact k_eq (by decide) (by decide) (fun _ => J64 σ6 cA cR f6 e6 s6 (by omega) a6 g) (fun z => absurd rfl z)
          | some w =>
            have l6' : σ6 40 6 + 1 ≤ q' := l6
            show kp_ok (kp_eq 1 0 _ _) _
            refine k_eq (by decide) (by decide) (fun z => absurd z (by decide)) (fun _ => c_put (by omega) (by omega) (fun σ8 f8 e8 p8 => ?_))
            have l8 : σ8 40 6 = σ6 40 6 + 1 := p8.1
            exact J64 σ8 (w.1 ++ cA ++ [-3]) (w.2 ++ cR ++ [-3]) (z_FpT f6 f8) (e8.trans e6) (by omega) (by omega) (z_ApT h0 a6 p8) g
      refine k_eq (by decide) (by decide) (fun z => absurd z (by decide)) (fun _ => k_jn ?_)
      cases A with
      | none =>
        show kp_ok (kp_eq 0 0 _ _) _
        refine k_eq (by decide) (by decide) (fun _ => J37 σ5 ec er fr e5 (by omega) ?_ ?_) (fun z => absurd rfl z)
        · have l2' : σ2 40 6 + 0 + kz_i O.isSome ≤ q := l2
          omega
        · have a2' : kz_Ap σ σ2 (kz_li O ++ []) := a2
          rw [List.append_nil] at a2'
          exact z_ApT h0 a2' t4
      | some w =>
        have l2' : σ2 40 6 + 1 + kz_i O.isSome ≤ q := l2
        show kp_ok (kp_eq 1 0 _ _) _
        refine k_eq (by decide) (by decide) (fun z => absurd z (by decide)) (fun _ => c_put (by omega) (by omega) (fun σ9 f9 e9 p9 => ?_))
        have l9 : σ9 40 6 = σ5 40 6 + 1 := p9.1
        refine J37 σ9 (w.1 ++ ec ++ [-2]) (w.2 ++ er ++ [-2]) (z_FpT fr f9) (e9.trans e5) (by omega) (by omega) ?_
        have a9 := z_ApT h0 (z_ApT h0 a2 t4) p9
        have ea : kz_li O ++ kz_li (some w) ++ ec ++ [-2] = kz_li O ++ (w.1 ++ ec ++ [-2]) := by
          show kz_li O ++ w.1 ++ ec ++ [-2] = _
          simp only [List.append_assoc]
        rw [← ea]
        exact a9
theorem c_eitN (hB : kz_By B N) {fac : Int → kp_W → kp_R} {F : Int → kz_PR} {a1 : Int} (hF : kz_Ct B N (fac a1) F) (hG : ∀ q, q ≤ N → kz_Gl N q (F q)) : kz_Ct B N (kf_X5_either fac a1) (fun p => kz_pL (fun q => kz_pL F B 38 (-2) 130 (F q)) B 124 (-3) 130 (kz_pL F B 38 (-2) 130 (F p))) := by
  intro p σ hp
  have hN := hB.1
  obtain ⟨h1, h2, h3, h4, h5⟩ := hp
  unfold kf_X5_either
  exact k_lt (k_lt (k_lt (c_eitL hB hF hG h4 h1 kp_fu 130 130 0 p none none σ (by decide) (by omega) (kp_fu_big (by decide)) (by omega) (by omega) h3.2 z_Fp0 h2 h4 (by show σ 40 6 + 0 + 0 ≤ p; omega) z_Ap0)))
theorem z_glF (hB : kz_By B N) (m : Nat) {o q : Int} (h0 : 0 ≤ o) (h5 : o ≤ 5) (hq : q ≤ N) : kz_Gd (11 - 2 * Int.toNat o) N q (kz_pFx (kz_pF (kz_pE B m) B 7 o q)) := z_gfx (z_gF (z_By hB) (fun o' q' o0 o1 hq' => z_gE (z_By hB) m o' q' (by omega) o1 hq') 7 o q h0 h5 hq)
theorem c_eitC (hB : kz_By B N) : ∀ (m : Nat) (o : Int), 0 ≤ o → o ≤ 5 → 6 ≤ o + (m : Int) → kz_Ct B N (kt_X5_either m o) (kz_pE B m o)
  | 0, o, h0, h5, h6 => by omega
  | m + 1, o, h0, h5, h6 => by
    have hf : kz_Ct B N (kt_X5_factor (m + 1) o) (fun p => kz_pFx (kz_pF (kz_pE B m) B 7 o p)) := by
      have h := c_facC hB (eit := kt_X5_either m) (E := kz_pE B m) h0 h5 (fun o' a b => c_eitC hB m o' (by omega) b (by omega)) (fun o' q a b hq => z_Gl (z_gE (z_By hB) m o' q (by omega) b hq))
      intro p σ hp
      rw [kt_X5_factor]
      exact h p σ hp
    exact c_eitN hB (fac := kt_X5_factor (m + 1)) hf (fun q hq => z_Gl (z_glF hB m h0 h5 hq))
end CPC
