-- the class: what changes what there is
theorem z_RdS {b : Nat} {s s' : Nat → Int} {σ : kp_W} (e : ∀ i : Int, 130 ≤ i → i < 250 → s' (Int.toNat i) = s (Int.toNat i)) (h : kz_Rd b s σ) : kz_Rd b s' σ := fun w w0 w1 => ⟨(h w w0 w1).1, fun t t0 t1 => by rw [e _ (by omega) (by omega)]; exact (h w w0 w1).2 t t0 t1⟩
theorem z_RtS {b : Nat} {s s' : Nat → Int} {σ : kp_W} (e3 : s' 3 = s 3) (h3 : s 3 ≤ 120) (e : ∀ i : Int, 10 ≤ i → i < 130 → s' (Int.toNat i) = s (Int.toNat i)) (h : kz_Rt b s σ) : kz_Rt b s' σ := ⟨by rw [e3]; exact h.1, fun i i0 i1 => by rw [e3] at i1; rw [e _ (by omega) (by omega)]; exact h.2 i i0 i1⟩
theorem z_RuS {b : Nat} {s s' : Nat → Int} {σ : kp_W} (hs : -1 ≤ s 4) (e4 : s' 4 = s 4) (e : ∀ i : Int, 336 ≤ i → s' (Int.toNat i) = s (Int.toNat i)) (h : kz_Ru b s σ) : kz_Ru b s' σ := fun j j0 j1 => by
  have := h j j0 j1
  unfold kz_tl at this ⊢
  rw [e4]
  by_cases c : s 4 = -1
  · rw [if_pos c] at this ⊢; exact this
  · rw [if_neg c] at this ⊢; rw [e _ (by omega)]; exact this
theorem z_RnS {b : Nat} {s s' : Nat → Int} {σ : kp_W} (e0 : s' 0 = s 0) (h0 : s 0 ≤ 10) (e : ∀ i : Int, 250 ≤ i → i < 300 → s' (Int.toNat i) = s (Int.toNat i)) (h : kz_Rn b s σ) : kz_Rn b s' σ := by
  unfold kz_Rn
  rw [e0]
  refine ⟨h.1, h.2.1, fun n n0 n1 => ?_⟩
  rw [e (290 + n) (by omega) (by omega), e (250 + n) (by omega) (by omega), e (260 + n) (by omega) (by omega), e (270 + n) (by omega) (by omega), e (280 + n) (by omega) (by omega)]
  exact h.2.2 n n0 n1
theorem z_RbS {b : Nat} {s s' : Nat → Int} {σ : kp_W} (e2 : s' 2 = s 2) (h2 : s 2 ≤ 12) (e : ∀ i : Int, 300 ≤ i → i < 336 → s' (Int.toNat i) = s (Int.toNat i)) (h : kz_Rb b s σ) : kz_Rb b s' σ := by
  unfold kz_Rb
  rw [e2]
  refine ⟨h.1, fun n n0 n1 => ?_⟩
  rw [e (300 + n) (by omega) (by omega), e (312 + n) (by omega) (by omega), e (324 + n) (by omega) (by omega)]
  exact h.2 n n0 n1
theorem z_RdF {b : Nat} {s : Nat → Int} {σ σ' : kp_W} (e : σ' b = σ b) (h : kz_Rd b s σ) : kz_Rd b s σ' := by unfold kz_Rd; rw [e]; exact h
theorem z_RtF {b : Nat} {s : Nat → Int} {σ σ' : kp_W} (e : σ' b = σ b) (e1 : σ' (b + 1) = σ (b + 1)) (h : kz_Rt b s σ) : kz_Rt b s σ' := by unfold kz_Rt; rw [e, e1]; exact h
theorem z_RuF {b : Nat} {s : Nat → Int} {σ σ' : kp_W} (e : σ' b = σ b) (h : kz_Ru b s σ) : kz_Ru b s σ' := by unfold kz_Ru; rw [e]; exact h
theorem z_RgF {b : Nat} {cls : List kz_C} {σ σ' : kp_W} (e : σ' b = σ b) (h : kz_Rg b cls σ) : kz_Rg b cls σ' := by unfold kz_Rg; rw [e]; exact h
theorem z_RnF {b : Nat} {s : Nat → Int} {σ σ' : kp_W} (e : σ' b = σ b) (e1 : σ' (b + 1) = σ (b + 1)) (e2 : σ' (b + 2) = σ (b + 2)) (e3 : σ' (b + 3) = σ (b + 3)) (e4 : σ' (b + 4) = σ (b + 4)) (h : kz_Rn b s σ) : kz_Rn b s σ' := by unfold kz_Rn; rw [e, e1, e2, e3, e4]; exact h
theorem z_RbF {b : Nat} {s : Nat → Int} {σ σ' : kp_W} (e : σ' b = σ b) (e1 : σ' (b + 1) = σ (b + 1)) (e2 : σ' (b + 2) = σ (b + 2)) (e3 : σ' (b + 3) = σ (b + 3)) (h : kz_Rb b s σ) : kz_Rb b s σ' := by unfold kz_Rb; rw [e, e1, e2, e3]; exact h
/-- what a change may change of the class -/
def kz_Fh (b σ : kp_W) : Prop := (∀ a, (20 ≤ a ∨ a = 8) → (a < 49 ∨ 55 ≤ a) → a ≠ 43 → σ a = b a) ∧ ∀ j, j ≠ 6 → σ 0 j = b 0 j
theorem z_Fh0 {b : kp_W} : kz_Fh b b := ⟨fun _ _ _ _ => rfl, fun _ _ => rfl⟩
theorem z_FhK {b σ : kp_W} (f : kz_Fk b σ) : kz_Fh b σ := ⟨fun a h1 h2 h3 => f.1 a (by omega) (by omega) (by omega) (by omega) (by omega) (by omega) (by omega) h3, f.2⟩
theorem z_FhU {b σ : kp_W} {a i : Nat} {x : Int} (ha : 1 ≤ a ∧ a < 20 ∧ a ≠ 8 ∨ 49 ≤ a ∧ a < 55) (f : kz_Fh b σ) : kz_Fh b (kp_up σ a i x) := ⟨fun k h1 h2 h3 => by rw [kp_up_ne (by omega)]; exact f.1 k h1 h2 h3, fun j hj => by rw [kp_up_ne (by omega)]; exact f.2 j hj⟩
theorem z_Fh6 {b σ : kp_W} {x : Int} (f : kz_Fh b σ) : kz_Fh b (kp_up σ 0 6 x) := ⟨fun k h1 h2 h3 => by rw [kp_up_ne (by omega)]; exact f.1 k h1 h2 h3, fun j hj => by rw [z_up0 hj]; exact f.2 j hj⟩
section CM
variable {A : kz_A} {σ : kp_W}
theorem z_EF {σ' : kp_W} (h : kz_E A σ) (e : ∀ a, a ≤ 19 → a ≠ 8 → σ' a = σ a) (e2 : ∀ a, 49 ≤ a → a ≤ 53 → σ' a = σ a) : kz_E A σ' := by
  refine ⟨z_RhG (fun a h1 h2 h3 => e a (by omega) (by omega)) h.1, by rw [e 0 (by omega) (by omega)]; exact h.2.1, fun z => ?_⟩
  rw [e 0 (by omega) (by omega)] at z
  obtain ⟨a1, a2, a3⟩ := h.2.2 z
  refine ⟨?_, fun i i0 i1 => z_SrF (e2 _ (by omega) (by omega)) (e2 _ (by omega) (by omega)) (e2 _ (by omega) (by omega)) (a2 i i0 i1), fun i i0 i1 t t0 t1 => by rw [e2 52 (by omega) (by omega)]; exact a3 i i0 i1 t t0 t1⟩
  unfold kz_Wm; rw [e2 49 (by omega) (by omega)]; exact a1
theorem c_tolds (hH : kz_H A σ) {j : Int} (hj : kp_in j) : kf_X9_told j σ = some (if 0 ≤ j ∧ j < 5 then kz_tl A.1 j else -1, σ) := by
  unfold kf_X9_told
  refine k_is (k_ls hj (by decide) (fun c => k_some ⟨by rw [if_neg (by omega)], rfl⟩) (fun c => k_ls hj (by decide) (fun d => k_ck ⟨by omega, d⟩ (k_some ⟨?_, rfl⟩)) (fun d => k_some ⟨by rw [if_neg (by omega)], rfl⟩)))
  rw [if_pos ⟨by omega, d⟩]; exact hH.2.2.2.1 j (by omega) d
theorem c_ofA (hA : kz_I A) (hH : kz_H A σ) {n w : Int} (hn : kp_in n) (hw : kp_in w) : kf_X9_of n w σ = some (if (0 ≤ n ∧ n < A.1 0) ∧ 0 ≤ w ∧ w ≤ 4 then A.1 (Int.toNat (250 + 10 * w + n)) else -1, σ) := by
  have h10 := hA.1.1.1
  have hs := z_still hA hH
  unfold kf_X9_of
  refine k_is (k_e (c_has hA hH hn) (k_b (fun c => k_some ⟨by rw [if_neg (fun z => c z.1)], rfl⟩) (fun c => ?_)))
  obtain ⟨g1, g2, g3, g4, g5⟩ := (show kz_Rn 11 A.1 σ from hH.2.2.2.2.2.2.1).2.2 n c.1 c.2
  refine k_eq hw (by decide) (fun d => k_ck ⟨c.1, by omega⟩ (k_some ⟨?_, rfl⟩)) (fun d0 => k_eq hw (by decide) (fun d => k_ck ⟨c.1, by omega⟩ (k_some ⟨?_, rfl⟩)) (fun d1 => k_eq hw (by decide) (fun d => k_ck ⟨c.1, by omega⟩ (k_some ⟨?_, rfl⟩)) (fun d2 => k_eq hw (by decide) (fun d => k_ck ⟨c.1, by omega⟩ (k_some ⟨?_, rfl⟩)) (fun d3 => k_eq hw (by decide) (fun d => k_ck ⟨⟨by omega, by omega⟩, by omega, by omega⟩ (k_some ⟨?_, rfl⟩)) (fun d4 => k_some ⟨?_, rfl⟩)))))
  · rw [if_pos ⟨c, by omega⟩, d]; exact g2
  · rw [if_pos ⟨c, by omega⟩, d]; exact g3
  · rw [if_pos ⟨c, by omega⟩, d]; exact g4
  · rw [if_pos ⟨c, by omega⟩, d]; exact g5
  · rw [if_pos ⟨c, by omega⟩, d, kz_and1]; exact g1
  · rw [if_neg (by omega)]
theorem c_asA (hA : kz_I A) (hH : kz_H A σ) {n w : Int} (hn : kp_in n) (hw : kp_in w) : kf_X9_as n w σ = some (if ¬ (0 ≤ n ∧ n < A.1 0) then -1 else if ¬ (0 ≤ w ∧ w ≤ 6) then -1 else if kz_un (A.1 (Int.toNat (250 + n))) w then A.1 (Int.toNat (270 + n)) else -6, σ) := by
  have h10 := hA.1.1.1
  unfold kf_X9_as
  refine k_is (k_e (c_has hA hH hn) (k_b (fun c => k_some ⟨by rw [if_pos c], rfl⟩) (fun c => k_e (c_isKind hw) (k_b (fun d => k_some ⟨by rw [if_neg (fun z => z c), if_pos d], rfl⟩) (fun d => k_ck ⟨c.1, by omega⟩ ?_)))))
  rw [if_neg (fun z => z c), if_neg (fun z => z d)]
  have hk := hA.1.2.2.2.1 n c.1 c.2
  obtain ⟨g1, g2, g3, g4, g5⟩ := (show kz_Rn 11 A.1 σ from hH.2.2.2.2.2.2.1).2.2 n c.1 c.2
  rw [show σ 12 (Int.toNat n) = _ from g2]
  refine k_e (c_isUnder ⟨hk.1.1, hk.1.2⟩ d) (k_b (fun e => k_some ⟨by rw [if_neg e], rfl⟩) (fun e => k_ck ⟨c.1, by omega⟩ (k_some ⟨by rw [if_pos e]; exact g4, rfl⟩)))
theorem c_traceA {a : Int} (ha : kp_in a) (hr : 0 ≤ σ 8 1 ∧ σ 8 1 ≤ 1000) : kf_X9_trace a σ = some (if 0 ≤ a ∧ a < σ 8 1 ∧ a < 20 then σ 27 (Int.toNat a) else -1, σ) := by
  unfold kf_X9_trace
  refine k_is (k_ls ha (by decide) (fun c => k_some ⟨by rw [if_neg (by omega)], rfl⟩) (fun c => k_ls ha ⟨by omega, by omega⟩ (fun d => k_ls ha (by decide) (fun e => k_ck ⟨by omega, e⟩ (k_some ⟨by rw [if_pos ⟨by omega, d, e⟩], rfl⟩)) (fun e => k_some ⟨by rw [if_neg (by omega)], rfl⟩)) (fun d => k_some ⟨by rw [if_neg (by omega)], rfl⟩)))
theorem c_countA (hH : kz_H A σ) {w : Int} (hw : kp_in w) : kf_X9_count w σ = some (if w = 0 then A.1 0 else if w = 1 then A.1 1 else if w = 2 then A.1 2 else if w = 3 then A.1 3 else if w = 4 then σ 8 1 else -1, σ) := by
  have e1 : σ 11 5 = A.1 0 := hH.2.2.2.2.2.2.1.1
  have e2 : σ 1 5 = A.1 1 := hH.1
  have e3 : σ 16 3 = A.1 2 := hH.2.2.2.2.2.2.2.1
  have e4 : σ 3 1 = A.1 3 := hH.2.2.1.1
  unfold kf_X9_count
  rw [e1, e2, e3, e4]
  refine k_is (k_eq hw (by decide) (fun a => k_some ⟨by rw [if_pos a], rfl⟩) (fun a => k_eq hw (by decide) (fun b => k_some ⟨by rw [if_neg a, if_pos b], rfl⟩) (fun b => k_eq hw (by decide) (fun c => k_some ⟨by rw [if_neg a, if_neg b, if_pos c], rfl⟩) (fun c => k_eq hw (by decide) (fun d => k_some ⟨by rw [if_neg a, if_neg b, if_neg c, if_pos d], rfl⟩) (fun d => k_eq hw (by decide) (fun e => k_some ⟨by rw [if_neg a, if_neg b, if_neg c, if_neg d, if_pos e], rfl⟩) (fun e => k_some ⟨by rw [if_neg a, if_neg b, if_neg c, if_neg d, if_neg e], rfl⟩))))))
theorem c_act (hA : kz_I A) (hH : kz_H A σ) {n w x : Int} (hn : kp_in n) (hw : kp_in w) : kp_ok (kf_X9_act n w x σ) (fun r σ' => r = (kz_act A.1 n w x).1 ∧ (σ' 27, σ' 8 1) = kz_runs (σ 27) 0 (kz_act A.1 n w x).2 ∧ ∀ a, a ≠ 8 → a ≠ 27 → σ' a = σ a) := by
  have h10 := hA.1.1.1
  unfold kf_X9_act kz_act
  have H1 : kz_H A (kp_up σ 8 1 0) := z_RhG (fun a h1 h2 h3 => kp_up_ne (by omega)) hH
  have f0 : (kp_up σ 8 1 0 27, kp_up σ 8 1 0 8 1) = kz_runs (σ 27) 0 [] ∧ ∀ a, a ≠ 8 → a ≠ 27 → kp_up σ 8 1 0 a = σ a := ⟨by rw [kp_up_ne (by decide), z_up0e]; rfl, fun a a0 _ => kp_up_ne a0⟩
  refine k_lt (k_e (c_has hA H1 hn) (k_b (fun c => k_some ?_) (fun c => k_ls hw (by decide) (fun d => k_some ?_) (fun d => k_ls hw (by decide) (fun e => k_bd ?_) (fun e => k_some ?_)))))
  · rw [if_pos c]; exact ⟨rfl, f0⟩
  · rw [if_neg (fun z => z c), if_pos (by omega)]; exact ⟨rfl, f0⟩
  · rw [if_neg (fun z => z c), if_neg (by omega)]
    have hk := hA.1.2.2.2.1 n c.1 c.2
    obtain ⟨g1, g2, g3, g4, g5⟩ := (show kz_Rn 11 A.1 σ from hH.2.2.2.2.2.2.1).2.2 n c.1 c.2
    unfold kf_X0_start
    refine k_lt (k_ck ⟨c.1, by omega⟩ (k_lt (k_lt (k_ck ⟨c.1, by omega⟩ (k_lt ?_)))))
    simp only [kp_up_ne (show (12 : Nat) ≠ 8 by decide), kp_up_ne (show (14 : Nat) ≠ 8 by decide)]
    rw [show σ 12 (Int.toNat n) = _ from g2, show σ 14 (Int.toNat n) = _ from g4]
    generalize hb : kp_up (kp_up (kp_up (kp_up (kp_up σ 8 1 0) 8 1 0) 8 2 (A.1 (Int.toNat (250 + n)))) 8 3 n) 8 4 (A.1 (Int.toNat (270 + n))) = b
    have hJ : kz_J (A.1 (Int.toNat (250 + n))) n (A.1 (Int.toNat (270 + n))) b := by
      subst hb
      refine ⟨?_, ?_, z_up0e⟩
      · rw [kp_up_eq, if_neg (by decide), kp_up_eq, if_neg (by decide), z_up0e]
      · rw [kp_up_eq, if_neg (by decide), z_up0e]
    have h1 : b 8 1 = 0 := by
      subst hb
      rw [kp_up_eq, if_neg (by decide), kp_up_eq, if_neg (by decide), kp_up_eq, if_neg (by decide), z_up0e]
    have h56 : ∀ a, a ≠ 8 → b a = σ a := by
      intro a ha
      subst hb
      rw [kp_up_ne ha, kp_up_ne ha, kp_up_ne ha, kp_up_ne ha, kp_up_ne ha]
    have fr : ∀ (σ' : kp_W) (cs : List Int), kz_Gc b cs σ' → (σ' 27, σ' 8 1) = kz_runs (σ 27) 0 cs ∧ ∀ a, a ≠ 8 → a ≠ 27 → σ' a = σ a := by
      intro σ' cs f
      refine ⟨?_, fun a a0 a1 => (f.2.1 a a0 a1).trans (h56 a a0)⟩
      rw [f.1, h1, h56 27 (by decide)]
    rw [hJ.1]
    have hw' : w = 0 ∨ w = 1 ∨ w = 2 := by omega
    rcases hw' with rfl | rfl | rfl
    · rw [if_pos rfl]
      exact c_aG (m := 28) (v := A.1 (Int.toNat (270 + n))) (by decide) ⟨hk.1.1, hk.1.2⟩ (by rw [h1]; decide) hJ (fun σ' f => k_some (k_some ⟨rfl, fr _ _ f⟩))
    · rw [if_neg (by decide), if_pos rfl]
      exact c_aS (m := 26) (by decide) ⟨hk.1.1, hk.1.2⟩ (by rw [h1]; decide) hJ (fun σ' f => k_some (k_some ⟨rfl, fr _ _ f⟩))
    · rw [if_neg (by decide), if_neg (by decide)]
      exact c_aT (m := 24) (by decide) ⟨hk.1.1, hk.1.2⟩ (by rw [h1]; decide) hJ (fun σ' f => k_some (k_some ⟨rfl, fr _ _ f⟩))
  · rw [if_neg (fun z => z c), if_pos (by omega)]; exact ⟨rfl, f0⟩
end CM
