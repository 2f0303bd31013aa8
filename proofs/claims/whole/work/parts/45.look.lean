-- the reference: what a house's clauses say of a noise in a minute
def kz_i (b : Bool) : Int := if b = true then 1 else 0
def kz_stk (row : Nat → Int) : List Bool → Prop
  | [] => True
  | b :: r => row r.length = kz_i b ∧ kz_stk row r
theorem z_stk {row row' : Nat → Int} : ∀ {st : List Bool}, kz_stk row st → (∀ j, j < st.length → row' j = row j) → kz_stk row' st
  | [], _, _ => trivial
  | b :: r, h, e => ⟨by rw [e _ (by simp)]; exact h.1, z_stk h.2 (fun j hj => e j (by simp; omega))⟩
theorem z_push {σ : kp_W} {st : List Bool} {x y : Int} {b : Bool} (h : kz_stk (σ 4) st) (hx : x = (st.length : Int)) (hy : y = kz_i b) : kz_stk (kp_up σ 4 (Int.toNat x) y 4) (b :: st) := by
  have e : Int.toNat x = st.length := by omega
  refine ⟨?_, z_stk h (fun j hj => ?_)⟩
  · rw [kp_up_eq, if_pos e.symm, hy]
  · rw [kp_up_eq, if_neg (by omega)]
theorem z_i01 {b : Bool} : kz_i b = 0 ∨ kz_i b = 1 := by cases b <;> simp [kz_i]
theorem z_sbin {s : Nat → Int} (h : kz_Is s) {n t : Int} (hn : 0 ≤ n ∧ n < s 0) (ht : 0 ≤ t ∧ t < 40) (j : Int) : 0 ≤ kz_sb s n t j ∧ kz_sb s n t j ≤ 40 := by
  have h1 := h.2.2.2.1 n hn.1 hn.2
  have h0 := h.1.1
  unfold kz_sb
  repeat' split
  all_goals omega
section LOOK
variable {s r0 : Nat → Int} {nn t x3 x4 : Int} {Q : Int → kp_W → Prop} {k : kp_W → kp_R}
theorem r_lookTok (hI : kz_Is s) (hn : 0 ≤ nn ∧ nn < s 0) (ht : 0 ≤ t ∧ t < 40) (hx4 : 0 ≤ x4) (hx43 : x4 + x3 ≤ 1066) {n : Nat} {x5 x6 c : Int} {σ : kp_W} {st : List Bool} {m : Nat} (hc : kz_tkR c) (es : σ 1 (Int.toNat x6) = c) (h6 : 0 ≤ x6) (h6b : x6 < x4 + x3) (hst : kz_stk (σ 4) st) (h5 : x5 = (st.length : Int)) (hs : st.length ≤ 16) (hg : kz_hg [c] st.length = some m) (hby : ∀ j, 0 ≤ j → j < 5 → σ 3 (Int.toNat j) = kz_sb s nn t j)
    (hk : ∀ σ' : kp_W, (∀ a, a ≠ 4 → σ' a = σ a) → kz_stk (σ' 4) (kz_run (kz_vR (kz_f s nn t)) [c] st) → (kz_run (kz_vR (kz_f s nn t)) [c] st).length = m → kp_ok (kl_X10_looksAt_109 x3 x4 n (m : Int) (x6 + 1) σ' k) Q) : kp_ok (kl_X10_looksAt_109 x3 x4 (n + 1) x5 x6 σ k) Q := by
  have hcr : -3 ≤ c ∧ c ≤ 4000 := by unfold kz_tkR at hc; omega
  have fr : ∀ (y z : Int) (a : Nat), a ≠ 4 → kp_up σ 4 (Int.toNat y) z a = σ a := fun y z a ha => kp_up_ne ha
  rw [kl_X10_looksAt_109]
  refine k_ls ⟨by omega, by omega⟩ ⟨by omega, by omega⟩ (fun _ => ?_) (fun q => absurd h6b q)
  refine k_ck (by omega) (k_lt ?_)
  rw [es]
  unfold kz_hg at hg
  by_cases hc0 : 0 ≤ c
  · rw [if_pos hc0] at hg
    by_cases hl : st.length < 16
    · rw [if_pos hl] at hg
      have hm : st.length + 1 = m := Option.some.inj hg
      have hrun : kz_run (kz_vR (kz_f s nn t)) [c] st = kz_vR (kz_f s nn t) c :: st := by
        simp only [kz_run, if_pos hc0]
      rw [hrun] at hk
      have ht2 : 0 ≤ c ∧ c % 8 < 5 ∧ c / 8 % 4 < 3 ∧ c / 32 ≤ 99 := by unfold kz_tkR at hc; omega
      have hsb := z_sbin hI hn ht (c % 8)
      have step : ∀ (y : Int), y = kz_i (kz_vR (kz_f s nn t) c) → kp_ok (kp_ck (0 ≤ x5 ∧ x5 < 64) (kp_lt (kp_up σ 4 (Int.toNat x5) y) (fun σ' => kp_lt (x5 + 1) (fun x5' => kp_lt (x6 + 1) (fun x6' => kl_X10_looksAt_109 x3 x4 n x5' x6' σ' k))))) Q := by
        intro y hy
        refine k_ck (by omega) (k_lt (k_lt (k_lt ?_)))
        rw [show x5 + 1 = (m : Int) by omega]
        exact hk _ (fr x5 y) (z_push hst h5 hy) (by simp; omega)
      refine k_ls ⟨by omega, by omega⟩ (by decide) (fun q => absurd q (by omega)) (fun _ => ?_)
      refine k_ck ⟨by omega, by omega, by omega, by omega⟩ (k_ck (by omega) (k_lt ?_))
      rw [hby (c % 8) (by omega) (by omega)]
      refine k_ck ⟨by omega, by omega, by omega, by omega⟩ (k_ck ⟨by omega, by omega, by omega, by omega⟩ (k_lt (k_ck ⟨by omega, by omega, by omega, by omega⟩ (k_lt ?_))))
      have hv : ∀ p : Bool, kz_f s nn t (c % 8) (c / 8 % 4) (c / 32) = p → kz_i (kz_vR (kz_f s nn t) c) = kz_i p := fun p hp => by unfold kz_vR; rw [hp]
      refine k_eq ⟨by omega, by omega⟩ (by decide) (fun h0 => ?_) (fun h0 => k_eq ⟨by omega, by omega⟩ (by decide) (fun h1 => ?_) (fun h1 => ?_))
      · refine k_ls ⟨by omega, by omega⟩ ⟨by omega, by omega⟩ (fun q => step 1 ?_) (fun q => step 0 ?_)
        · rw [hv true (by unfold kz_f; rw [if_pos h0]; exact decide_eq_true q)]; rfl
        · rw [hv false (by unfold kz_f; rw [if_pos h0]; exact decide_eq_false q)]; rfl
      · refine k_eq ⟨by omega, by omega⟩ ⟨by omega, by omega⟩ (fun q => step 1 ?_) (fun q => step 0 ?_)
        · rw [hv true (by unfold kz_f; rw [if_neg h0, if_pos h1]; exact decide_eq_true q)]; rfl
        · rw [hv false (by unfold kz_f; rw [if_neg h0, if_pos h1]; exact decide_eq_false q)]; rfl
      · refine k_ls ⟨by omega, by omega⟩ ⟨by omega, by omega⟩ (fun q => step 1 ?_) (fun q => step 0 ?_)
        · rw [hv true (by unfold kz_f; rw [if_neg h0, if_neg h1]; exact decide_eq_true q)]; rfl
        · rw [hv false (by unfold kz_f; rw [if_neg h0, if_neg h1]; exact decide_eq_false q)]; rfl
    · rw [if_neg hl] at hg; cases hg
  · rw [if_neg hc0] at hg
    refine k_ls ⟨by omega, by omega⟩ (by decide) (fun _ => ?_) (fun q => absurd q (by omega))
    by_cases h1 : c = -1
    · rw [if_pos h1] at hg
      cases st with
      | nil => simp at hg
      | cons b r =>
        rw [if_pos (by simp)] at hg
        have hm : (b :: r).length = m := Option.some.inj hg
        have hrun : kz_run (kz_vR (kz_f s nn t)) [c] (b :: r) = (!b) :: r := by
          rw [kz_run, kz_run, if_neg hc0, if_pos h1]
        rw [hrun] at hk
        have h5' : x5 - 1 = (r.length : Int) := by rw [h5]; simp
        have e5 : Int.toNat (x5 - 1) = r.length := by omega
        refine k_eq ⟨by omega, by omega⟩ (by decide) (fun _ => ?_) (fun q => absurd h1 q)
        have step : ∀ (y : Int), y = kz_i (!b) → kp_ok (kp_ck (0 ≤ (x5 - 1) ∧ (x5 - 1) < 64) (kp_lt (kp_up σ 4 (Int.toNat (x5 - 1)) y) (fun σ' => kp_lt (x6 + 1) (fun x6' => kl_X10_looksAt_109 x3 x4 n x5 x6' σ' k)))) Q := by
          intro y hy
          refine k_ck (by omega) (k_lt (k_lt ?_))
          rw [show x5 = (m : Int) by omega]
          refine hk _ (fr _ y) (z_push hst.2 ?_ hy) (by simp at hm ⊢; omega)
          rw [← h5']; omega
        refine k_ck (by omega) ?_
        rw [e5, hst.1]
        rw [e5] at step
        cases b with
        | true => exact k_eq (by decide) (by decide) (fun q => absurd q (by decide)) (fun _ => step 0 rfl)
        | false => exact k_eq (by decide) (by decide) (fun _ => step 1 rfl) (fun q => absurd rfl q)
    · rw [if_neg h1] at hg
      match st, hst, h5, hs, hg, hk with
      | [], _, _, _, hg, _ => simp at hg
      | [b], _, _, _, hg, _ => simp at hg
      | b :: a :: r, hst, h5, hs, hg, hk =>
        rw [if_pos (by simp)] at hg
        have hm : (b :: a :: r).length - 1 = m := Option.some.inj hg
        have hrun : kz_run (kz_vR (kz_f s nn t)) [c] (b :: a :: r) = (if c = -2 then a && b else a || b) :: r := by
          rw [kz_run, kz_run, if_neg hc0, if_neg h1]
        rw [hrun] at hk
        simp only [List.length_cons] at h5 hs hm
        refine k_eq ⟨by omega, by omega⟩ (by decide) (fun q => absurd q h1) (fun _ => ?_)
        refine k_ls (by decide) ⟨by omega, by omega⟩ (fun _ => ?_) (fun q => absurd (show (-10 : Int) < c by omega) q)
        refine k_ltv (fun x5' h5' => ?_)
        have e5 : Int.toNat (x5' - 1) = r.length := by omega
        have e6 : Int.toNat x5' = (a :: r).length := by simp only [List.length_cons]; omega
        have step : ∀ (y : Int), y = kz_i (if c = -2 then a && b else a || b) → kp_ok (kp_ck (0 ≤ (x5' - 1) ∧ (x5' - 1) < 64) (kp_lt (kp_up σ 4 (Int.toNat (x5' - 1)) y) (fun σ' => kp_lt (x6 + 1) (fun x6' => kl_X10_looksAt_109 x3 x4 n x5' x6' σ' k)))) Q := by
          intro y hy
          refine k_ck (by omega) (k_lt (k_lt ?_))
          rw [show x5' = (m : Int) by omega]
          refine hk _ (fr _ y) (z_push hst.2.2 (by omega) hy) (by simp only [List.length_cons]; omega)
        refine k_eq ⟨by omega, by omega⟩ (by decide) (fun q => ?_) (fun q => ?_)
        · rw [if_pos q] at step
          refine k_ck (by omega) (k_jn ?_)
          rw [e5, hst.2.1]
          rw [e5] at step
          cases a with
          | false => exact k_eq (by decide) (by decide) (fun _ => step 0 rfl) (fun q => absurd rfl q)
          | true =>
            refine k_eq (by decide) (by decide) (fun q => absurd q (by decide)) (fun _ => k_ck (by omega) ?_)
            rw [e6, hst.1]
            cases b with
            | false => exact k_eq (by decide) (by decide) (fun _ => step 0 rfl) (fun q => absurd rfl q)
            | true => exact k_eq (by decide) (by decide) (fun q => absurd q (by decide)) (fun _ => step 1 rfl)
        · rw [if_neg q] at step
          refine k_ck (by omega) (k_jn ?_)
          rw [e5, hst.2.1]
          rw [e5] at step
          cases a with
          | true => exact k_eq (by decide) (by decide) (fun q => absurd q (by decide)) (fun _ => step 1 rfl)
          | false =>
            refine k_eq (by decide) (by decide) (fun _ => k_ck (by omega) ?_) (fun q => absurd rfl q)
            rw [e6, hst.1]
            cases b with
            | false => exact k_eq (by decide) (by decide) (fun _ => step 0 rfl) (fun q => absurd rfl q)
            | true => exact k_eq (by decide) (by decide) (fun q => absurd q (by decide)) (fun _ => step 1 rfl)
theorem z_hg1 (c : Int) (cs : List Int) (h : Nat) : kz_hg (c :: cs) h = (kz_hg [c] h).bind (kz_hg cs) := by
  unfold kz_hg
  by_cases h0 : 0 ≤ c
  · rw [if_pos h0, if_pos h0]
    by_cases h1 : h < 16
    · rw [if_pos h1, if_pos h1]; rfl
    · rw [if_neg h1, if_neg h1]; rfl
  · rw [if_neg h0, if_neg h0]
    by_cases h2 : c = -1
    · rw [if_pos h2, if_pos h2]
      by_cases h1 : 1 ≤ h
      · rw [if_pos h1, if_pos h1]; rfl
      · rw [if_neg h1, if_neg h1]; rfl
    · rw [if_neg h2, if_neg h2]
      by_cases h1 : 2 ≤ h
      · rw [if_pos h1, if_pos h1]; rfl
      · rw [if_neg h1, if_neg h1]; rfl
theorem z_hg16 {c : Int} {h m : Nat} (e : kz_hg [c] h = some m) (hh : h ≤ 16) : m ≤ 16 := by
  unfold kz_hg at e
  by_cases h0 : 0 ≤ c
  · rw [if_pos h0] at e
    by_cases h1 : h < 16
    · rw [if_pos h1] at e
      have := Option.some.inj e
      omega
    · rw [if_neg h1] at e; cases e
  · rw [if_neg h0] at e
    by_cases h2 : c = -1
    · rw [if_pos h2] at e
      by_cases h1 : 1 ≤ h
      · rw [if_pos h1] at e
        have := Option.some.inj e
        omega
      · rw [if_neg h1] at e; cases e
    · rw [if_neg h2] at e
      by_cases h1 : 2 ≤ h
      · rw [if_pos h1] at e
        have := Option.some.inj e
        omega
      · rw [if_neg h1] at e; cases e
theorem z_run1 (v : Int → Bool) (c : Int) (cs : List Int) (st : List Bool) : kz_run v (c :: cs) st = kz_run v cs (kz_run v [c] st) := by
  simp only [kz_run]
theorem r_lookToks (hI : kz_Is s) (hn : 0 ≤ nn ∧ nn < s 0) (ht : 0 ≤ t ∧ t < 40) (hx4 : 0 ≤ x4) (hx43 : x4 + x3 ≤ 1066) : ∀ (ts : List Int) {n : Nat} {x5 x6 : Int} {σ : kp_W} {st : List Bool} {m : Nat}, (∀ c ∈ ts, kz_tkR c) → kz_arr (σ 1) x6 ts → 0 ≤ x6 → x6 + (ts.length : Int) ≤ x4 + x3 → kz_stk (σ 4) st → x5 = (st.length : Int) → st.length ≤ 16 → kz_hg ts st.length = some m → (∀ j, 0 ≤ j → j < 5 → σ 3 (Int.toNat j) = kz_sb s nn t j) →
    (∀ σ' : kp_W, (∀ a, a ≠ 4 → σ' a = σ a) → kz_stk (σ' 4) (kz_run (kz_vR (kz_f s nn t)) ts st) → (kz_run (kz_vR (kz_f s nn t)) ts st).length = m → kp_ok (kl_X10_looksAt_109 x3 x4 n (m : Int) (x6 + (ts.length : Int)) σ' k) Q) → kp_ok (kl_X10_looksAt_109 x3 x4 (n + ts.length) x5 x6 σ k) Q := by
  intro ts
  induction ts with
  | nil =>
    intro n x5 x6 σ st m _ _ _ _ hst h5 _ hg _ hk
    have hm : st.length = m := Option.some.inj hg
    have := hk σ (fun _ _ => rfl) hst hm
    simp only [List.length_nil, Int.natCast_zero, Int.add_zero] at this
    rw [h5, hm]
    exact this
  | cons c cs ih =>
    intro n x5 x6 σ st m hc ha h6 h6b hst h5 hs hg hby hk
    rw [z_hg1] at hg
    cases hg1 : kz_hg [c] st.length with
    | none => rw [hg1] at hg; cases hg
    | some m1 =>
      rw [hg1] at hg
      have hg : kz_hg cs m1 = some m := hg
      have hlen : ((c :: cs).length : Int) = (cs.length : Int) + 1 := by simp
      rw [hlen] at h6b
      rw [show n + (c :: cs).length = (n + cs.length) + 1 by simp; omega]
      refine r_lookTok hI hn ht hx4 hx43 (hc c (by simp)) ha.1 h6 (by omega) hst h5 hs hg1 hby (fun σ' fr hst' hl' => ?_)
      have hm1 := z_hg16 hg1 hs
      refine ih (st := kz_run (kz_vR (kz_f s nn t)) [c] st) (m := m) (fun c' hc' => hc c' (by simp [hc'])) ?_ (by omega) (by omega) hst' (by rw [hl']) (by omega) (by rw [hl']; exact hg) ?_ ?_
      · rw [fr 1 (by decide)]; exact ha.2
      · rw [fr 3 (by decide)]; exact hby
      · intro σ2 fr2 hst2 hl2
        rw [z_run1] at hk
        have := hk σ2 (fun a ha => (fr2 a ha).trans (fr a ha)) hst2 hl2
        rw [hlen, show x6 + ((cs.length : Int) + 1) = x6 + 1 + (cs.length : Int) by omega] at this
        exact this
theorem z_up0 {σ : kp_W} {i j : Nat} {x : Int} (h : j ≠ i) : kp_up σ 0 i x 0 j = σ 0 j := by rw [kp_up_eq, if_neg h]
theorem z_up0e {σ : kp_W} {k i : Nat} {x : Int} : kp_up σ k i x k i = x := by rw [kp_up_eq, if_pos rfl]
theorem r_lookEnd (hx4 : 0 ≤ x4) (hx43 : x4 + x3 ≤ 1066) {n : Nat} {x5 x6 a : Int} {g b an : Bool} {σ : kp_W} (ha : 0 ≤ a ∧ a ≤ 99) (es : σ 1 (Int.toNat x6) = if g = true then -10 - a else -200 - a) (h6 : 0 ≤ x6) (h6b : x6 < x4 + x3) (hst : kz_stk (σ 4) [b]) (h13 : σ 0 13 = kz_i an)
    (hk : ∀ σ' : kp_W, (∀ a, a ≠ 0 → σ' a = σ a) → (∀ j, j ≠ 11 → j ≠ 12 → j ≠ 13 → σ' 0 j = σ 0 j) → σ' 0 11 = σ 0 11 + (if g = true ∧ b = true then a else 0) → σ' 0 12 = σ 0 12 + (if g = false ∧ b = true then a else 0) → σ' 0 13 = kz_i (an || b) → kp_ok (kl_X10_looksAt_109 x3 x4 n 0 (x6 + 1) σ' k) Q) : kp_ok (kl_X10_looksAt_109 x3 x4 (n + 1) x5 x6 σ k) Q := by
  rw [kl_X10_looksAt_109]
  have h40 : σ 4 0 = kz_i b := hst.1
  refine k_ls ⟨by omega, by omega⟩ ⟨by omega, by omega⟩ (fun _ => ?_) (fun q => absurd h6b q)
  refine k_ck (by omega) (k_lt ?_)
  generalize he : σ 1 (Int.toNat x6) = e at es
  have er : -300 ≤ e ∧ e ≤ -10 := by rw [es]; split <;> omega
  have eg : g = true → e = -10 - a := fun q => by rw [es, if_pos q]
  have en : g = false → e = -200 - a := fun q => by rw [es, if_neg (by rw [q]; decide)]
  refine k_ls ⟨by omega, by omega⟩ (by decide) (fun _ => ?_) (fun q => absurd q (by omega))
  refine k_eq ⟨by omega, by omega⟩ (by decide) (fun q => absurd q (by omega)) (fun _ => ?_)
  refine k_ls (by decide) ⟨by omega, by omega⟩ (fun q => absurd q (by omega)) (fun _ => ?_)
  refine k_lt (k_jv (kz_i (an || b)) ?_ (fun j hj => ?_))
  · refine k_ck z_i01 (k_lt ?_)
    refine k_jv (if g = true ∧ b = true then a else 0) ?_ (fun j hj => ?_)
    · refine k_lt ?_
      have e4 : kp_up (kp_up σ 0 13 (kz_i (an || b))) 0 11 (kp_up σ 0 13 (kz_i (an || b)) 0 11 + if g = true ∧ b = true then a else 0) 4 0 = kz_i b := by
        rw [kp_up_ne (by decide), kp_up_ne (by decide)]; exact h40
      rw [e4]
      have fin : ∀ y : Int, y = (if g = false ∧ b = true then a else 0) → kp_ok (kp_lt (kp_up (kp_up (kp_up σ 0 13 (kz_i (an || b))) 0 11 (kp_up σ 0 13 (kz_i (an || b)) 0 11 + if g = true ∧ b = true then a else 0)) 0 12 (kp_up (kp_up σ 0 13 (kz_i (an || b))) 0 11 (kp_up σ 0 13 (kz_i (an || b)) 0 11 + if g = true ∧ b = true then a else 0) 0 12 + y)) (fun σ' => kp_lt (x6 + 1) (fun x6' => kl_X10_looksAt_109 x3 x4 n 0 x6' σ' k))) Q := by
        intro y hy
        refine k_lt (k_lt (hk _ ?_ ?_ ?_ ?_ ?_))
        · intro z hz
          rw [kp_up_ne hz, kp_up_ne hz, kp_up_ne hz]
        · intro j h1 h2 h3
          rw [z_up0 h2, z_up0 h1, z_up0 h3]
        · rw [z_up0 (by decide), z_up0e, z_up0 (by decide)]
        · rw [z_up0e, z_up0 (by decide), z_up0 (by decide), hy]
        · rw [z_up0 (by decide), z_up0 (by decide), z_up0e]
      cases b with
      | false => exact k_eq (by decide) (by decide) (fun _ => fin 0 (by simp)) (fun q => absurd rfl q)
      | true =>
        refine k_eq (by decide) (by decide) (fun q => absurd q (by decide)) (fun _ => ?_)
        cases hg : g with
        | true =>
          have := eg hg
          rw [hg] at fin
          exact k_ls (by decide) ⟨by omega, by omega⟩ (fun _ => fin 0 (by simp)) (fun q => absurd (show (-200 : Int) < e by omega) q)
        | false =>
          have := en hg
          rw [hg] at fin
          exact k_ls (by decide) ⟨by omega, by omega⟩ (fun q => absurd q (by omega)) (fun _ => fin _ (by simp; omega))
    · refine k_jn ?_
      have e4 : kp_up σ 0 13 (kz_i (an || b)) 4 0 = kz_i b := by rw [kp_up_ne (by decide)]; exact h40
      rw [e4]
      cases b with
      | false =>
        rw [if_neg (by simp)] at hj
        exact k_eq (by decide) (by decide) (fun _ => hj) (fun q => absurd rfl q)
      | true =>
        refine k_eq (by decide) (by decide) (fun q => absurd q (by decide)) (fun _ => ?_)
        cases hg : g with
        | true =>
          have := eg hg
          rw [if_pos ⟨hg, rfl⟩] at hj
          refine k_ls (by decide) ⟨by omega, by omega⟩ (fun _ => ?_) (fun q => absurd (show (-200 : Int) < e by omega) q)
          rw [show -10 - e = a by omega]
          exact hj
        | false =>
          have := en hg
          rw [if_neg (by rw [hg]; simp)] at hj
          exact k_ls (by decide) ⟨by omega, by omega⟩ (fun q => absurd q (by omega)) (fun _ => hj)
  · refine k_jn ?_
    rw [h13, h40]
    cases an with
    | true => exact k_eq (by decide) (by decide) (fun q => absurd q (by decide)) (fun _ => hj)
    | false =>
      refine k_eq (by decide) (by decide) (fun _ => ?_) (fun q => absurd rfl q)
      cases b with
      | true => exact k_eq (by decide) (by decide) (fun q => absurd q (by decide)) (fun _ => hj)
      | false => exact k_eq (by decide) (by decide) (fun _ => hj) (fun q => absurd rfl q)
end LOOK
