-- the class: what the clauses say, forty minutes at once
theorem z_M (i : Nat) : kz_t 1099511627775 i = decide (i < 40) := kz_mask 40 i
def kz_in40 (x : Int) : Prop := 0 ≤ x ∧ x < 1099511627776
theorem z_40e {x y : Int} (hx : kz_in40 x) (hy : kz_in40 y) (h : ∀ i, i < 40 → kz_t x i = kz_t y i) : x = y := kz_ext (k := 40) hx hy h
theorem z_40M : kz_in40 1099511627775 := ⟨by decide, by decide⟩
theorem z_400 : kz_in40 0 := ⟨by decide, by decide⟩
theorem z_40L {x : Int} (h : kz_in40 x) : kp_inL x := ⟨by have := h.1; omega, by have := h.2; omega⟩
theorem z_40b {x : Int} {i : Nat} (h : kz_in40 x) (hi : 40 ≤ i) : kz_t x i = false := kz_big (k := 40) h hi
theorem z_40and {x y : Int} (h : kz_in40 x ∨ kz_in40 y) : kz_in40 (kp_andL x y) := kz_small64 (k := 40) (by decide) (kz_andL_in _ _) (fun i h1 h2 => by
  rw [kz_andL h2]
  rcases h with h | h
  · rw [z_40b h h1, Bool.false_and]
  · rw [z_40b h h1, Bool.and_false])
theorem z_40or {x y : Int} (h : kz_in40 x) (h' : kz_in40 y) : kz_in40 (kp_orL x y) := kz_small64 (k := 40) (by decide) (kz_orL_in _ _) (fun i h1 h2 => by rw [kz_orL h2, z_40b h h1, z_40b h' h1]; rfl)
theorem z_40xor {x y : Int} (h : kz_in40 x) (h' : kz_in40 y) : kz_in40 (kp_xorL x y) := kz_small64 (k := 40) (by decide) (kz_xorL_in _ _) (fun i h1 h2 => by rw [kz_xorL h2, z_40b h h1, z_40b h' h1]; rfl)
theorem z_40pw {v : Int} (h0 : 0 ≤ v) (h : v < 40) : (0 : Int) < 2 ^ (Int.toNat v) ∧ (2 : Int) ^ (Int.toNat v) < 1099511627776 := ⟨Int.pow_pos (by decide), (kz_pwle (n := Int.toNat v) (k := 40) (by omega)).2⟩
def kz_st1 (g : Int → Int) (c : Int) (st : List Int) : List Int := if 0 ≤ c then g c :: st else if c = -1 then (match st with
    | b :: r => kp_xorL b 1099511627775 :: r
    | [] => []) else match st with
    | b :: a :: r => (if c = -2 then kp_andL a b else kp_orL a b) :: r
    | _ => []
def kz_runM (g : Int → Int) : List Int → List Int → List Int
  | [], st => st
  | c :: cs, st => kz_runM g cs (kz_st1 g c st)
theorem z_st1in {g : Int → Int} {c : Int} {st : List Int} (hg : 0 ≤ c → kz_in40 (g c)) (h : ∀ x ∈ st, kz_in40 x) : ∀ x ∈ kz_st1 g c st, kz_in40 x := by
  unfold kz_st1
  by_cases h0 : 0 ≤ c
  · rw [if_pos h0]
    intro x hx
    rcases List.mem_cons.mp hx with rfl | hx
    · exact hg h0
    · exact h x hx
  · rw [if_neg h0]
    by_cases h1 : c = -1
    · rw [if_pos h1]
      cases st with
      | nil => intro x hx; cases hx
      | cons b r =>
        intro x hx
        rcases List.mem_cons.mp hx with rfl | hx
        · exact z_40xor (h b (by simp)) z_40M
        · exact h x (by simp [hx])
    · rw [if_neg h1]
      match st, h with
      | [], _ => intro x hx; cases hx
      | [b], _ => intro x hx; cases hx
      | b :: a :: r, h =>
        intro x hx
        rcases List.mem_cons.mp hx with rfl | hx
        · split
          · exact z_40and (Or.inl (h a (by simp)))
          · exact z_40or (h a (by simp)) (h b (by simp))
        · exact h x (by simp [hx])
theorem z_runMb {g : Int → Int} {v : Int → Bool} {t : Nat} (ht : t < 40) : ∀ (cs st : List Int), (∀ c ∈ cs, 0 ≤ c → kz_t (g c) t = v c) → (kz_runM g cs st).map (fun x => kz_t x t) = kz_run v cs (st.map (fun x => kz_t x t))
  | [], st, _ => rfl
  | c :: cs, st, hg => by
    rw [kz_runM, z_runMb ht cs _ (fun c' hc => hg c' (by simp [hc]))]
    show kz_run v cs _ = kz_run v cs _
    congr 1
    unfold kz_st1
    by_cases h0 : 0 ≤ c
    · rw [if_pos h0, if_pos h0, List.map_cons, hg c (by simp) h0]
    · rw [if_neg h0, if_neg h0]
      by_cases h1 : c = -1
      · rw [if_pos h1, if_pos h1]
        cases st with
        | nil => rfl
        | cons b r =>
          rw [List.map_cons, List.map_cons, kz_xorL (by omega), z_M]
          simp [ht]
      · rw [if_neg h1, if_neg h1]
        match st with
        | [] => rfl
        | [b] => rfl
        | b :: a :: r =>
          rw [List.map_cons, List.map_cons, List.map_cons]
          dsimp only
          by_cases h2 : c = -2
          · rw [if_pos h2, if_pos h2, kz_andL (by omega)]
          · rw [if_neg h2, if_neg h2, kz_orL (by omega)]
def kz_stM (row : Nat → Int) : List Int → Prop
  | [] => True
  | b :: r => row r.length = b ∧ kz_stM row r
theorem z_stM {row row' : Nat → Int} : ∀ {st : List Int}, kz_stM row st → (∀ j, j < st.length → row' j = row j) → kz_stM row' st
  | [], _, _ => trivial
  | b :: r, h, e => ⟨by rw [e _ (by simp)]; exact h.1, z_stM h.2 (fun j hj => e j (by simp; omega))⟩
def kz_cv (c v : Int) : Bool := if c / 100 % 3 = 0 then decide (v < c % 100) else if c / 100 % 3 = 1 then decide (v = c % 100) else decide (c % 100 < v)
def kz_mn (c : Int) : Int := if c / 100 % 3 = 0 then (if c % 100 < 40 then 2 ^ (Int.toNat (c % 100)) - 1 else 1099511627775) else if c / 100 % 3 = 1 then (if c % 100 < 40 then 2 ^ (Int.toNat (c % 100)) else 0) else kp_andL (kp_andL 1099511627775 (kp_xorL (if c % 100 < 40 then 2 ^ (Int.toNat (c % 100)) - 1 else 1099511627775) (-1))) (kp_xorL (if c % 100 < 40 then 2 ^ (Int.toNat (c % 100)) else 0) (-1))
def kz_gM (s : Nat → Int) (n c : Int) : Int := if c / 300 < 4 then (if kz_cv c (kz_sb s n 0 (c / 300)) = true then 1099511627775 else 0) else kz_mn c
theorem z_mnin {c : Int} (hc : 0 ≤ c) : kz_in40 (kz_mn c) := by
  have h0 : 0 ≤ c % 100 := Int.emod_nonneg _ (by decide)
  unfold kz_mn
  by_cases h : c % 100 < 40
  · have hp := z_40pw h0 h
    rw [if_pos h, if_pos h]
    split
    · exact ⟨by omega, by omega⟩
    · split
      · exact ⟨by omega, by omega⟩
      · exact z_40and (Or.inl (z_40and (Or.inl z_40M)))
  · rw [if_neg h, if_neg h]
    split
    · exact z_40M
    · split
      · exact z_400
      · exact z_40and (Or.inl (z_40and (Or.inl z_40M)))
theorem z_gMin {s : Nat → Int} {n c : Int} (hc : 0 ≤ c) : kz_in40 (kz_gM s n c) := by
  unfold kz_gM
  split
  · split
    · exact z_40M
    · exact z_400
  · exact z_mnin hc
theorem z_mnb {c : Int} (hc : 0 ≤ c) {t : Nat} (ht : t < 40) : kz_t (kz_mn c) t = kz_cv c t := by
  have h0 : 0 ≤ c % 100 := Int.emod_nonneg _ (by decide)
  have hb : kz_t (if c % 100 < 40 then 2 ^ (Int.toNat (c % 100)) - 1 else 1099511627775) t = decide ((t : Int) < c % 100) := by
    split
    · rw [kz_mask]; congr 1; exact propext ⟨fun h => by omega, fun h => by omega⟩
    · rw [z_M]; rw [decide_eq_true ht, decide_eq_true (by omega)]
  have ha : kz_t (if c % 100 < 40 then 2 ^ (Int.toNat (c % 100)) else 0) t = decide ((t : Int) = c % 100) := by
    split
    · rw [kz_pw]; congr 1; exact propext ⟨fun h => by omega, fun h => by omega⟩
    · rw [kz_0, decide_eq_false (by omega)]
  unfold kz_mn kz_cv
  by_cases c0 : c / 100 % 3 = 0
  · rw [if_pos c0, if_pos c0]; exact hb
  · rw [if_neg c0, if_neg c0]
    by_cases c1 : c / 100 % 3 = 1
    · rw [if_pos c1, if_pos c1]; exact ha
    · rw [if_neg c1, if_neg c1, kz_andL (by omega), kz_andL (by omega), kz_xorL (by omega), kz_xorL (by omega), hb, ha, z_M, kz_m1]
      by_cases e1 : (t : Int) < c % 100
      · rw [decide_eq_true e1, decide_eq_false (show ¬ (c % 100 < (t : Int)) by omega)]; simp
      · by_cases e2 : (t : Int) = c % 100
        · rw [decide_eq_true e2, decide_eq_false (show ¬ (c % 100 < (t : Int)) by omega)]; simp
        · rw [decide_eq_false e1, decide_eq_false e2, decide_eq_true ht, decide_eq_true (show c % 100 < (t : Int) by omega)]; rfl
theorem z_vCv {s : Nat → Int} {n t c : Int} : kz_vC (kz_f s n t) c = kz_cv c (kz_sb s n t (c / 300)) := rfl
theorem z_gMb {s : Nat → Int} {n c : Int} (hc : 0 ≤ c ∧ c < 1500) {t : Nat} (ht : t < 40) : kz_t (kz_gM s n c) t = kz_vC (kz_f s n t) c := by
  rw [z_vCv]
  unfold kz_gM
  by_cases h : c / 300 < 4
  · rw [if_pos h]
    have e : kz_sb s n 0 (c / 300) = kz_sb s n t (c / 300) := by
      unfold kz_sb
      repeat' split
      all_goals first | rfl | omega
    rw [e]
    cases kz_cv c (kz_sb s n t (c / 300))
    · rw [if_neg (by decide), kz_0]
    · rw [if_pos rfl, z_M, decide_eq_true ht]
  · rw [if_neg h, z_mnb hc.1 ht]
    have e : kz_sb s n t (c / 300) = t := by
      unfold kz_sb
      repeat' split
      all_goals first | rfl | omega
    rw [e]
section READ
variable {s : Nat → Int} {σ : kp_W} {Q : Int → kp_W → Prop}
theorem c_number {c : Int} (hc : 0 ≤ c ∧ c < 1500) : kf_X8_number c σ = some (c % 100, σ) := by
  unfold kf_X8_number
  exact k_is (k_ck ⟨hc.1, by omega, by decide, by decide⟩ (k_some ⟨rfl, rfl⟩))
theorem c_sign {c : Int} (hc : 0 ≤ c ∧ c < 1500) : kf_X8_sign c σ = some (c / 100 % 3, σ) := by
  unfold kf_X8_sign
  exact k_is (k_ck ⟨hc.1, by omega, by decide, by decide⟩ (k_ck ⟨by omega, by omega, by decide, by decide⟩ (k_some ⟨rfl, rfl⟩)))
theorem c_holdsC {c v : Int} (hc : 0 ≤ c ∧ c < 1500) (hv : kp_in v) : kf_X8_holds c v σ = some (kp_b (kz_cv c v = true), σ) := by
  unfold kf_X8_holds
  refine k_is (k_e (c_sign hc) (k_eq ⟨by omega, by omega⟩ (by decide) (fun h => k_e (c_number hc) ?_) (fun h => k_eq ⟨by omega, by omega⟩ (by decide) (fun h2 => k_e (c_number hc) ?_) (fun h2 => k_e (c_number hc) ?_))))
  · refine k_ls hv ⟨by omega, by omega⟩ (fun d => k_some ⟨(kp_bT ?_).symm, rfl⟩) (fun d => k_some ⟨(kp_bF ?_).symm, rfl⟩)
    all_goals unfold kz_cv
    all_goals simp [h]
    all_goals omega
  · refine k_eq hv ⟨by omega, by omega⟩ (fun d => k_some ⟨(kp_bT ?_).symm, rfl⟩) (fun d => k_some ⟨(kp_bF ?_).symm, rfl⟩)
    all_goals unfold kz_cv
    all_goals simp [h2]
    all_goals omega
  · refine k_ls ⟨by omega, by omega⟩ hv (fun d => k_some ⟨(kp_bT ?_).symm, rfl⟩) (fun d => k_some ⟨(kp_bF ?_).symm, rfl⟩)
    all_goals unfold kz_cv
    all_goals simp [h, h2]
    all_goals omega
theorem c_minutes {c : Int} (hc : 0 ≤ c ∧ c < 1500) : kf_X8_minutes c σ = some (kz_mn c, σ) := by
  unfold kf_X8_minutes
  refine k_is (k_e (c_number hc) (k_lt (k_jv (if c % 100 < 40 then 2 ^ (Int.toNat (c % 100)) - 1 else 1099511627775) ?_ (fun j hj => ?_))))
  · refine k_lt (k_jv (if c % 100 < 40 then 2 ^ (Int.toNat (c % 100)) else 0) ?_ (fun j hj => ?_))
    · refine k_lt (k_e (c_sign hc) (k_eq ⟨by omega, by omega⟩ (by decide) (fun h => k_some ⟨?_, rfl⟩) (fun h => k_eq ⟨by omega, by omega⟩ (by decide) (fun h2 => k_some ⟨?_, rfl⟩) (fun h2 => k_some ⟨?_, rfl⟩))))
      · unfold kz_mn; rw [if_pos h]
      · unfold kz_mn; rw [if_neg h, if_pos h2]
      · unfold kz_mn; rw [if_neg h, if_neg h2]
    · refine k_ls ⟨by omega, by omega⟩ (by decide) (fun h => k_ck (by omega) ?_) (fun h => ?_)
      · rw [if_pos h] at hj; rw [Int.one_mul]; exact hj
      · rw [if_neg h] at hj; exact hj
  · refine k_ls ⟨by omega, by omega⟩ (by decide) (fun h => k_ck (by omega) ?_) (fun h => ?_)
    · rw [if_pos h] at hj; rw [Int.one_mul]; exact hj
    · rw [if_neg h] at hj; exact hj
theorem c_minutesOf {c n : Int} (hc : 0 ≤ c ∧ c < 1500) (hn : 0 ≤ n ∧ n < 10) (hs : (0 ≤ s (Int.toNat (250 + n)) ∧ s (Int.toNat (250 + n)) ≤ 6) ∧ (0 ≤ s (Int.toNat (260 + n)) ∧ s (Int.toNat (260 + n)) ≤ 9) ∧ (0 ≤ s (Int.toNat (270 + n)) ∧ s (Int.toNat (270 + n)) ≤ 9)) (e12 : σ 12 (Int.toNat n) = s (Int.toNat (250 + n))) (e13 : σ 13 (Int.toNat n) = s (Int.toNat (260 + n))) (e14 : σ 14 (Int.toNat n) = s (Int.toNat (270 + n))) : kf_X6_minutesOf c n σ = some (kz_gM s n c, σ) := by
  unfold kf_X6_minutesOf kf_X8_subject
  have fin : c / 300 < 4 → ∀ v : Int, 0 ≤ v ∧ v ≤ 40 → v = kz_sb s n 0 (c / 300) → kp_ok (kp_bd (kf_X8_holds c v σ) (fun r_1 σ_3 => kp_eq r_1 0 (some (0, σ_3)) (some (1099511627775, σ_3)))) (fun r' σ' => r' = kz_gM s n c ∧ σ' = σ) := by
    intro h4 v hv e
    refine k_e (c_holdsC hc ⟨by omega, by omega⟩) (k_b (fun z => k_some ⟨?_, rfl⟩) (fun z => k_some ⟨?_, rfl⟩))
    · unfold kz_gM; rw [if_pos h4, ← e, if_neg z]
    · unfold kz_gM; rw [if_pos h4, ← e, if_pos z]
  refine k_is (k_bd (k_ck ⟨hc.1, by omega, by decide, by decide⟩ (k_some (k_jn ?_))))
  refine k_eq ⟨by omega, by omega⟩ (by decide) (fun z => k_lt (fin (by omega) n (by omega) ?_)) (fun z0 => k_eq ⟨by omega, by omega⟩ (by decide) (fun z => k_ck hn (k_lt (fin (by omega) _ (by rw [e13]; omega) ?_))) (fun z1 => k_eq ⟨by omega, by omega⟩ (by decide) (fun z => k_ck hn (k_lt (fin (by omega) _ (by rw [e12]; omega) ?_))) (fun z2 => k_eq ⟨by omega, by omega⟩ (by decide) (fun z => k_ck hn (k_lt (fin (by omega) _ (by rw [e14]; omega) ?_))) (fun z3 => k_e (c_minutes hc) (k_some ⟨?_, rfl⟩)))))
  · unfold kz_sb; rw [if_pos z]
  · unfold kz_sb; rw [if_neg z0, if_pos z]; exact e13
  · unfold kz_sb; rw [if_neg z0, if_neg z1, if_pos z]; exact e12
  · unfold kz_sb; rw [if_neg z0, if_neg z1, if_neg z2, if_pos z]; exact e14
  · unfold kz_gM; rw [if_neg (by omega)]
theorem c_holdsL {n a3 : Int} (hn : 0 ≤ n ∧ n < 10) (h3 : a3 ≤ 120) (hs : (0 ≤ s (Int.toNat (250 + n)) ∧ s (Int.toNat (250 + n)) ≤ 6) ∧ (0 ≤ s (Int.toNat (260 + n)) ∧ s (Int.toNat (260 + n)) ≤ 9) ∧ (0 ≤ s (Int.toNat (270 + n)) ∧ s (Int.toNat (270 + n)) ≤ 9)) {k : Int → kp_W → kp_R} : ∀ (ts : List Int) {m : Nat} {x6 x7 : Int} {σ : kp_W} {ms : List Int} {h : Nat}, (∀ c ∈ ts, kz_tkC c) → kz_arr (σ 7) x7 ts → 0 ≤ x7 → x7 + (ts.length : Int) = a3 → kz_stM (σ 54) ms → x6 = (ms.length : Int) → ms.length ≤ 16 → kz_hg ts ms.length = some h → (∀ x ∈ ms, kz_in40 x) → σ 12 (Int.toNat n) = s (Int.toNat (250 + n)) → σ 13 (Int.toNat n) = s (Int.toNat (260 + n)) → σ 14 (Int.toNat n) = s (Int.toNat (270 + n)) → ts.length < m →
    (∀ σ' : kp_W, (∀ a, a ≠ 54 → σ' a = σ a) → kz_stM (σ' 54) (kz_runM (kz_gM s n) ts ms) → (kz_runM (kz_gM s n) ts ms).length = h → (∀ x ∈ kz_runM (kz_gM s n) ts ms, kz_in40 x) → kp_ok (k (h : Int) σ') Q) → kp_ok (kl_X6_holds_6 a3 n m x6 x7 σ k) Q := by
  intro ts
  induction ts with
  | nil =>
    intro m x6 x7 σ ms h hc ha h0 h1 hst h6 hl hg hin e12 e13 e14 hm hk
    cases m with
    | zero => exact absurd hm (by simp)
    | succ m =>
      have hh : ms.length = h := Option.some.inj hg
      rw [kl_X6_holds_6]
      simp only [List.length_nil, Int.natCast_zero, Int.add_zero] at h1
      refine k_ls ⟨by omega, by omega⟩ ⟨by omega, by omega⟩ (fun z => by omega) (fun _ => ?_)
      rw [h6, hh]
      exact hk σ (fun _ _ => rfl) hst hh hin
  | cons c cs ih =>
    intro m x6 x7 σ ms h hc ha h0 h1 hst h6 hl hg hin e12 e13 e14 hm hk
    cases m with
    | zero => exact absurd hm (by simp)
    | succ m =>
      have hlen : ((c :: cs).length : Int) = (cs.length : Int) + 1 := by simp
      have hlenN : (c :: cs).length = cs.length + 1 := by simp
      rw [hlen] at h1
      have htk := hc c (by simp)
      have hc' : ∀ c' ∈ cs, kz_tkC c' := fun c' h => hc c' (by simp [h])
      have hcr : -3 ≤ c ∧ c < 1500 := by unfold kz_tkC at htk; omega
      rw [kl_X6_holds_6]
      refine k_ls ⟨by omega, by omega⟩ ⟨by omega, by omega⟩ (fun _ => k_ls ⟨by omega, by omega⟩ (by decide) (fun _ => k_ck (by omega) (k_lt ?_)) (fun z => by omega)) (fun z => by omega)
      rw [ha.1]
      have step : ∀ (σ' : kp_W) (ms' : List Int) (x6' : Int), (∀ a, a ≠ 54 → σ' a = σ a) → kz_stM (σ' 54) ms' → x6' = (ms'.length : Int) → ms'.length ≤ 16 → kz_hg cs ms'.length = some h → ms' = kz_st1 (kz_gM s n) c ms → kp_ok (kl_X6_holds_6 a3 n m x6' (x7 + 1) σ' k) Q := by
        intro σ' ms' x6' fr hst' h6' hl' hg' e
        refine ih hc' (by rw [fr 7 (by decide)]; exact ha.2) (by omega) (by omega) hst' h6' hl' hg' ?_ (by rw [fr 12 (by decide)]; exact e12) (by rw [fr 13 (by decide)]; exact e13) (by rw [fr 14 (by decide)]; exact e14) (by omega) ?_
        · rw [e]; exact z_st1in (fun h => z_gMin h) hin
        · intro σ2 f2 hs2 hl2 hi2
          rw [e] at hs2 hl2 hi2
          exact hk σ2 (fun a ha => (f2 a ha).trans (fr a ha)) hs2 hl2 hi2
      rw [kz_hg] at hg
      refine k_ls ⟨by omega, by omega⟩ (by decide) (fun hneg => ?_) (fun hpos => ?_)
      · rw [if_neg (by omega)] at hg
        refine k_eq ⟨by omega, by omega⟩ (by decide) (fun e1 => ?_) (fun e1 => ?_)
        · rw [if_pos e1] at hg
          by_cases g1 : 1 ≤ ms.length
          · rw [if_pos g1] at hg
            refine k_ls ⟨by omega, by omega⟩ (by decide) (fun z => by omega) (fun _ => k_ck (by omega) (k_ck (by omega) (k_lt (k_lt ?_))))
            obtain ⟨b, r, rfl⟩ : ∃ b r, ms = b :: r := by cases ms with
              | nil => simp at g1
              | cons b r => exact ⟨b, r, rfl⟩
            have ex : Int.toNat (x6 - 1) = r.length := by simp only [List.length_cons] at h6; omega
            refine step _ (kp_xorL b 1099511627775 :: r) _ (fun a ha => by rw [kp_up_ne ha]) ?_ (by rw [h6]; simp) (by simpa using hl) (by simpa using hg) ?_
            · rw [ex]
              refine ⟨?_, z_stM hst.2 (fun j hj => ?_)⟩
              · rw [kp_up_eq, if_pos rfl, hst.1]
              · rw [kp_up_eq, if_neg (by omega)]
            · unfold kz_st1; rw [if_neg (by omega), if_pos e1]
          · rw [if_neg g1] at hg; cases hg
        · rw [if_neg e1] at hg
          by_cases g1 : 2 ≤ ms.length
          · rw [if_pos g1] at hg
            refine k_ls ⟨by omega, by omega⟩ (by decide) (fun z => by omega) (fun _ => k_lt ?_)
            obtain ⟨b, a, r, rfl⟩ : ∃ b a r, ms = b :: a :: r := by
              match ms, g1 with
              | [], g1 => simp at g1
              | [b], g1 => simp at g1
              | b :: a :: r, _ => exact ⟨b, a, r, rfl⟩
            have hl2 : ((b :: a :: r).length : Int) = (r.length : Int) + 2 := by simp only [List.length_cons]; omega
            have ex : Int.toNat (x6 + -1 - 1) = r.length := by omega
            have ey : Int.toNat (x6 + -1) = (a :: r).length := by simp only [List.length_cons]; omega
            have hst2 := hst.2
            have e54a : σ 54 r.length = a := hst.2.1
            have e54b : σ 54 (a :: r).length = b := hst.1
            have go : ∀ y : Int, y = (if c = -2 then kp_andL a b else kp_orL a b) → kp_ok (kl_X6_holds_6 a3 n m (x6 + -1) (x7 + 1) (kp_up σ 54 r.length y) k) Q := by
              intro y hy
              refine step _ (y :: r) _ (fun a ha => by rw [kp_up_ne ha]) ⟨?_, z_stM hst.2.2 (fun j hj => ?_)⟩ (by simp only [List.length_cons]; omega) (by simp only [List.length_cons] at hl ⊢; omega) ?_ ?_
              · rw [kp_up_eq, if_pos rfl]
              · rw [kp_up_eq, if_neg (by omega)]
              · simp only [List.length_cons] at hg ⊢; exact hg
              · unfold kz_st1; rw [if_neg (by omega), if_neg e1, hy]
            refine k_eq ⟨by omega, by omega⟩ (by decide) (fun e2 => k_ck (by omega) (k_ck (by omega) (k_ck (by omega) (k_lt (k_lt ?_))))) (fun e2 => k_ck (by omega) (k_ck (by omega) (k_ck (by omega) (k_lt (k_lt ?_)))))
            · rw [ex, ey, e54a, e54b]
              exact go _ (by rw [if_pos e2])
            · rw [ex, ey, e54a, e54b]
              exact go _ (by rw [if_neg e2])
          · rw [if_neg g1] at hg; cases hg
      · rw [if_pos (by omega)] at hg
        by_cases g1 : ms.length < 16
        · rw [if_pos g1] at hg
          refine k_ls ⟨by omega, by omega⟩ (by decide) (fun _ => k_e (c_minutesOf (s := s) ⟨by omega, hcr.2⟩ hn hs e12 e13 e14) (k_ck (by omega) (k_lt (k_lt (k_lt ?_))))) (fun z => by omega)
          have ex : Int.toNat x6 = ms.length := by omega
          rw [ex]
          refine step _ (kz_gM s n c :: ms) _ (fun a ha => by rw [kp_up_ne ha]) ⟨?_, z_stM hst (fun j hj => ?_)⟩ (by simp only [List.length_cons]; omega) (by simp only [List.length_cons]; omega) (by simpa using hg) ?_
          · rw [kp_up_eq, if_pos rfl]
          · rw [kp_up_eq, if_neg (by omega)]
          · unfold kz_st1; rw [if_pos (by omega)]
        · rw [if_neg g1] at hg; cases hg
end READ
