-- the class's questions, one by one
theorem z_EP {A : kz_A} {σ : kp_W} (hH : kz_H A σ) (h6 : σ 0 6 = 1) (hS : kz_Sn A 0 0 σ) : kz_E A σ := ⟨hH, Or.inr h6, fun _ => hS⟩
theorem z_mxP {f : Int → Int} {b : Int} : ∀ {k : Nat}, (∀ i : Int, 0 ≤ i → i < k → 0 ≤ f i) → ((∀ i : Int, 0 ≤ i → i < k → f i = 0) ∧ kz_mxN f b 0 k = (b, 0)) ∨ ((∃ i : Int, 0 ≤ i ∧ i < k ∧ 0 < f i) ∧ kz_mxN f b 0 k = kz_mxN f b (-1) k ∧ 0 < (kz_mxN f b 0 k).2)
  | 0, _ => Or.inl ⟨fun i h0 h1 => by omega, rfl⟩
  | k + 1, h => by
    have hk := h k (by omega) (by omega)
    rcases z_mxP (f := f) (b := b) (k := k) (fun i h0 h1 => h i h0 (by omega)) with ⟨h1, h2⟩ | ⟨h1, h2, h3⟩
    · by_cases c : 0 < f k
      · refine Or.inr ⟨⟨k, by omega, by omega, c⟩, ?_, ?_⟩
        · have h4 : ∀ m : Nat, m ≤ k → (kz_mxN f b (-1) m).2 < f k := by
            intro m
            induction m with
            | zero => intro _; show (-1 : Int) < f k; omega
            | succ m ih =>
              intro hm
              rw [kz_mxN]
              split
              · have := h1 m (by omega) (by omega); dsimp only; omega
              · exact ih (by omega)
          rw [kz_mxN, kz_mxN, h2, if_pos c, if_pos (h4 k (by omega))]
        · rw [kz_mxN, h2, if_pos c]; exact c
      · refine Or.inl ⟨fun i h0 h5 => ?_, ?_⟩
        · by_cases e : i = k
          · subst e; omega
          · exact h1 i h0 (by omega)
        · rw [kz_mxN, h2, if_neg c]
    · refine Or.inr ⟨?_, ?_, ?_⟩
      · obtain ⟨i, h4, h5, h6⟩ := h1; exact ⟨i, h4, by omega, h6⟩
      · rw [kz_mxN, kz_mxN, h2]
      · rw [kz_mxN]
        split
        · dsimp only; omega
        · exact h3
theorem z_bsNo {P : Int → Bool} {x : Int} (h : ∀ i, 0 ≤ i → i < x → P i = false) : kz_bs P x = 0 := by
  have h1 := z_bs_cong (P := P) (P' := fun _ => false) (x := x) (fun i h0 h1 => h i h0 h1)
  rw [h1]
  unfold kz_bs
  generalize x.toNat = n
  induction n with
  | zero => rfl
  | succ n ih => rw [kz_bN, ih]; rfl
section QA
variable {A : kz_A} {σ : kp_W}
theorem c_warmthQ (hA : kz_I A) (hE : kz_E A σ) {a : Int} (ha : kp_in a) : kp_ok (kf_X9_warmth a σ) (fun r σ' => r = (if 0 ≤ a ∧ a ≤ 39 then kz_w A.1 0 0 (a + 1) else -1) ∧ kz_Fk σ σ' ∧ kz_E A σ') := by
  unfold kf_X9_warmth
  refine k_e (c_isMinute ha) (k_b (fun c => k_some ⟨by rw [if_neg c], z_Fk0, hE⟩) (fun c => c_settle hA hE (fun σ1 f1 hH h6 hS => k_ck ⟨c.1, by omega⟩ (k_some ⟨?_, f1, z_EP hH h6 hS⟩))))
  rw [if_pos c]; exact hS.1 a c.1 (by omega)
theorem c_knocksQ (hA : kz_I A) (hE : kz_E A σ) {n t w : Int} (hn : kp_in n) (ht : kp_in t) (hw : kp_in w) : kp_ok (kf_X9_knocks n t w σ) (fun r σ' => r = (if (0 ≤ n ∧ n < A.1 0) ∧ (0 ≤ t ∧ t ≤ 39) ∧ 0 ≤ w ∧ w ≤ 2 then (if w = 0 then kz_ln A 0 0 n t else if w = 1 then kz_hd A n t else if A.1 (Int.toNat (290 + n)) = 1 then 0 else kz_kn A 0 0 n t) else -1) ∧ kz_Fk σ σ' ∧ kz_E A σ') := by
  unfold kf_X9_knocks
  refine k_e (c_has hA hE.1 hn) (k_b (fun c => k_some ⟨by rw [if_neg (fun z => c z.1)], z_Fk0, hE⟩) (fun c => k_e (c_isMinute ht) (k_b (fun d => k_some ⟨by rw [if_neg (fun z => d z.2.1)], z_Fk0, hE⟩) (fun d => c_settle hA hE (fun σ1 f1 hH h6 hS => ?_)))))
  have d' : 0 ≤ t ∧ t < 40 := ⟨d.1, by omega⟩
  refine k_eq hw (by decide) (fun e => k_e (c_lengthOf hA c d' hS.1 (hS.2.1 n c.1 c.2)) (k_some ⟨?_, f1, z_EP hH h6 hS⟩)) (fun e => k_eq hw (by decide) (fun g => k_e (c_holdOf hA c d' (hS.2.1 n c.1 c.2)) (k_some ⟨?_, f1, z_EP hH h6 hS⟩)) (fun g => k_eq hw (by decide) (fun h => k_e (c_isLoose hA hH c) (k_b (fun i => k_some ⟨?_, f1, z_EP hH h6 hS⟩) (fun i => k_e (c_knocksOf hA hS c d') (k_some ⟨?_, f1, z_EP hH h6 hS⟩)))) (fun h => k_some ⟨?_, f1, z_EP hH h6 hS⟩)))
  · rw [if_pos ⟨c, d, by omega⟩, if_pos e]
  · rw [if_pos ⟨c, d, by omega⟩, if_neg e, if_pos g]
  · rw [if_pos ⟨c, d, by omega⟩, if_neg e, if_neg g, if_pos (Classical.not_not.mp i)]
  · rw [if_pos ⟨c, d, by omega⟩, if_neg e, if_neg g, if_neg i]
  · rw [if_neg (fun z => by omega)]
theorem c_loudQ (hA : kz_I A) (hE : kz_E A σ) {n p t : Int} (hn : kp_in n) (hp : kp_in p) (ht : kp_in t) : kp_ok (kf_X9_loud n p t σ) (fun r σ' => r = (if (0 ≤ n ∧ n < A.1 0) ∧ (0 ≤ p ∧ p ≤ 9) ∧ 0 ≤ t ∧ t ≤ 39 then kz_ld A.1 0 0 0 n p t else -1) ∧ kz_Fk σ σ' ∧ kz_E A σ') := by
  have h10 := hA.1.1.1
  unfold kf_X9_loud
  refine k_e (c_has hA hE.1 hn) (k_b (fun c => k_some ⟨by rw [if_neg (fun z => c z.1)], z_Fk0, hE⟩) (fun c => k_e (c_isPlace hp) (k_b (fun d => k_some ⟨by rw [if_neg (fun z => d z.2.1)], z_Fk0, hE⟩) (fun d => k_e (c_isMinute ht) (k_b (fun e => k_some ⟨by rw [if_neg (fun z => e z.2.2)], z_Fk0, hE⟩) (fun e => c_settle hA hE (fun σ1 f1 hH h6 hS => k_e (c_loudOf hA hH hS.1 c d ⟨e.1, by omega⟩) (k_some ⟨?_, f1, z_EP hH h6 hS⟩))))))))
  rw [if_pos ⟨c, d, e⟩]
theorem c_heardQ (hA : kz_I A) (hE : kz_E A σ) {p t : Int} (hp : kp_in p) (ht : kp_in t) : kp_ok (kf_X9_heard p t σ) (fun r σ' => r = (if ¬ (0 ≤ p ∧ p ≤ 9) then -1 else if t = -1 then kz_da A 0 0 0 (kz_mv A.1) p else if 0 ≤ t ∧ t ≤ 39 then kz_he A 0 0 0 (kz_mv A.1) p t else -1) ∧ kz_Fk σ σ' ∧ kz_E A σ') := by
  unfold kf_X9_heard
  refine k_e (c_isPlace hp) (k_b (fun c => k_some ⟨by rw [if_pos c], z_Fk0, hE⟩) (fun c => ?_))
  rw [if_neg (fun z => z c)]
  have body : (t = -1 ∨ (0 ≤ t ∧ t ≤ 39)) → kp_ok (kp_bd (kf_X9_settle σ) (fun r_1 σ_3 => kp_eq t (-1) (kp_bd (kf_X9_heardInDay p σ_3) (fun r_3 σ_5 => some (r_3, σ_5))) (kp_bd (kf_X9_heardAt p t σ_3) (fun r_2 σ_4 => some (r_2, σ_4))))) (fun r σ' => r = (if t = -1 then kz_da A 0 0 0 (kz_mv A.1) p else if 0 ≤ t ∧ t ≤ 39 then kz_he A 0 0 0 (kz_mv A.1) p t else -1) ∧ kz_Fk σ σ' ∧ kz_E A σ') := fun hh => c_settle hA hE (fun σ1 f1 hH h6 hS => k_eq ht (by decide) (fun e => k_e (c_heardInDay hA hH hS c) (k_some ⟨by rw [if_pos e], f1, z_EP hH h6 hS⟩)) (fun e => k_e (c_heardAt hA hH hS c ⟨by omega, by omega⟩) (k_some ⟨by rw [if_neg e, if_pos (by omega)], f1, z_EP hH h6 hS⟩)))
  exact k_jn (k_eq ht (by decide) (fun e => body (Or.inl e)) (fun e => k_e (c_isMinute ht) (k_b (fun d => k_some ⟨by rw [if_neg e, if_neg d], z_Fk0, hE⟩) (fun d => body (Or.inr d)))))
theorem c_loudOfAll (hA : kz_I A) (hH : kz_H A σ) (hS : kz_Sn A 0 0 σ) {p t : Int} (hp : 0 ≤ p ∧ p ≤ 9) (ht : 0 ≤ t ∧ t < 40) : kf_X9_loudOfAll p t σ = some (kz_frq A 0 0 t p, σ) := by
  have h10 := hA.1.1.1
  have loop : ∀ (m : Nat) (x y : Int), 0 ≤ y → y ≤ A.1 0 → A.1 0 - y < m → x = kp_sm (fun n => if ¬ A.1 (Int.toNat (290 + n)) = 1 ∧ 0 < kz_kn A 0 0 n t then kz_ld A.1 0 0 0 n p t else 0) y → kp_ok (kl_X9_loudOfAll_5 p t m x y σ (fun (x1_2 : Int) (σ2 : kp_W) => some (x1_2, σ2))) (fun r' σ' => r' = kz_frq A 0 0 t p ∧ σ' = σ) := by
    intro m
    induction m with
    | zero => intro x y h0 h1 h2; omega
    | succ m ih =>
      intro x y h0 h1 h2 hx
      rw [kl_X9_loudOfAll_5, show σ 11 5 = A.1 0 from hH.2.2.2.2.2.2.1.1]
      refine k_ls ⟨by omega, by omega⟩ ⟨by omega, by omega⟩ (fun hy => ?_) (fun hy => k_some ⟨?_, rfl⟩)
      · have hs := kp_sm1 (fun n => if ¬ A.1 (Int.toNat (290 + n)) = 1 ∧ 0 < kz_kn A 0 0 n t then kz_ld A.1 0 0 0 n p t else 0) h0
        rw [← hx] at hs
        have hk := hA.1.2.2.2.1 y h0 hy
        have kr := z_kn hA (q := 0) (l := 0) (t := t) ⟨h0, hy⟩
        have e15 : σ 15 (Int.toNat y) = A.1 (Int.toNat (280 + y)) := ((show kz_Rn 11 A.1 σ from hH.2.2.2.2.2.2.1).2.2 y h0 hy).2.2.2.2
        refine k_e (c_isLoose hA hH ⟨h0, hy⟩) (k_jvs (kp_b (¬ A.1 (Int.toNat (290 + y)) = 1 ∧ 0 < kz_kn A 0 0 y t)) σ ?_ (fun j hj => ?_))
        · refine k_lt (k_b (fun c => k_lt (ih _ _ (by omega) (by omega) (by omega) ?_)) (fun c => ?_))
          · rw [hs]; simp only [if_neg c, Int.add_zero]
          · refine k_e (c_loudOf hA hH hS.1 ⟨h0, hy⟩ hp ht) (k_lt (k_lt (ih _ _ (by omega) (by omega) (by omega) ?_)))
            rw [hs]; simp only [if_pos c]
        · refine k_jn (k_b (fun c => ?_) (fun c => k_e (c_knocksOf hA hS ⟨h0, hy⟩ ht) (k_ls (by decide) ⟨by omega, by omega⟩ (fun d => ?_) (fun d => ?_))))
          · rw [kp_bF (fun z => c z.1)] at hj; exact hj
          · rw [kp_bT ⟨c, d⟩] at hj; exact hj
          · rw [kp_bF (fun z => d z.2)] at hj; exact hj
      · rw [hx]; unfold kz_frq; congr 1; omega
  unfold kf_X9_loudOfAll
  exact k_is (k_lt (k_lt (loop kp_fu 0 0 (by decide) (by omega) (kp_fu_big (by omega)) rfl)))
theorem z_seems (hA : kz_I A) {t : Int} : kz_seems A t = (kz_mx (kz_frq A 0 0 t) (-5) 0 10).1 := by
  have h10 := hA.1.1.1
  have hr : ∀ i : Int, 0 ≤ i → i < ((10 : Nat) : Int) → 0 ≤ kz_frq A 0 0 t i := fun i i0 i1 => (z_frq hA ⟨i0, by omega⟩).1
  unfold kz_seems
  have key := z_mxP (f := kz_frq A 0 0 t) (b := -5) (k := 10) hr
  by_cases c : kz_sset A t = 0
  · rw [if_pos c]
    have hno : ∀ n, 0 ≤ n → n < A.1 0 → ¬ (¬ A.1 (Int.toNat (290 + n)) = 1 ∧ 0 < kz_kn A 0 0 n t) := by
      intro n n0 n1 hn
      have e : kz_sset A t / 2 ^ (Int.toNat n) % 2 = _ := z_bsd (P := fun n => decide (¬ A.1 (Int.toNat (290 + n)) = 1 ∧ 0 < kz_kn A 0 0 n t)) n0 n1
      rw [c, if_pos (decide_eq_true hn), Int.zero_ediv] at e
      exact absurd e (by decide)
    rcases key with ⟨_, h2⟩ | ⟨⟨i, i0, i1, h⟩, _⟩
    · show _ = (kz_mxN (kz_frq A 0 0 t) (-5) 0 10).1
      rw [h2]
    · exfalso
      unfold kz_frq at h
      rw [kp_sm_cong (g := fun _ => 0) (fun n n0 n1 => if_neg (hno n n0 n1))] at h
      unfold kp_sm at h
      rw [z_smZ] at h
      exact absurd h (by decide)
  · rw [if_neg c]
    rcases key with ⟨h1, _⟩ | ⟨_, h2, _⟩
    · exfalso
      apply c
      unfold kz_sset
      refine z_bsNo (fun n n0 n1 => decide_eq_false (fun hn => ?_))
      have hk := hA.1.2.2.2.1 n n0 n1
      have hz := h1 (A.1 (Int.toNat (260 + n))) hk.2.1.1 (by omega)
      have t3 := z_tl hA.1 (j := 3) (by decide) (by decide)
      have hge : ∀ m : Nat, (m : Int) ≤ A.1 0 → (n < m → 1 ≤ kp_smN (fun i => if ¬ A.1 (Int.toNat (290 + i)) = 1 ∧ 0 < kz_kn A 0 0 i t then kz_ld A.1 0 0 0 i (A.1 (Int.toNat (260 + n))) t else 0) m) ∧ 0 ≤ kp_smN (fun i => if ¬ A.1 (Int.toNat (290 + i)) = 1 ∧ 0 < kz_kn A 0 0 i t then kz_ld A.1 0 0 0 i (A.1 (Int.toNat (260 + n))) t else 0) m := by
        intro m
        induction m with
        | zero => intro _; exact ⟨fun h => by omega, Int.le_refl 0⟩
        | succ m ih =>
          intro hm
          have ih := ih (by omega)
          have hl := z_ld hA (q := 0) (l := 0) (e := 0) (t := t) (n := (m : Int)) (p := A.1 (Int.toNat (260 + n))) (by decide) ⟨by omega, by omega⟩ ⟨hk.2.1.1, by omega⟩
          rw [kp_smN]
          refine ⟨fun h => ?_, by split <;> omega⟩
          by_cases e : n = m
          · subst e
            rw [if_pos hn]
            have : 1 ≤ kz_ld A.1 0 0 0 (m : Int) (A.1 (Int.toNat (260 + (m : Int)))) t := by
              rw [z_ldL, z_lo0]
              unfold kz_ldL
              have ab : kp_abs (A.1 (Int.toNat (260 + (m : Int))) - A.1 (Int.toNat (260 + (m : Int)))) = 0 := by rw [Int.sub_self]; rfl
              rw [ab, Int.mul_zero, Int.mul_zero]
              dsimp only
              repeat' split
              all_goals omega
            omega
          · have := ih.1 (by omega)
            split <;> omega
      have := (hge (Int.toNat (A.1 0)) (by omega)).1 (by omega)
      have e : kz_frq A 0 0 t (A.1 (Int.toNat (260 + n))) = kp_smN (fun i => if ¬ A.1 (Int.toNat (290 + i)) = 1 ∧ 0 < kz_kn A 0 0 i t then kz_ld A.1 0 0 0 i (A.1 (Int.toNat (260 + n))) t else 0) (Int.toNat (A.1 0)) := rfl
      rw [e] at hz
      omega
    · show (kz_mxN (kz_frq A 0 0 t) (-5) (-1) 10).1 = (kz_mxN (kz_frq A 0 0 t) (-5) 0 10).1
      rw [h2]
theorem c_seemsQ (hA : kz_I A) (hE : kz_E A σ) {t : Int} (ht : kp_in t) : kp_ok (kf_X9_seems t σ) (fun r σ' => r = (if 0 ≤ t ∧ t ≤ 39 then kz_seems A t else -1) ∧ kz_Fk σ σ' ∧ kz_E A σ') := by
  unfold kf_X9_seems
  refine k_e (c_isMinute ht) (k_b (fun c => k_some ⟨by rw [if_neg c], z_Fk0, hE⟩) (fun c => c_settle hA hE (fun σ1 f1 hH h6 hS => k_lt (k_lt (k_lt ?_)))))
  rw [if_pos c, z_seems hA]
  have loop : ∀ (m : Nat) (b x y : Int), 0 ≤ y → y ≤ 10 → 10 - y < m → (b, x) = kz_mx (kz_frq A 0 0 t) (-5) 0 y → kp_ok (kl_X9_seems_21 t m b x y σ1 (fun (x2_2 : Int) (σ_4 : kp_W) => some (x2_2, σ_4))) (fun r σ' => r = (kz_mx (kz_frq A 0 0 t) (-5) 0 10).1 ∧ kz_Fk σ σ' ∧ kz_E A σ') := by
    intro m
    induction m with
    | zero => intro b x y h0 h1 h2; omega
    | succ m ih =>
      intro b x y h0 h1 h2 hx
      have hx1 : x = (kz_mx (kz_frq A 0 0 t) (-5) 0 y).2 := by rw [← hx]
      have hr := z_mxr (f := kz_frq A 0 0 t) (b := -5) (m := 0) (c := 400) (x := y) (by decide) h0 (fun i i0 i1 => z_frq hA ⟨i0, by omega⟩)
      rw [← hx1] at hr
      have h1' := z_mx1 (f := kz_frq A 0 0 t) (b := -5) (m := 0) h0
      rw [kl_X9_seems_21]
      refine k_ls ⟨by omega, by omega⟩ (by decide) (fun hy => k_e (c_loudOfAll hA hH hS ⟨h0, by omega⟩ ⟨c.1, by omega⟩) (k_lt ?_)) (fun hy => k_some ⟨?_, f1, z_EP hH h6 hS⟩)
      · have hc := z_frq hA (t := t) (p := y) ⟨h0, by omega⟩
        refine k_ls ⟨by omega, by omega⟩ ⟨by omega, by omega⟩ (fun d => k_lt (k_lt (k_lt (ih _ _ _ (by omega) (by omega) (by omega) ?_)))) (fun d => k_lt (ih _ _ _ (by omega) (by omega) (by omega) ?_))
        · rw [h1', ← hx, if_pos d]
        · rw [h1', ← hx, if_neg d]
      · have : y = 10 := by omega
        rw [← this, ← hx]
  exact loop kp_fu _ _ 0 (by decide) (by decide) (kp_fu_big (by decide)) rfl
theorem c_harmOf (hA : kz_I A) (hH : kz_H A σ) (hS : kz_Sn A 0 0 σ) {n : Int} (hn : 0 ≤ n ∧ n < A.1 0) : kf_X9_harmOf n σ = some (kz_hm A n, σ) := by
  have h10 := hA.1.1.1
  have e15 : σ 15 (Int.toNat n) = A.1 (Int.toNat (280 + n)) := ((show kz_Rn 11 A.1 σ from hH.2.2.2.2.2.2.1).2.2 n hn.1 hn.2).2.2.2.2
  unfold kf_X9_harmOf
  refine k_is (k_e (c_isLoose hA hH hn) (k_b (fun c => k_some ⟨?_, rfl⟩) (fun c => k_lt (k_lt ?_))))
  · unfold kz_hm; rw [if_pos (Classical.not_not.mp c), Int.zero_mul]
  · have loop : ∀ (m : Nat) (x y : Int), 0 ≤ y → y ≤ 40 → 40 - y < m → x = kp_sm (fun t => kz_kn A 0 0 n t) y → kp_ok (kl_X9_harmOf_20 n m x y σ (fun (x2_2 : Int) (σ_3 : kp_W) => kp_ck (0 ≤ n ∧ n < 10) (some ((x2_2 * (σ_3 15 (Int.toNat n))), σ_3)))) (fun r' σ' => r' = kz_hm A n ∧ σ' = σ) := by
      intro m
      induction m with
      | zero => intro x y h0 h1 h2; omega
      | succ m ih =>
        intro x y h0 h1 h2 hx
        rw [kl_X9_harmOf_20]
        refine k_ls ⟨by omega, by omega⟩ (by decide) (fun hy => k_e (c_knocksOf hA hS hn ⟨h0, hy⟩) (k_lt (k_lt (ih _ _ (by omega) (by omega) (by omega) ?_)))) (fun hy => k_ck ⟨hn.1, by omega⟩ (k_some ⟨?_, rfl⟩))
        · rw [kp_sm1 _ h0, hx]
        · have : y = 40 := by omega
          subst this
          rw [e15, hx]; unfold kz_hm; rw [if_neg c]
    exact loop kp_fu 0 0 (by decide) (by decide) (kp_fu_big (by decide)) rfl
theorem c_harmQ (hA : kz_I A) (hE : kz_E A σ) {n : Int} (hn : kp_in n) : kp_ok (kf_X9_harm n σ) (fun r σ' => r = (if 0 ≤ n ∧ n < A.1 0 then kz_hm A n else -1) ∧ kz_Fk σ σ' ∧ kz_E A σ') := by
  unfold kf_X9_harm
  exact k_e (c_has hA hE.1 hn) (k_b (fun c => k_some ⟨by rw [if_neg c], z_Fk0, hE⟩) (fun c => c_settle hA hE (fun σ1 f1 hH h6 hS => k_e (c_harmOf hA hH hS c) (k_some ⟨by rw [if_pos c], f1, z_EP hH h6 hS⟩))))
theorem z_he1 {q l e p t n : Int} (hn : 0 ≤ n ∧ n < A.1 0) : kz_he A q l e (2 ^ (Int.toNat n)) p t = kz_ad A q l e n p t := by
  unfold kz_he kp_sm
  have key : ∀ m : Nat, kp_smN (fun i => if (2 : Int) ^ (Int.toNat n) / 2 ^ (Int.toNat i) % 2 = 1 then kz_ad A q l e i p t else 0) m = if n < m then kz_ad A q l e n p t else 0 := by
    intro m
    induction m with
    | zero => rw [if_neg (by omega)]; rfl
    | succ m ih =>
      rw [kp_smN, ih, z_pwd (n := n) (k := (m : Int)) (by omega) hn.1]
      by_cases e : n = m
      · subst e; rw [if_neg (by omega), if_pos rfl, if_pos rfl, if_pos (by omega), Int.zero_add]
      · rw [if_neg e, if_neg (c := (0 : Int) = 1) (by decide), Int.add_zero]
        by_cases d : n < m
        · rw [if_pos d, if_pos (by omega)]
        · rw [if_neg d, if_neg (by omega)]
  rw [key, if_pos (by omega)]
theorem c_fittingRows (hA : kz_I A) (hH : kz_H A σ) (hS : kz_Sn A 0 0 σ) {n : Int} (hn : 0 ≤ n ∧ n < A.1 0) : kf_X9_fittingRows n σ = some (kz_ft A 0 0 (2 ^ (Int.toNat n)), σ) := by
  have h12 := hA.1.1.2.2.1
  have hB : kz_Rb 16 A.1 σ := hH.2.2.2.2.2.2.2
  have loop : ∀ (m : Nat) (x y : Int), 0 ≤ y → y ≤ A.1 2 → A.1 2 - y < m → x = kz_bs (fun r => decide (kz_he A 0 0 0 (2 ^ (Int.toNat n)) (A.1 (Int.toNat (300 + r))) (A.1 (Int.toNat (312 + r))) = A.1 (Int.toNat (324 + r)))) y → kp_ok (kl_X9_fittingRows_4 n m x y σ (fun (x1_2 : Int) (σ2 : kp_W) => some (x1_2, σ2))) (fun r' σ' => r' = kz_ft A 0 0 (2 ^ (Int.toNat n)) ∧ σ' = σ) := by
    intro m
    induction m with
    | zero => intro x y h0 h1 h2; omega
    | succ m ih =>
      intro x y h0 h1 h2 hx
      rw [kl_X9_fittingRows_4, show σ 16 3 = A.1 2 from hB.1]
      refine k_ls ⟨by omega, by omega⟩ ⟨by omega, by omega⟩ (fun hy => k_ck ⟨h0, by omega⟩ (k_ck ⟨h0, by omega⟩ ?_)) (fun hy => k_some ⟨?_, rfl⟩)
      · have hr := hA.1.2.2.2.2.1 y h0 hy
        have hb := z_bs (fun r => decide (kz_he A 0 0 0 (2 ^ (Int.toNat n)) (A.1 (Int.toNat (300 + r))) (A.1 (Int.toNat (312 + r))) = A.1 (Int.toNat (324 + r)))) y
        have h1' := z_bs1 (fun r => decide (kz_he A 0 0 0 (2 ^ (Int.toNat n)) (A.1 (Int.toNat (300 + r))) (A.1 (Int.toNat (312 + r))) = A.1 (Int.toNat (324 + r)))) h0
        rw [← hx] at hb h1'
        have hp := z_p10 h0 (c := 12) (by omega)
        obtain ⟨e17, e18, e19⟩ := hB.2 y h0 hy
        rw [show σ 17 (Int.toNat y) = _ from e17, show σ 18 (Int.toNat y) = _ from e18]
        have had := z_ad hA (q := 0) (l := 0) (e := 0) (p := A.1 (Int.toNat (300 + y))) (t := A.1 (Int.toNat (312 + y))) hn
        have ehe := z_he1 (A := A) (q := 0) (l := 0) (e := 0) (p := A.1 (Int.toNat (300 + y))) (t := A.1 (Int.toNat (312 + y))) hn
        refine k_e (c_heardAlone hA hH hS hn hr.1 ⟨by omega, by omega⟩) (k_ck ⟨h0, by omega⟩ ?_)
        rw [show σ 19 (Int.toNat y) = _ from e19]
        refine k_eq ⟨by omega, by omega⟩ ⟨by omega, by omega⟩ (fun c => k_ck (by omega) (k_lt (k_lt (ih _ _ (by omega) (by omega) (by omega) ?_)))) (fun c => k_lt (ih _ _ (by omega) (by omega) (by omega) ?_))
        · rw [z_or1 (by omega) hb, h1', if_pos (decide_eq_true (by rw [ehe]; exact c))]
        · rw [h1', if_neg (by rw [ehe]; simp [c]), Int.add_zero]
      · rw [hx]; unfold kz_ft; congr 1; omega
  unfold kf_X9_fittingRows
  exact k_is (k_lt (k_lt (loop kp_fu 0 0 (by decide) (by omega) (kp_fu_big (by omega)) rfl)))
theorem c_fitsQ (hA : kz_I A) (hE : kz_E A σ) {n : Int} (hn : kp_in n) : kp_ok (kf_X9_fits n σ) (fun r σ' => r = (if 0 ≤ n ∧ n < A.1 0 then kz_ft A 0 0 (2 ^ (Int.toNat n)) else -1) ∧ kz_Fk σ σ' ∧ kz_E A σ') := by
  unfold kf_X9_fits
  exact k_e (c_has hA hE.1 hn) (k_b (fun c => k_some ⟨by rw [if_neg c], z_Fk0, hE⟩) (fun c => c_settle hA hE (fun σ1 f1 hH h6 hS => k_e (c_fittingRows hA hH hS c) (k_some ⟨by rw [if_pos c], f1, z_EP hH h6 hS⟩))))
end QA
