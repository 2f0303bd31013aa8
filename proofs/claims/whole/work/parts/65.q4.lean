-- the class's questions: least, eased, parted, quiet
section QD
variable {A : kz_A} {σ : kp_W}
theorem z_hi {p k : Int} (hk : 0 ≤ k ∧ k < A.1 0) : kz_hi A p k = if A.1 (Int.toNat (290 + k)) = 1 then 0 else kz_dn A 0 0 0 k p := by
  unfold kz_hi
  by_cases c : A.1 (Int.toNat (290 + k)) = 1
  · rw [if_pos c, if_pos c]
  · rw [if_neg c, if_neg c]
    unfold kz_da kz_dn
    exact kp_sm_cong (fun t _ _ => z_he1 hk)
theorem c_leastQ (hA : kz_I A) (hE : kz_E A σ) {p n : Int} (hp : kp_in p) (hn : kp_in n) : kp_ok (kf_X9_least p n σ) (fun r σ' => r = (if ¬ (0 ≤ p ∧ p ≤ 9) then -1 else if ¬ (0 ≤ n ∧ n ≤ 99) then -2 else kz_le A p n (2 ^ (Int.toNat (A.1 0)))) ∧ kz_Fk σ σ' ∧ kz_E A σ') := by
  have h10 := hA.1.1.1
  have p10 := z_p10 h10.1 (c := 10) (by omega)
  have pp : (0 : Int) < 2 ^ (Int.toNat (A.1 0)) := Int.pow_pos (by decide)
  have hmv := z_mvr2 hA
  have hmvc : kz_mv A.1 < 2 ^ (Int.toNat (A.1 0)) := (z_bs (fun n => decide (¬ A.1 (Int.toNat (290 + n)) = 1)) (A.1 0)).2
  unfold kf_X9_least
  refine k_e (c_isPlace hp) (k_b (fun c => k_some ⟨by rw [if_pos c], z_Fk0, hE⟩) (fun c => k_ls hn (by decide) (fun d => k_some ⟨by rw [if_neg (fun z => z c), if_pos (by omega)], z_Fk0, hE⟩) (fun d => k_ls (by decide) hn (fun e => k_some ⟨by rw [if_neg (fun z => z c), if_pos (by omega)], z_Fk0, hE⟩) (fun e => c_settle hA hE (fun σ1 f1 hH h6 hS => k_e (c_loose hA hH) (k_lt (k_lt ?_)))))))
  rw [if_neg (fun z => z c), if_neg (by omega)]
  have fill : ∀ (m : Nat) (y : Int) (σ1 : kp_W), 0 ≤ y → y ≤ A.1 0 → A.1 0 - y < m → kz_P A σ σ1 → (∀ i, 0 ≤ i → i < y → σ1 43 (Int.toNat (0 * 10 + i)) = kz_dn A 0 0 0 i p) → ∀ (k : kp_W → kp_R) (R : Int → kp_W → Prop), (∀ σ', kz_P A σ σ' → (∀ i, 0 ≤ i → i < A.1 0 → σ' 43 (Int.toNat (0 * 10 + i)) = kz_dn A 0 0 0 i p) → kp_ok (k σ') R) → kp_ok (kl_X9_least_40 p m y σ1 k) R := by
    intro m
    induction m with
    | zero => intro y σ1 h0 h1 h2; omega
    | succ m ih =>
      intro y σ1 h0 h1 h2 hP1 hv k R hk
      rw [kl_X9_least_40, show σ1 11 5 = A.1 0 from hP1.2.1.2.2.2.2.2.2.1.1]
      refine k_ls ⟨by omega, by omega⟩ ⟨by omega, by omega⟩ (fun hy => k_e (c_heardInDayOf hA hP1.2.1 hP1.2.2.2 ⟨h0, hy⟩ c) (k_ck (by omega) (k_lt (k_lt (ih _ _ (by omega) (by omega) (by omega) (z_PU hP1) (fun i i0 i1 => ?_) k R hk))))) (fun hy => hk σ1 hP1 (fun i i0 i1 => hv i i0 (by omega)))
      rw [kp_up_eq]
      by_cases h : i = y
      · rw [if_pos (by rw [h]; congr 1; omega), h]
      · rw [if_neg (by omega)]; exact hv i i0 (by omega)
  refine fill kp_fu _ σ1 (by decide) (by omega) (kp_fu_big (by omega)) ⟨f1, hH, h6, hS⟩ (fun i i0 i1 => by omega) _ _ (fun σ2 hP2 hv => k_lt (k_lt ?_))
  -- the share of a set, and what is left
  have lfe : ∀ z : Int, 0 ≤ z ∧ z < 1024 → kf_X9_shareOf 0 (kp_and (kz_mv A.1) (kp_xor z (-1))) σ2 = some (kz_lf A p z, σ2) := by
    intro z hz
    rw [c_shareOf hA hP2.2.1 (by decide) (kz_and_in _ _) hv]
    congr 2
    unfold kz_lf
    refine kp_sm_cong (fun i i0 i1 => ?_)
    rw [z_hi ⟨i0, i1⟩, kz_bit01, kz_bit01, kz_and (by omega), kz_xor (by omega), kz_m1, Bool.xor_true, z_mvt i0 i1]
    by_cases c1 : A.1 (Int.toNat (290 + i)) = 1
    · rw [decide_eq_false (fun z => z c1), Bool.false_and, if_pos c1]
      simp
    · rw [decide_eq_true c1, Bool.true_and, if_neg c1]
      cases kz_t z (Int.toNat i) <;> simp
  have lfr : ∀ z, 0 ≤ kz_lf A p z ∧ kz_lf A p z ≤ 36000 := by
    intro z
    have := kp_sm_rng (f := fun k => if z / 2 ^ (Int.toNat k) % 2 = 0 then kz_hi A p k else 0) (c := 3600) (x := A.1 0) (by decide) h10.1 (fun i i0 i1 => by
      have := z_dn hA (q := 0) (l := 0) (e := 0) (p := p) ⟨i0, i1⟩
      have h2 : 0 ≤ kz_hi A p i ∧ kz_hi A p i ≤ 3600 := by rw [z_hi ⟨i0, i1⟩]; split <;> omega
      split <;> omega)
    unfold kz_lf
    omega
  have lfm : kz_lf A p (kz_mv A.1) = 0 := by
    unfold kz_lf
    rw [kp_sm_cong (g := fun _ => 0) (fun i i0 i1 => ?_)]
    · unfold kp_sm; exact z_smZ _
    · rw [z_hi ⟨i0, i1⟩, z_mvb hA ⟨i0, i1⟩]
      by_cases c1 : A.1 (Int.toNat (290 + i)) = 1
      · rw [if_pos c1]; split <;> rfl
      · rw [if_pos c1, if_neg (by decide)]
  have sub : ∀ z : Int, kp_and z (kp_xor (kz_mv A.1) (-1)) = 0 → ∀ i : Nat, i < 12 → kz_t z i = true → kz_t (kz_mv A.1) i = true := by
    intro z hz i hi ht
    have := kz_and (x := z) (y := kp_xor (kz_mv A.1) (-1)) (i := i) (by omega)
    rw [hz, kz_0, kz_xor (by omega), kz_m1, Bool.xor_true, ht, Bool.true_and] at this
    cases d : kz_t (kz_mv A.1) i
    · rw [d] at this; cases this
    · rfl
  have subm : kp_and (kz_mv A.1) (kp_xor (kz_mv A.1) (-1)) = 0 := by
    have h1 : 0 ≤ kp_and (kz_mv A.1) (kp_xor (kz_mv A.1) (-1)) ∧ kp_and (kz_mv A.1) (kp_xor (kz_mv A.1) (-1)) < 2 ^ 10 := kz_small32 (by decide) (kz_and_in _ _) (fun i h1 h2 => by
      rw [kz_and h2, kz_big (k := 10) hmv h1, Bool.false_and])
    refine kz_ext (k := 10) h1 ⟨by decide, by decide⟩ (fun i hi => ?_)
    rw [kz_and (by omega), kz_xor (by omega), kz_m1, Bool.xor_true, kz_0]
    cases kz_t (kz_mv A.1) i <;> rfl
  have loop : ∀ (m : Nat) (b y : Int), 0 ≤ y → y ≤ 2 ^ (Int.toNat (A.1 0)) → 2 ^ (Int.toNat (A.1 0)) - y < m → ((kz_le A p n y = -5 ∧ b = kz_mv A.1 ∧ y ≤ kz_mv A.1) ∨ (b = kz_le A p n y ∧ ¬ b = -5)) → (0 ≤ b ∧ b < 1024) → kp_ok (kl_X9_least_81 n (kz_mv A.1) m b y σ2 (fun (x4_4 : Int) (σ_7 : kp_W) => some (x4_4, σ_7))) (fun r σ' => r = kz_le A p n (2 ^ (Int.toNat (A.1 0))) ∧ kz_Fk σ σ' ∧ kz_E A σ') := by
    intro m
    induction m with
    | zero => intro b y h0 h1 h2; omega
    | succ m ih =>
      intro b y h0 h1 h2 hI hb
      have h1' := z_le1 (A := A) (p := p) (n := n) h0
      rw [kl_X9_least_81, show σ2 11 5 = A.1 0 from hP2.2.1.2.2.2.2.2.2.1.1, Int.one_mul]
      refine k_ck (by omega) (k_ls ⟨by omega, by omega⟩ ⟨by omega, by omega⟩ (fun hy => ?_) (fun hy => k_some ⟨?_, hP2.1, z_PE hP2⟩))
      · have hl := lfr y
        -- the next state, from whether this set is taken
        have stay : ¬ ((kp_and y (kp_xor (kz_mv A.1) (-1)) = 0 ∧ kz_lf A p y ≤ n) ∧ kz_pc y < kz_pc b) → ((kz_le A p n (y + 1) = -5 ∧ b = kz_mv A.1 ∧ y + 1 ≤ kz_mv A.1) ∨ (b = kz_le A p n (y + 1) ∧ ¬ b = -5)) := by
          intro hno
          rcases hI with ⟨e1, e2, e3⟩ | ⟨e1, e2⟩
          · by_cases hv : kp_and y (kp_xor (kz_mv A.1) (-1)) = 0 ∧ kz_lf A p y ≤ n
            · have hym : y = kz_mv A.1 := by
                apply Classical.byContradiction
                intro hne
                exact hno ⟨hv, by rw [e2]; exact z_pcLt ⟨h0, by omega⟩ hmv (sub y hv.1) hne⟩
              refine Or.inr ⟨?_, by omega⟩
              rw [h1', if_pos ⟨hv, Or.inl e1⟩, e2, hym]
            · refine Or.inl ⟨by rw [h1', if_neg (fun w => hv w.1)]; exact e1, e2, ?_⟩
              rcases Int.lt_or_le y (kz_mv A.1) with h | h
              · omega
              · have : y = kz_mv A.1 := by omega
                exact absurd ⟨by rw [this]; exact subm, by rw [this, lfm]; omega⟩ hv
          · refine Or.inr ⟨?_, e2⟩
            rw [h1', if_neg (fun w => ?_)]
            · exact e1
            · rw [← e1] at w; exact hno ⟨w.1, w.2.resolve_left e2⟩
        have take : ((kp_and y (kp_xor (kz_mv A.1) (-1)) = 0 ∧ kz_lf A p y ≤ n) ∧ kz_pc y < kz_pc b) → ((kz_le A p n (y + 1) = -5 ∧ y = kz_mv A.1 ∧ y + 1 ≤ kz_mv A.1) ∨ (y = kz_le A p n (y + 1) ∧ ¬ y = -5)) := by
          intro hyes
          refine Or.inr ⟨?_, by omega⟩
          rcases hI with ⟨e1, e2, e3⟩ | ⟨e1, e2⟩
          · rw [h1', if_pos ⟨hyes.1, Or.inl e1⟩]
          · rw [h1', if_pos ⟨hyes.1, Or.inr (by rw [← e1]; exact hyes.2)⟩]
        have p1 := z_pc (x := y)
        have p2 := z_pc (x := b)
        refine k_jv (kp_b (kp_and y (kp_xor (kz_mv A.1) (-1)) = 0 ∧ kz_pc y < kz_pc b)) ?_ (fun j hj => ?_)
        · refine k_lt (k_b (fun u => k_lt (ih _ _ (by omega) (by omega) (by omega) (stay (fun w => u ⟨w.1.1, w.2⟩)) hb)) (fun u => ?_))
          refine k_e (lfe y ⟨h0, by omega⟩) (k_ls hn ⟨by omega, by omega⟩ (fun v => k_lt (ih _ _ (by omega) (by omega) (by omega) (stay (fun w => by omega)) hb)) (fun v => k_lt (k_lt (ih _ _ (by omega) (by omega) (by omega) (take ⟨⟨u.1, by omega⟩, u.2⟩) ⟨h0, by omega⟩))))
        · have ha := kz_and_in y (kp_xor (kz_mv A.1) (-1))
          rw [z_bc ⟨h0, by omega⟩, z_bc ⟨hb.1, by omega⟩]
          refine k_jn (k_eq ha (by decide) (fun u => k_ls ⟨by omega, by omega⟩ ⟨by omega, by omega⟩ (fun v => ?_) (fun v => ?_)) (fun u => ?_))
          · rw [kp_bT ⟨u, v⟩] at hj; exact hj
          · rw [kp_bF (fun w => v w.2)] at hj; exact hj
          · rw [kp_bF (fun w => u w.1)] at hj; exact hj
      · have : y = 2 ^ (Int.toNat (A.1 0)) := by omega
        rcases hI with ⟨_, _, e3⟩ | ⟨e1, _⟩
        · omega
        · rw [e1, this]
  exact loop kp_fu _ 0 (by decide) (by omega) (kp_fu_big (by omega)) (Or.inl ⟨rfl, rfl, hmv.1⟩) hmv
theorem z_SnF {q l : Int} {σ' : kp_W} (e49 : σ' 49 = σ 49) (e50 : σ' 50 = σ 50) (e51 : σ' 51 = σ 51) (e52 : σ' 52 = σ 52) (e53 : σ' 53 = σ 53) (h : kz_Sn A q l σ) : kz_Sn A q l σ' := by
  unfold kz_Sn kz_Wm kz_Sr
  rw [e49, e50, e51, e52, e53]
  exact h
theorem z_unA (hA : kz_I A) (hH : kz_H A σ) {n : Int} (hn : 0 ≤ n ∧ n < A.1 0) : kf_X9_isUnder (σ 12 (Int.toNat n)) 2 σ = some (kp_b (kz_sr A.1 n), σ) := by
  have hk := hA.1.2.2.2.1 n hn.1 hn.2
  have e12 : σ 12 (Int.toNat n) = A.1 (Int.toNat (250 + n)) := ((show kz_Rn 11 A.1 σ from hH.2.2.2.2.2.2.1).2.2 n hn.1 hn.2).2.1
  rw [e12, c_isUnder ⟨hk.1.1, hk.1.2⟩ (by decide)]
  congr 2
  exact kp_bI (z_unS hk.1)
theorem z_smS {f g : Int → Int} : ∀ n : Nat, kp_smN (fun i => f i - g i) n = kp_smN f n - kp_smN g n
  | 0 => rfl
  | n + 1 => by rw [kp_smN, kp_smN, kp_smN, z_smS n]; omega
theorem c_easedQ (hA : kz_I A) (hE : kz_E A σ) {p e : Int} (hp : kp_in p) (he : kp_in e) : kp_ok (kf_X9_eased p e σ) (fun r σ' => r = (if ¬ (0 ≤ p ∧ p ≤ 9) then -1 else if ¬ (0 ≤ e ∧ e ≤ 40) then -2 else kz_da A 0 0 0 (kz_mv A.1) p - kz_da A 0 0 e (kz_mv A.1) p) ∧ kz_Fk σ σ' ∧ kz_E A σ') := by
  have h10 := hA.1.1.1
  unfold kf_X9_eased
  refine k_e (c_isPlace hp) (k_b (fun c => k_some ⟨by rw [if_pos c], z_Fk0, hE⟩) (fun c => k_ls he (by decide) (fun d => k_some ⟨by rw [if_neg (fun z => z c), if_pos (by omega)], z_Fk0, hE⟩) (fun d => k_ls (by decide) he (fun g => k_some ⟨by rw [if_neg (fun z => z c), if_pos (by omega)], z_Fk0, hE⟩) (fun g => c_settle hA hE (fun σ1 f1 hH h6 hS => k_lt (k_lt ?_))))))
  rw [if_neg (fun z => z c), if_neg (by omega)]
  have hgoal : kz_da A 0 0 0 (kz_mv A.1) p - kz_da A 0 0 e (kz_mv A.1) p = kp_sm (fun n => if ¬ A.1 (Int.toNat (290 + n)) = 1 ∧ kz_sr A.1 n then kz_dn A 0 0 0 n p - kz_dn A 0 0 e n p else 0) (A.1 0) := by
    rw [z_daD, z_daD]
    unfold kp_sm
    rw [← z_smS]
    refine kp_smN_cong (fun i i0 i1 => ?_)
    rw [z_mvb hA ⟨i0, by omega⟩]
    by_cases c1 : A.1 (Int.toNat (290 + i)) = 1
    · rw [if_neg (c := ¬ A.1 (Int.toNat (290 + i)) = 1) (fun z => z c1), if_neg (by decide), if_neg (by decide), if_neg (fun z => z.1 c1)]; rfl
    · rw [if_pos c1, if_pos rfl, if_pos rfl]
      by_cases c2 : kz_sr A.1 i
      · rw [if_pos ⟨c1, c2⟩]
      · rw [if_neg (fun z => c2 z.2)]
        have : kz_dn A 0 0 e i p = kz_dn A 0 0 0 i p := kp_sm_cong (fun t _ _ => by
          rw [z_adL, z_adL, z_lo0]
          unfold kz_lo
          rw [if_neg (fun z => c2 z.1)])
        rw [this, Int.sub_self]
  have loop : ∀ (m : Nat) (x y : Int), 0 ≤ y → y ≤ A.1 0 → A.1 0 - y < m → x = kp_sm (fun n => if ¬ A.1 (Int.toNat (290 + n)) = 1 ∧ kz_sr A.1 n then kz_dn A 0 0 0 n p - kz_dn A 0 0 e n p else 0) y → kp_ok (kl_X9_eased_31 p e m x y σ1 (fun (x3_2 : Int) (σ_4 : kp_W) => some (x3_2, σ_4))) (fun r σ' => r = kz_da A 0 0 0 (kz_mv A.1) p - kz_da A 0 0 e (kz_mv A.1) p ∧ kz_Fk σ σ' ∧ kz_E A σ') := by
    intro m
    induction m with
    | zero => intro x y h0 h1 h2; omega
    | succ m ih =>
      intro x y h0 h1 h2 hx
      have hs := kp_sm1 (fun n => if ¬ A.1 (Int.toNat (290 + n)) = 1 ∧ kz_sr A.1 n then kz_dn A 0 0 0 n p - kz_dn A 0 0 e n p else 0) h0
      rw [← hx] at hs
      rw [kl_X9_eased_31, show σ1 11 5 = A.1 0 from hH.2.2.2.2.2.2.1.1]
      refine k_ls ⟨by omega, by omega⟩ ⟨by omega, by omega⟩ (fun hy => k_e (c_isLoose hA hH ⟨h0, hy⟩) (k_b (fun u => k_lt (ih _ _ (by omega) (by omega) (by omega) ?_)) (fun u => k_ck (by omega) (k_e (z_unA hA hH ⟨h0, hy⟩) (k_b (fun v => k_lt (ih _ _ (by omega) (by omega) (by omega) ?_)) (fun v => k_ck (by omega) ?_)))))) (fun hy => k_some ⟨?_, f1, z_EP hH h6 hS⟩)
      · simp only [if_neg (show ¬ (¬ A.1 (Int.toNat (290 + y)) = 1 ∧ kz_sr A.1 y) from fun z => u z.1), Int.add_zero] at hs
        exact hs.symm
      · simp only [if_neg (show ¬ (¬ A.1 (Int.toNat (290 + y)) = 1 ∧ kz_sr A.1 y) from fun z => v z.2), Int.add_zero] at hs
        exact hs.symm
      · have hk := hA.1.2.2.2.1 y h0 hy
        have e15 : σ1 15 (Int.toNat y) = A.1 (Int.toNat (280 + y)) := ((show kz_Rn 11 A.1 σ1 from hH.2.2.2.2.2.2.1).2.2 y h0 hy).2.2.2.2
        simp only [if_pos (show ¬ A.1 (Int.toNat (290 + y)) = 1 ∧ kz_sr A.1 y from ⟨u, v⟩)] at hs
        have elo : kp_max 1 (A.1 (Int.toNat (280 + y)) - e) = kz_lo A.1 e y := by
          unfold kz_lo kp_max
          by_cases e0 : 0 < e
          · rw [if_pos (c := kz_sr A.1 y ∧ 0 < e) ⟨v, e0⟩]; repeat' split
            all_goals omega
          · rw [if_neg (c := kz_sr A.1 y ∧ 0 < e) (fun z => e0 z.2)]; split <;> omega
        have hlo : 1 ≤ kz_lo A.1 e y ∧ kz_lo A.1 e y ≤ 40 := by
          rw [← elo]; unfold kp_max; split <;> omega
        refine k_lt (k_e (c_heardInDayOf hA hH hS ⟨h0, hy⟩ c) (k_lt ?_))
        rw [e15]
        refine k_ck ⟨by decide, by omega, by omega⟩ (k_ck (by omega) (k_lt ?_))
        rw [elo]
        have f15 : ∀ a, a ≠ 15 → kp_up σ1 15 (Int.toNat y) (kz_lo A.1 e y) a = σ1 a := fun a ha => kp_up_ne ha
        have S15 : kz_Sn A 0 0 (kp_up σ1 15 (Int.toNat y) (kz_lo A.1 e y)) := z_SnF (f15 49 (by decide)) (f15 50 (by decide)) (f15 51 (by decide)) (f15 52 (by decide)) (f15 53 (by decide)) hS
        refine k_e (c_heardInDayOfL hA hH f15 S15 ⟨h0, hy⟩ z_up0e ⟨by omega, by omega⟩ c) (k_lt (k_ck (by omega) (k_lt (k_lt ?_))))
        have eback : kp_up (kp_up σ1 15 (Int.toNat y) (kz_lo A.1 e y)) 15 (Int.toNat y) (A.1 (Int.toNat (280 + y))) = σ1 := by
          funext a b
          unfold kp_up
          by_cases h : a = 15 ∧ b = Int.toNat y
          · rw [if_pos h, h.1, h.2, e15]
          · rw [if_neg h, if_neg h]
        rw [eback]
        refine ih _ _ (by omega) (by omega) (by omega) ?_
        rw [hs]
        show x + kz_dn A 0 0 0 y p - kp_sm (fun t => kz_adL A 0 0 (kz_lo A.1 e y) y p t) 40 = x + (kz_dn A 0 0 0 y p - kz_dn A 0 0 e y p)
        have : kz_dn A 0 0 e y p = kp_sm (fun t => kz_adL A 0 0 (kz_lo A.1 e y) y p t) 40 := rfl
        omega
      · rw [hgoal, hx]; congr 1; omega
  exact loop kp_fu 0 0 (by decide) (by omega) (kp_fu_big (by omega)) rfl
theorem c_knocking (hA : kz_I A) {q l : Int} (hS : kz_Sn A q l σ) {n : Int} (hn : 0 ≤ n ∧ n < A.1 0) : kf_X6_knockingOf n σ = some (kz_bs (fun t => decide (0 < kz_kn A q l n t)) 40, σ) := by
  have loop : ∀ (m : Nat) (x y : Int), 0 ≤ y → y ≤ 40 → 40 - y < m → x = kz_bs (fun t => decide (0 < kz_kn A q l n t)) y → kp_ok (kl_X6_knockingOf_5 n m x y σ (fun (x1_2 : Int) (σ2 : kp_W) => some (x1_2, σ2))) (fun r' σ' => r' = kz_bs (fun t => decide (0 < kz_kn A q l n t)) 40 ∧ σ' = σ) := by
    intro m
    induction m with
    | zero => intro x y h0 h1 h2; omega
    | succ m ih =>
      intro x y h0 h1 h2 hx
      have hb := z_bs (fun t => decide (0 < kz_kn A q l n t)) y
      have h1' := z_bs1 (fun t => decide (0 < kz_kn A q l n t)) h0
      rw [← hx] at hb h1'
      have hp := z_p10 h0 (c := 40) (by omega)
      rw [kl_X6_knockingOf_5]
      refine k_ls ⟨by omega, by omega⟩ (by decide) (fun hy => k_e (c_knocksOf hA hS hn ⟨h0, hy⟩) ?_) (fun hy => k_some ⟨?_, rfl⟩)
      · have kr := z_kn hA (q := q) (l := l) (t := y) hn
        refine k_ls (by decide) ⟨by omega, by omega⟩ (fun c => k_ck (by omega) (k_lt (k_lt (ih _ _ (by omega) (by omega) (by omega) ?_)))) (fun c => k_lt (ih _ _ (by omega) (by omega) (by omega) ?_))
        · rw [z_orL1 (by omega) hb, h1', if_pos (decide_eq_true c)]
        · rw [h1', if_neg (by simp [c]), Int.add_zero]
      · rw [hx]; congr 1; omega
  unfold kf_X6_knockingOf
  exact k_is (k_lt (k_lt (loop kp_fu 0 0 (by decide) (by decide) (kp_fu_big (by decide)) rfl)))
theorem z_bs40 (P : Int → Bool) : kz_in40 (kz_bs P 40) := z_bs P 40
theorem c_partedQ (hA : kz_I A) (hE : kz_E A σ) {n o : Int} (hn : kp_in n) (ho : kp_in o) : kp_ok (kf_X9_parted n o σ) (fun r σ' => r = (if (0 ≤ n ∧ n < A.1 0) ∧ (0 ≤ o ∧ o < A.1 0) ∧ ¬ n = o then kz_pa A n o else -9223372036854775808) ∧ kz_Fk σ σ' ∧ kz_E A σ') := by
  unfold kf_X9_parted
  refine k_e (c_has hA hE.1 hn) (k_b (fun c => k_some ⟨by rw [if_neg (fun z => c z.1)], z_Fk0, hE⟩) (fun c => k_e (c_has hA hE.1 ho) (k_b (fun d => k_some ⟨by rw [if_neg (fun z => d z.2.1)], z_Fk0, hE⟩) (fun d => k_eq hn ho (fun e => k_some ⟨by rw [if_neg (fun z => z.2.2 e)], z_Fk0, hE⟩) (fun e => c_settle hA hE (fun σ1 f1 hH h6 hS => k_e (c_knocking hA hS c) (k_e (c_knocking hA hS d) (k_some ⟨?_, f1, z_EP hH h6 hS⟩))))))))
  rw [if_pos ⟨c, d, e⟩]
  unfold kz_pa
  refine z_40e (z_40xor (z_bs40 _) (z_bs40 _)) (z_bs40 _) (fun i hi => ?_)
  rw [kz_xorL (by omega), z_bst, z_bst, z_bst]
  have : decide (i < Int.toNat 40) = true := decide_eq_true hi
  rw [this, Bool.true_and, Bool.true_and, Bool.true_and]
  by_cases c1 : 0 < kz_kn A 0 0 n i <;> by_cases c2 : 0 < kz_kn A 0 0 o i <;> simp [c1, c2]
end QD
