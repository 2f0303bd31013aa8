-- the class's questions: quiet, moved, older
section QE
variable {A : kz_A} {σ : kp_W}
theorem z_exI {f : Int → Bool} : ∀ {k : Nat}, (kz_exN f k = true ↔ ∃ i : Int, 0 ≤ i ∧ i < k ∧ f i = true)
  | 0 => ⟨fun h => (by cases h), fun ⟨i, h0, h1, _⟩ => (by omega)⟩
  | k + 1 => by
    rw [kz_exN, Bool.or_eq_true, z_exI (k := k)]
    constructor
    · rintro (⟨i, h0, h1, h2⟩ | h)
      · exact ⟨i, h0, by omega, h2⟩
      · exact ⟨k, by omega, by omega, h⟩
    · rintro ⟨i, h0, h1, h2⟩
      by_cases e : i = k
      · subst e; exact Or.inr h2
      · exact Or.inl ⟨i, h0, by omega, h2⟩
theorem z_bsE {P : Int → Bool} {x : Int} : ¬ kz_bs P x = 0 ↔ ∃ i, 0 ≤ i ∧ i < x ∧ P i = true := by
  constructor
  · intro h
    apply Classical.byContradiction
    intro hno
    apply h
    refine z_bsNo (fun i i0 i1 => ?_)
    cases e : P i
    · rfl
    · exact absurd ⟨i, i0, i1, e⟩ hno
  · rintro ⟨i, i0, i1, e⟩ h
    have hb := z_bsd (P := P) i0 i1
    rw [h, if_pos e, Int.zero_ediv] at hb
    exact absurd hb (by decide)
theorem z_FkR {b σ : kp_W} {x : Int} (f : kz_Fk b σ) : kz_Fk b (kp_up σ 0 6 x) := ⟨fun a a0 a1 a2 a3 a4 a5 a6 a7 => by rw [kp_up_ne a0]; exact f.1 a a0 a1 a2 a3 a4 a5 a6 a7, fun j hj => by rw [z_up0 hj]; exact f.2 j hj⟩
theorem z_ER {x : Int} (h : kz_H A σ) (hx : x = 0) : kz_E A (kp_up σ 0 6 x) := ⟨z_RhF (fun a h1 h2 => kp_up_ne (by omega)) h, Or.inl (by rw [z_up0e]; exact hx), fun z => by rw [z_up0e, hx] at z; exact absurd z (by decide)⟩
theorem z_FkW {b σ σ' : kp_W} (f : kz_Fk b σ) (g : ∀ a, a ≠ 49 → a ≠ 52 → σ' a = σ a) : kz_Fk b σ' := ⟨fun a a0 a1 a2 a3 a4 a5 a6 a7 => by rw [g a a1 a4]; exact f.1 a a0 a1 a2 a3 a4 a5 a6 a7, fun j hj => by rw [g 0 (by decide) (by decide)]; exact f.2 j hj⟩
theorem z_HW {σ' : kp_W} (h : kz_H A σ) (g : ∀ a, a ≠ 49 → a ≠ 52 → σ' a = σ a) : kz_H A σ' := z_RhF (fun a h1 h2 => g a (by omega) (by omega)) h
theorem c_quietQ (hA : kz_I A) (hE : kz_E A σ) {w : Int} (hw : kp_in w) : kp_ok (kf_X9_quiet w σ) (fun r σ' => r = (if 0 ≤ w ∧ w ≤ 1 then (if w = 1 then kz_qu A else if kz_qu A = 0 then 1 else 0) else -1) ∧ kz_Fk σ σ' ∧ kz_E A σ') := by
  have h10 := hA.1.1.1
  unfold kf_X9_quiet
  have none : ∀ w' : Int, kz_Bt A.1 1 0 w' 0 := fun w' => ⟨z_400, fun t t0 t1 => by
    rw [kz_0]
    exact (decide_eq_false (fun z => absurd z.1 (by decide))).symm⟩
  refine k_ls hw (by decide) (fun c => k_some ⟨by rw [if_neg (by omega)], z_Fk0, hE⟩) (fun c => k_ls (by decide) hw (fun d => k_some ⟨by rw [if_neg (by omega)], z_Fk0, hE⟩) (fun d => c_settle hA hE (fun σ1 f1 hH h6 hS => c_ring (q := 1) (l := 0) hA hH (none 0) (none 1) (none 2) hS.2.1 (fun σ2 f2 hS2 => k_lt (k_lt ?_)))))
  rw [if_pos (by omega)]
  have F2 := z_FkW f1 f2
  have hH2 := z_HW hH f2
  have loop : ∀ (m : Nat) (x y : Int), 0 ≤ y → y ≤ A.1 0 → A.1 0 - y < m → x = kz_bs (fun n => kz_gn A 1 n) y → kp_ok (kl_X9_quiet_26 m x y σ2 (fun (x2_2 : Int) (σ_4 : kp_W) => kp_lt (kp_up σ_4 0 6 0) (fun σ_5 => kp_eq w 1 (some (x2_2, σ_5)) (kp_eq x2_2 0 (some (1, σ_5)) (some (0, σ_5)))))) (fun r σ' => r = (if w = 1 then kz_qu A else if kz_qu A = 0 then 1 else 0) ∧ kz_Fk σ σ' ∧ kz_E A σ') := by
    intro m
    induction m with
    | zero => intro x y h0 h1 h2; omega
    | succ m ih =>
      intro x y h0 h1 h2 hx
      have hb := z_bs (fun n => kz_gn A 1 n) y
      have h1' := z_bs1 (fun n => kz_gn A 1 n) h0
      rw [← hx] at hb h1'
      have hp := z_p10 h0 (c := 10) (by omega)
      have hgn : kz_gn A 1 y = true ↔ ∃ i : Int, 0 ≤ i ∧ i < ((40 : Nat) : Int) ∧ decide (¬ A.1 (Int.toNat (290 + y)) = 1 ∧ 0 < kz_kn A 1 0 y i) = true := z_exI
      rw [kl_X9_quiet_26, show σ2 11 5 = A.1 0 from hH2.2.2.2.2.2.2.1.1]
      refine k_ls ⟨by omega, by omega⟩ ⟨by omega, by omega⟩ (fun hy => k_e (c_isLoose hA hH2 ⟨h0, hy⟩) (k_b (fun u => k_lt (ih _ _ (by omega) (by omega) (by omega) ?_)) (fun u => k_e (c_knocking hA hS2 ⟨h0, hy⟩) (k_ck ⟨z_40L (z_bs40 _), by decide⟩ (k_eq z_cmpin (by decide) (fun v => k_lt (ih _ _ (by omega) (by omega) (by omega) ?_)) (fun v => k_ck (by omega) (k_lt (k_lt (ih _ _ (by omega) (by omega) (by omega) ?_))))))))) (fun hy => k_lt ?_)
      · rw [h1', if_neg, Int.add_zero]
        intro z
        obtain ⟨i, _, _, h⟩ := hgn.mp z
        exact u (of_decide_eq_true h).1
      · rw [h1', if_neg, Int.add_zero]
        intro z
        obtain ⟨i, i0, i1, h⟩ := hgn.mp z
        exact (z_bsE.mpr ⟨i, i0, by omega, decide_eq_true (of_decide_eq_true h).2⟩) (z_cmp0.mp v)
      · rw [z_or1 (by omega) hb, h1', if_pos]
        obtain ⟨i, i0, i1, h⟩ := z_bsE.mp (fun z => v (z_cmp0.mpr z))
        exact hgn.mpr ⟨i, i0, by omega, decide_eq_true ⟨u, of_decide_eq_true h⟩⟩
      · have : x = kz_qu A := by rw [hx]; unfold kz_qu; congr 1; omega
        rw [← this]
        refine k_eq hw (by decide) (fun u => k_some ⟨by rw [if_pos u], z_FkR F2, z_ER hH2 rfl⟩) (fun u => k_eq ⟨by omega, by omega⟩ (by decide) (fun v => k_some ⟨by rw [if_neg u, if_pos v], z_FkR F2, z_ER hH2 rfl⟩) (fun v => k_some ⟨by rw [if_neg u, if_neg v], z_FkR F2, z_ER hH2 rfl⟩))
  exact loop kp_fu 0 0 (by decide) (by omega) (kp_fu_big (by omega)) rfl
theorem z_pcbs {P : Int → Bool} {x : Int} (hx : 0 ≤ x ∧ x ≤ 12) : kz_pc (kz_bs P x) = kp_sm (fun r => if P r = true then 1 else 0) x := by
  unfold kz_pc
  have e : kp_sm (fun k => kz_bs P x / 2 ^ (Int.toNat k) % 2) 12 = kp_sm (fun k => if k < x ∧ P k = true then 1 else 0) 12 := by
    refine kp_sm_cong (fun i i0 i1 => ?_)
    by_cases c : i < x
    · rw [z_bsd i0 c]
      by_cases d : P i = true
      · rw [if_pos d, if_pos ⟨c, d⟩]
      · rw [if_neg d, if_neg (fun z => d z.2)]
    · rw [if_neg (fun z => c z.1)]
      exact z_bit0.mpr (kz_big (z_bs P x) (by omega))
  rw [e]
  unfold kp_sm
  have key : ∀ m : Nat, kp_smN (fun k => if k < x ∧ P k = true then (1 : Int) else 0) m = kp_smN (fun r => if P r = true then 1 else 0) (min m x.toNat) := by
    intro m
    induction m with
    | zero => rw [Nat.zero_min]; rfl
    | succ m ih =>
      rw [kp_smN, ih]
      by_cases c : (m : Int) < x
      · rw [Nat.min_eq_left (by omega), Nat.min_eq_left (by omega), kp_smN]
        congr 1
        by_cases d : P (m : Int) = true
        · rw [if_pos ⟨c, d⟩, if_pos d]
        · rw [if_neg (fun z => d z.2), if_neg d]
      · rw [Nat.min_eq_right (by omega), Nat.min_eq_right (by omega), if_neg (fun z => c z.1), Int.add_zero]
  have h12 : min (Int.toNat 12) x.toNat = x.toNat := by
    have : Int.toNat 12 = 12 := rfl
    omega
  rw [key, h12]
theorem c_rowsHeard (hA : kz_I A) {l : Int} (hH : kz_H A σ) (hS : kz_Sn A 0 l σ) : kf_X9_rowsHeard σ = some (kz_pc (kz_ft A 0 l (kz_mv A.1)), σ) := by
  have h12 := hA.1.1.2.2.1
  have hB : kz_Rb 16 A.1 σ := hH.2.2.2.2.2.2.2
  have loop : ∀ (m : Nat) (x y : Int), 0 ≤ y → y ≤ A.1 2 → A.1 2 - y < m → x = kp_sm (fun r => if decide (kz_he A 0 l 0 (kz_mv A.1) (A.1 (Int.toNat (300 + r))) (A.1 (Int.toNat (312 + r))) = A.1 (Int.toNat (324 + r))) = true then 1 else 0) y → kp_ok (kl_X9_rowsHeard_4 m x y σ (fun (x1_2 : Int) (σ2 : kp_W) => some (x1_2, σ2))) (fun r' σ' => r' = kz_pc (kz_ft A 0 l (kz_mv A.1)) ∧ σ' = σ) := by
    intro m
    induction m with
    | zero => intro x y h0 h1 h2; omega
    | succ m ih =>
      intro x y h0 h1 h2 hx
      have hs := kp_sm1 (fun r => if decide (kz_he A 0 l 0 (kz_mv A.1) (A.1 (Int.toNat (300 + r))) (A.1 (Int.toNat (312 + r))) = A.1 (Int.toNat (324 + r))) = true then 1 else 0) h0
      rw [← hx] at hs
      rw [kl_X9_rowsHeard_4, show σ 16 3 = A.1 2 from hB.1]
      refine k_ls ⟨by omega, by omega⟩ ⟨by omega, by omega⟩ (fun hy => k_ck (by omega) (k_ck (by omega) ?_)) (fun hy => k_some ⟨?_, rfl⟩)
      · obtain ⟨e17, e18, e19⟩ := hB.2 y h0 hy
        have hr := hA.1.2.2.2.2.1 y h0 hy
        have hh := z_he hA (q := 0) (l := l) (e := 0) (z := kz_mv A.1) (p := A.1 (Int.toNat (300 + y))) (t := A.1 (Int.toNat (312 + y)))
        rw [show σ 17 (Int.toNat y) = _ from e17, show σ 18 (Int.toNat y) = _ from e18]
        refine k_e (c_heardAt hA hH hS hr.1 ⟨by omega, by omega⟩) (k_ck (by omega) ?_)
        rw [show σ 19 (Int.toNat y) = _ from e19]
        refine k_eq ⟨by omega, by omega⟩ ⟨by omega, by omega⟩ (fun c => k_lt (k_lt (ih _ _ (by omega) (by omega) (by omega) ?_))) (fun c => k_lt (ih _ _ (by omega) (by omega) (by omega) ?_))
        · simp only [if_pos (decide_eq_true c)] at hs; exact hs.symm
        · simp only [if_neg (show ¬ decide (kz_he A 0 l 0 (kz_mv A.1) (A.1 (Int.toNat (300 + y))) (A.1 (Int.toNat (312 + y))) = A.1 (Int.toNat (324 + y))) = true from fun z => c (of_decide_eq_true z)), Int.add_zero] at hs; exact hs.symm
      · have : y = A.1 2 := by omega
        unfold kz_ft
        rw [z_pcbs h12, hx, this]
  unfold kf_X9_rowsHeard
  exact k_is (k_lt (k_lt (loop kp_fu 0 0 (by decide) (by omega) (kp_fu_big (by omega)) rfl)))
theorem c_olderQ (hA : kz_I A) (hE : kz_E A σ) : kp_ok (kf_X9_older σ) (fun r σ' => r = kz_ol A 40 ∧ kz_Fk σ σ' ∧ kz_E A σ') := by
  unfold kf_X9_older
  refine c_settle hA hE (fun σ1 f1 hH h6 hS => k_e (c_rowsHeard hA hH hS) (k_lt (k_lt ?_)))
  have pcr : ∀ l, 0 ≤ kz_pc (kz_ft A 0 l (kz_mv A.1)) ∧ kz_pc (kz_ft A 0 l (kz_mv A.1)) ≤ 12 := fun l => z_pc
  have loop : ∀ (m : Nat) (y : Int) (σ2 : kp_W), 0 ≤ y → y ≤ 40 → y < m → kz_ol A 40 = kz_ol A y → kz_Fk σ σ2 → kz_H A σ2 → (∀ i, 0 ≤ i → i < A.1 0 → kz_Sr A i σ2) → kp_ok (kl_X9_older_12 (kz_pc (kz_ft A 0 0 (kz_mv A.1))) m y σ2 (fun (x2_2 : Int) (σ_4 : kp_W) => kp_lt (kp_up σ_4 0 6 0) (fun σ_5 => some (x2_2, σ_5)))) (fun r σ' => r = kz_ol A 40 ∧ kz_Fk σ σ' ∧ kz_E A σ') := by
    intro m
    induction m with
    | zero => intro y σ2 h0 h1 h2; omega
    | succ m ih =>
      intro y σ2 h0 h1 h2 hol hF hH2 hR
      rw [kl_X9_older_12]
      refine k_ls (by decide) ⟨by omega, by omega⟩ (fun hy => k_ck (by omega) ?_) (fun hy => k_lt (k_some ⟨?_, z_FkR hF, z_ER hH2 rfl⟩))
      · have b0 := z_Bt0 hA (b := 2) (w := 0) (σ := σ2) (by decide) hH2.2.1
        have b1 := z_Bt0 hA (b := 2) (w := 1) (σ := σ2) (by decide) hH2.2.1
        have b2 := z_Bt0 hA (b := 2) (w := 2) (σ := σ2) (by decide) hH2.2.1
        have bl : kz_Bt A.1 0 y 0 (kp_andL ((σ2 2 0) * 2 ^ (Int.toNat y)) 1099511627775) := by
          refine ⟨z_40and (Or.inr z_40M), fun t t0 t1 => ?_⟩
          rw [kz_andL (by omega), z_M, decide_eq_true (by omega : Int.toNat t < 40), Bool.and_true, kz_shl]
          by_cases c : y ≤ t
          · have hb := b0.2 (t - y) (by omega) (by omega)
            rw [decide_eq_true (by omega), Bool.true_and, show Int.toNat t - Int.toNat y = Int.toNat (t - y) by omega]
            refine Eq.trans hb ?_
            congr 1
            unfold kz_on
            rw [if_pos rfl, if_pos rfl, Int.sub_zero]
          · rw [decide_eq_false (by omega), Bool.false_and]
            exact (decide_eq_false (fun z => by
              have := z.2.1
              rw [if_pos rfl] at this
              omega)).symm
        have bo : ∀ (w x : Int), ¬ w = 0 → kz_Bt A.1 0 0 w x → kz_Bt A.1 0 y w x := by
          intro w x hw hb
          refine ⟨hb.1, fun t t0 t1 => ?_⟩
          rw [hb.2 t t0 t1]
          congr 1
          unfold kz_on
          rw [if_neg hw, if_neg hw]
        refine c_ring (q := 0) (l := y) hA hH2 bl (bo 1 _ (by decide) b1) (bo 2 _ (by decide) b2) hR (fun σ3 f3 hS3 => k_e (c_rowsHeard hA (z_HW hH2 f3) hS3) ?_)
        have h1' := z_ol1 (A := A) (x := y - 1) (by omega)
        rw [show y - 1 + 1 = y by omega] at h1'
        have p1 := pcr y
        have p0 := pcr 0
        refine k_ls ⟨by omega, by omega⟩ ⟨by omega, by omega⟩ (fun c => k_lt (ih _ _ (by omega) (by omega) (by omega) ?_ (z_FkW hF f3) (z_HW hH2 f3) hS3.2.1)) (fun c => k_lt (k_some ⟨?_, z_FkR (z_FkW hF f3), z_ER (z_HW hH2 f3) rfl⟩))
        · rw [hol, h1', if_pos c]; rfl
        · rw [hol, h1', if_neg c]
      · have : y = 0 := by omega
        rw [hol, this]; rfl
  exact loop kp_fu 40 σ1 (by decide) (by decide) (by rw [kp_fu_eq]; decide) rfl f1 hH hS.2.1
theorem z_mvP {n k : Int} (hA : kz_I A) (hn : 0 ≤ n ∧ n < A.1 0) : kz_mv (kz_plc A n k).1 = kz_mv A.1 := by
  have h10 := hA.1.1.1
  have e0 : (kz_plc A n k).1 0 = A.1 0 := z_setN (by omega) (by omega)
  unfold kz_mv
  rw [e0]
  refine z_bs_cong (fun i i0 i1 => ?_)
  have : (kz_plc A n k).1 (Int.toNat (290 + i)) = A.1 (Int.toNat (290 + i)) := by
    show kz_set A.1 (Int.toNat (260 + n)) k (Int.toNat (290 + i)) = _
    rw [z_setI (by omega) (by omega), if_neg (by omega)]
  rw [this]
theorem z_moC (hA : kz_I A) {n p k : Int} (hn : 0 ≤ n ∧ n < A.1 0) : kz_moF A n p k = kp_sm (fun i => if kz_mv A.1 / 2 ^ (Int.toNat i) % 2 = 1 ∧ ¬ i = n then kz_dn A 0 0 0 i p else 0) (A.1 0) + (if A.1 (Int.toNat (290 + n)) = 1 then 0 else kz_dn (kz_plc A n k) 0 0 0 n p) := by
  have h10 := hA.1.1.1
  have e0 : (kz_plc A n k).1 0 = A.1 0 := z_setN (by omega) (by omega)
  have hag : kz_ag A.1 (kz_plc A n k).1 := ⟨z_setN (by omega) (by omega), fun i i0 i1 => by
    show kz_set A.1 (Int.toNat (260 + n)) k (Int.toNat i) = _
    rw [z_setI (by omega) (by omega), if_neg (by omega)]⟩
  have hao : ∀ o, 0 ≤ o → o < A.1 0 → ¬ o = n → kz_ao A.1 (kz_plc A n k).1 o := fun o o0 o1 hne => by
    refine ⟨?_, ?_, ?_, ?_⟩
    · show kz_set A.1 (Int.toNat (260 + n)) k (Int.toNat (250 + o)) = _
      rw [z_setI (by omega) (by omega), if_neg (by omega)]
    · show kz_set A.1 (Int.toNat (260 + n)) k (Int.toNat (260 + o)) = _
      rw [z_setI (by omega) (by omega), if_neg (by omega)]
    · show kz_set A.1 (Int.toNat (260 + n)) k (Int.toNat (270 + o)) = _
      rw [z_setI (by omega) (by omega), if_neg (by omega)]
    · show kz_set A.1 (Int.toNat (260 + n)) k (Int.toNat (280 + o)) = _
      rw [z_setI (by omega) (by omega), if_neg (by omega)]
  unfold kz_moF
  rw [z_mvP hA hn, z_daD, e0]
  unfold kp_sm
  have key : ∀ m : Nat, (m : Int) ≤ A.1 0 → kp_smN (fun i => if kz_mv A.1 / 2 ^ (Int.toNat i) % 2 = 1 then kz_dn (kz_plc A n k) 0 0 0 i p else 0) m = kp_smN (fun i => if kz_mv A.1 / 2 ^ (Int.toNat i) % 2 = 1 ∧ ¬ i = n then kz_dn A 0 0 0 i p else 0) m + (if n < m then (if A.1 (Int.toNat (290 + n)) = 1 then 0 else kz_dn (kz_plc A n k) 0 0 0 n p) else 0) := by
    intro m
    induction m with
    | zero => intro _; rw [if_neg (by omega)]; rfl
    | succ m ih =>
      intro hm
      rw [kp_smN, kp_smN, ih (by omega)]
      by_cases e : n = m
      · subst e
        rw [if_neg (c := (m : Int) < (m : Int)) (by omega), if_pos (c := (m : Int) < ((m + 1 : Nat) : Int)) (by omega), z_mvb hA hn, if_neg (c := (if ¬ A.1 (Int.toNat (290 + (m : Int))) = 1 then (1 : Int) else 0) = 1 ∧ ¬ (m : Int) = (m : Int)) (fun z => z.2 rfl)]
        by_cases c : A.1 (Int.toNat (290 + (m : Int))) = 1
        · rw [if_neg (c := ¬ A.1 (Int.toNat (290 + (m : Int))) = 1) (fun z => z c), if_neg (by decide), if_pos c]
        · rw [if_pos (c := ¬ A.1 (Int.toNat (290 + (m : Int))) = 1) c, if_pos rfl, if_neg c]
      · have hd : kz_dn (kz_plc A n k) 0 0 0 (m : Int) p = kz_dn A 0 0 0 (m : Int) p := z_agdn (s := A.1) (s' := (kz_plc A n k).1) (cls := A.2) hA.1.1.2.2.2.2.1 hag (hao m (by omega) (by omega) (fun z => e z.symm)) (by decide)
        rw [hd]
        by_cases c : kz_mv A.1 / 2 ^ (Int.toNat (m : Int)) % 2 = 1
        · rw [if_pos c, if_pos (c := kz_mv A.1 / 2 ^ (Int.toNat (m : Int)) % 2 = 1 ∧ ¬ (m : Int) = n) ⟨c, fun z => e z.symm⟩]
          by_cases d : n < m
          · rw [if_pos d, if_pos (c := n < ((m + 1 : Nat) : Int)) (by omega)]; omega
          · rw [if_neg d, if_neg (c := n < ((m + 1 : Nat) : Int)) (by omega)]; omega
        · rw [if_neg c, if_neg (c := kz_mv A.1 / 2 ^ (Int.toNat (m : Int)) % 2 = 1 ∧ ¬ (m : Int) = n) (fun z => c z.1)]
          by_cases d : n < m
          · rw [if_pos d, if_pos (c := n < ((m + 1 : Nat) : Int)) (by omega)]; omega
          · rw [if_neg d, if_neg (c := n < ((m + 1 : Nat) : Int)) (by omega)]
  rw [key _ (by omega), if_pos (c := n < ((Int.toNat (A.1 0) : Nat) : Int)) (by omega)]
theorem z_moMin {f g : Int → Int} {C : Int} : ∀ {k : Nat}, (∀ i : Int, 0 ≤ i → i < k → f i = C + g i) → (kz_moN f k).1 = (kz_moN g k).1 ∧ (0 < k → (kz_moN f k).2 = C + (kz_moN g k).2)
  | 0, _ => ⟨rfl, fun h => absurd h (by decide)⟩
  | k + 1, h => by
    obtain ⟨h1, h2⟩ := z_moMin (f := f) (g := g) (C := C) (k := k) (fun i h0 h1 => h i h0 (by omega))
    have hk := h k (by omega) (by omega)
    rw [kz_moN, kz_moN]
    by_cases c : k = 0
    · rw [if_pos (Or.inl c), if_pos (Or.inl c)]
      exact ⟨rfl, fun _ => hk⟩
    · have h3 := h2 (by omega)
      by_cases d : g k < (kz_moN g k).2
      · rw [if_pos (Or.inr (by omega)), if_pos (Or.inr d)]
        exact ⟨rfl, fun _ => hk⟩
      · rw [if_neg (fun z => z.elim c (fun z => by omega)), if_neg (fun z => z.elim c d)]
        exact ⟨h1, fun _ => h3⟩
theorem z_moZ : ∀ {k : Nat}, (kz_moN (fun _ => 0) k).1 = 0 ∧ (kz_moN (fun _ => 0) k).2 = 0
  | 0 => ⟨rfl, rfl⟩
  | k + 1 => by
    obtain ⟨h1, h2⟩ := z_moZ (k := k)
    rw [kz_moN]
    by_cases c : k = 0
    · rw [if_pos (Or.inl c), c]; exact ⟨rfl, rfl⟩
    · rw [if_neg (fun z => z.elim c (fun z => by rw [h2] at z; exact absurd z (by decide)))]; exact ⟨h1, h2⟩
/-- the class with one noise put somewhere else -/
theorem z_Hplc (hA : kz_I A) {n k : Int} (hn : 0 ≤ n ∧ n < A.1 0) (hH : kz_H A σ) {τ : kp_W} (e13 : ∀ j, τ 13 j = if j = Int.toNat n then k else σ 13 j) (e : ∀ a, 1 ≤ a → a ≤ 19 → a ≠ 13 → τ a = σ a) : kz_H (kz_plc A n k) τ := by
  have h10 := hA.1.1.1
  obtain ⟨h1, h2, h3, h4, h5, h6, h7, h8⟩ := hH
  have es : ∀ i : Int, 0 ≤ i → ¬ i = 260 + n → (kz_plc A n k).1 (Int.toNat i) = A.1 (Int.toNat i) := fun i i0 hi => by
    show kz_set A.1 (Int.toNat (260 + n)) k (Int.toNat i) = _
    rw [z_setI (by omega) i0, if_neg hi]
  have el : ∀ i : Nat, i < 5 → (kz_plc A n k).1 i = A.1 i := fun i hi => z_setN (by omega) (by omega)
  have hag : kz_ag A.1 (kz_plc A n k).1 := ⟨el 4 (by decide), fun i i0 i1 => es i (by omega) (by omega)⟩
  refine ⟨?_, ?_, ?_, ?_, z_RcF (fun a q1 q2 => e a (by omega) (by omega) (by omega)) h5, ?_, ?_, ?_⟩
  · rw [e 1 (by decide) (by decide) (by decide), el 1 (by decide)]; exact h1
  · unfold kz_Rd
    rw [e (1 + 1) (by decide) (by decide) (by decide)]
    intro w w0 w1
    refine ⟨(h2 w w0 w1).1, fun t t0 t1 => ?_⟩
    rw [es _ (by omega) (by omega)]; exact (h2 w w0 w1).2 t t0 t1
  · unfold kz_Rt
    rw [e (1 + 2) (by decide) (by decide) (by decide), e (1 + 2 + 1) (by decide) (by decide) (by decide), el 3 (by decide)]
    have hs3 := hA.1.1.2.2.2.1
    exact ⟨h3.1, fun i i0 i1 => by rw [es _ (by omega) (by omega)]; exact h3.2 i i0 i1⟩
  · unfold kz_Ru
    rw [e (1 + 5) (by decide) (by decide) (by decide)]
    intro j j0 j1
    rw [z_agtl hA.1.1.2.2.2.2.1 hag j0]; exact h4 j j0 j1
  · unfold kz_Rg; rw [e (1 + 4) (by decide) (by decide) (by decide)]; exact h6
  · unfold kz_Rn
    rw [e (1 + 10) (by decide) (by decide) (by decide), e (1 + 10 + 1) (by decide) (by decide) (by decide), e (1 + 10 + 3) (by decide) (by decide) (by decide), e (1 + 10 + 4) (by decide) (by decide) (by decide), el 0 (by decide)]
    refine ⟨h7.1, h7.2.1, fun o o0 o1 => ?_⟩
    obtain ⟨g1, g2, g3, g4, g5⟩ := h7.2.2 o o0 o1
    rw [es (290 + o) (by omega) (by omega), es (250 + o) (by omega) (by omega), es (270 + o) (by omega) (by omega), es (280 + o) (by omega) (by omega)]
    refine ⟨g1, g2, ?_, g4, g5⟩
    show τ 13 (Int.toNat o) = kz_set A.1 (Int.toNat (260 + n)) k (Int.toNat (260 + o))
    rw [e13, z_setI (by omega) (by omega)]
    by_cases c : o = n
    · rw [if_pos (by rw [c]), if_pos (by rw [c])]
    · rw [if_neg (by omega), if_neg (by omega)]; exact g3
  · unfold kz_Rb
    rw [e (1 + 15) (by decide) (by decide) (by decide), e (1 + 15 + 1) (by decide) (by decide) (by decide), e (1 + 15 + 2) (by decide) (by decide) (by decide), e (1 + 15 + 3) (by decide) (by decide) (by decide), el 2 (by decide)]
    have hs2 := hA.1.1.2.2.1
    refine ⟨h8.1, fun r r0 r1 => ?_⟩
    rw [es (300 + r) (by omega) (by omega), es (312 + r) (by omega) (by omega), es (324 + r) (by omega) (by omega)]
    exact h8.2 r r0 r1
end QE
