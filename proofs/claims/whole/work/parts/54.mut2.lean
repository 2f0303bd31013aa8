-- the reference: moved, count, as, trace, image, undo
def kz_plc (A : kz_A) (n p : Int) : kz_A := (kz_set A.1 (Int.toNat (260 + n)) p, A.2)
def kz_moF (A : kz_A) (n p k : Int) : Int := kz_da (kz_plc A n k) 0 0 0 (kz_mv (kz_plc A n k).1) p
def kz_moN (f : Int → Int) : Nat → Int × Int
  | 0 => (0, 0)
  | k + 1 => if k = 0 ∨ f k < (kz_moN f k).2 then ((k : Int), f k) else kz_moN f k
def kz_mo (f : Int → Int) (x : Int) : Int × Int := kz_moN f x.toNat
theorem z_mo1 {f : Int → Int} {x : Int} (h : 0 ≤ x) : kz_mo f (x + 1) = if x = 0 ∨ f x < (kz_mo f x).2 then (x, f x) else kz_mo f x := by
  unfold kz_mo
  rw [Int.toNat_add h (by decide)]
  show kz_moN f (x.toNat + 1) = _
  rw [kz_moN, Int.toNat_of_nonneg h]
  by_cases c : x = 0 ∨ f x < (kz_moN f x.toNat).2
  · rw [if_pos c, if_pos (c.elim (fun z => Or.inl (by omega)) Or.inr)]
  · rw [if_neg c, if_neg (fun z => c (z.elim (fun z => Or.inl (by omega)) Or.inr))]
theorem z_mor {f : Int → Int} {c x : Int} (hc : 0 ≤ c) (h : ∀ i, 0 ≤ i → i < x → 0 ≤ f i ∧ f i ≤ c) : 0 ≤ (kz_mo f x).2 ∧ (kz_mo f x).2 ≤ c := by
  unfold kz_mo
  have key : ∀ k : Nat, (k : Int) ≤ x ∨ k = 0 → 0 ≤ (kz_moN f k).2 ∧ (kz_moN f k).2 ≤ c := by
    intro k
    induction k with
    | zero => intro _; exact ⟨Int.le_refl 0, hc⟩
    | succ k ih =>
      intro hk
      have := ih (by omega)
      have := h k (by omega) (by omega)
      rw [kz_moN]
      split
      · dsimp only; omega
      · assumption
  exact key _ (by omega)
section MUT2
variable {A : kz_A} {σ : kp_W}
theorem z_Iplc (hA : kz_I A) {n p : Int} (hn : 0 ≤ n ∧ n < A.1 0) (hp : 0 ≤ p ∧ p ≤ 9) : kz_I (kz_plc A n p) := by
  have h10 := hA.1.1.1
  exact z_IW hA (by omega) (by unfold kz_okW; omega)
theorem r_moved (hA : kz_I A) (es : σ 1 = A.1) (hz : kz_Z σ) {n p : Int} (hn : kp_in n) (hp : kp_in p) : kp_ok (kf_X10_moved n p σ) (fun r σ' => r = (if (0 ≤ n ∧ n < A.1 0) ∧ 0 ≤ p ∧ p ≤ 9 then (kz_mo (kz_moF A n p) 10).1 else -1) ∧ kz_Fz σ σ') := by
  have h10 := hA.1.1.1
  unfold kf_X10_moved
  refine k_e (r_isN hA es hn) (k_b (fun c => k_some ⟨by rw [if_neg (fun z => c z.1)], z_Fz0⟩) (fun c => k_e (r_isPlace hp) (k_b (fun d => k_some ⟨by rw [if_neg (fun z => d z.2)], z_Fz0⟩) (fun d => k_ck (by omega) (k_lt (k_lt (k_lt (k_lt ?_))))))))
  rw [if_pos ⟨c, d⟩, es]
  have hr : ∀ k, 0 ≤ k → k < 10 → 0 ≤ kz_moF A n p k ∧ kz_moF A n p k ≤ 3600 := fun k k0 k1 => z_da (z_Iplc hA c ⟨k0, by omega⟩)
  have loop : ∀ (m : Nat) (b x y : Int) (σ2 : kp_W), 0 ≤ y → y ≤ 10 → 10 - y < m → (b, x) = kz_mo (kz_moF A n p) y → (∀ i, i ≠ Int.toNat (260 + n) → σ2 1 i = A.1 i) → (∀ a, a ≠ 0 → a ≠ 1 → a ≠ 3 → a ≠ 4 → a ≠ 5 → a ≠ 6 → a ≠ 7 → a ≠ 8 → σ2 a = σ a) → (∀ j, j ≠ 11 → j ≠ 12 → j ≠ 13 → σ2 0 j = σ 0 j) → kp_ok (kl_X10_moved_37 n p m b x y σ2 (fun (x4_2 : Int) (σ_4 : kp_W) => kp_ck (0 ≤ (260 + n) ∧ (260 + n) < 1066) (kp_lt (kp_up σ_4 1 (Int.toNat (260 + n)) (A.1 (Int.toNat (260 + n)))) (fun σ_5 => some (x4_2, σ_5))))) (fun r σ' => r = (kz_mo (kz_moF A n p) 10).1 ∧ kz_Fz σ σ') := by
    intro m
    induction m with
    | zero => intro b x y σ2 h0 h1 h2; omega
    | succ m ih =>
      intro b x y σ2 h0 h1 h2 hx e1 f1 f2
      have hx1 : x = (kz_mo (kz_moF A n p) y).2 := by rw [← hx]
      have hb1 : b = (kz_mo (kz_moF A n p) y).1 := by rw [← hx]
      have hxr := z_mor (f := kz_moF A n p) (c := 3600) (x := y) (by decide) (fun i i0 i1 => hr i i0 (by omega))
      rw [← hx1] at hxr
      have h1' := z_mo1 (f := kz_moF A n p) h0
      rw [kl_X10_moved_37]
      refine k_ls ⟨by omega, by omega⟩ (by decide) (fun hy => k_ck (by omega) (k_lt ?_)) (fun hy => k_ck (by omega) (k_lt (k_some ⟨?_, ⟨?_, ?_⟩⟩)))
      · have eP : kp_up σ2 1 (Int.toNat (260 + n)) y 1 = (kz_plc A n y).1 := by
          rw [z_up1]
          funext i
          show kz_set (σ2 1) (Int.toNat (260 + n)) y i = kz_set A.1 (Int.toNat (260 + n)) y i
          rw [z_set, z_set]
          by_cases hi : i = Int.toNat (260 + n)
          · rw [if_pos hi, if_pos hi]
          · rw [if_neg hi, if_neg hi]; exact e1 i hi
        have zP : kz_Z (kp_up σ2 1 (Int.toNat (260 + n)) y) := by
          unfold kz_Z
          rw [kp_up_ne (by decide), f2 16 (by decide) (by decide) (by decide), f2 17 (by decide) (by decide) (by decide), f2 18 (by decide) (by decide) (by decide)]
          exact hz
        have hP := z_Iplc hA c (p := y) ⟨h0, by omega⟩
        have hmv := z_mvr2 hP
        refine k_bd (r_go0 hP eP zP (fun σ7 g1 hG hz7 => k_e (r_moving hP hG.1) (k_e (r_heardAll hP hG hz7.2.2 (by decide) ⟨by omega, by omega⟩ d) (k_lt ?_))))
        have e7 : ∀ i, i ≠ Int.toNat (260 + n) → σ7 1 i = A.1 i := fun i hi => by
          rw [hG.1]; show kz_set A.1 (Int.toNat (260 + n)) y i = A.1 i
          rw [z_set, if_neg hi]
        have F7 : ∀ a, a ≠ 0 → a ≠ 1 → a ≠ 3 → a ≠ 4 → a ≠ 5 → a ≠ 6 → a ≠ 7 → a ≠ 8 → σ7 a = σ a := fun a a0 a1 a3 a4 a5 a6 a7 a8 => by
          rw [g1.1 a a0 a3 a4 a5 a6 a7 a8, kp_up_ne a1]; exact f1 a a0 a1 a3 a4 a5 a6 a7 a8
        have G7 : ∀ j, j ≠ 11 → j ≠ 12 → j ≠ 13 → σ7 0 j = σ 0 j := fun j j1 j2 j3 => by
          rw [g1.2 j j1 j2 j3, kp_up_ne (by decide)]; exact f2 j j1 j2 j3
        have hd : 0 ≤ kz_moF A n p y ∧ kz_moF A n p y ≤ 3600 := hr y h0 hy
        show kp_ok (kp_jn (fun (v_0 : Int) => _) _) _
        refine k_jv (if y = 0 ∨ kz_moF A n p y < x then y else b) ?_ (fun j hj => ?_)
        · refine k_lt (k_eq ⟨by omega, by omega⟩ (by decide) (fun u => k_lt (k_lt (ih _ _ _ _ (by omega) (by omega) (by omega) ?_ e7 F7 G7))) (fun u => k_ls ⟨by show -2147483648 ≤ kz_moF A n p y; omega, by show kz_moF A n p y ≤ _; omega⟩ ⟨by omega, by omega⟩ (fun v => k_lt (k_lt (ih _ _ _ _ (by omega) (by omega) (by omega) ?_ e7 F7 G7))) (fun v => k_lt (k_lt (ih _ _ _ _ (by omega) (by omega) (by omega) ?_ e7 F7 G7)))))
          · rw [h1', if_pos (Or.inl u), if_pos (Or.inl u)]; rfl
          · have v' : kz_moF A n p y < x := v
            rw [h1', ← hx1, if_pos (Or.inr v'), if_pos (Or.inr v')]; rfl
          · have v' : ¬ kz_moF A n p y < x := v
            rw [h1', ← hx1, if_neg (fun z => z.elim u v'), if_neg (fun z => z.elim u v')]; exact hx
        · refine k_jn (k_eq ⟨by omega, by omega⟩ (by decide) (fun u => ?_) (fun u => k_ls ⟨by show -2147483648 ≤ kz_moF A n p y; omega, by show kz_moF A n p y ≤ _; omega⟩ ⟨by omega, by omega⟩ (fun v => ?_) (fun v => ?_)))
          · rw [if_pos (Or.inl u)] at hj; exact hj
          · have v' : kz_moF A n p y < x := v
            rw [if_pos (Or.inr v')] at hj; exact hj
          · have v' : ¬ kz_moF A n p y < x := v
            rw [if_neg (fun z => z.elim u v')] at hj; exact hj
      · have : y = 10 := by omega
        rw [hb1, this]
      · intro a a0 a3 a4 a5 a6 a7 a8
        by_cases ha : a = 1
        · subst ha
          rw [z_up1, es]
          funext i
          rw [z_set]
          by_cases hi : i = Int.toNat (260 + n)
          · rw [if_pos hi, hi]
          · rw [if_neg hi]; exact e1 i hi
        · rw [kp_up_ne ha]; exact f1 a a0 ha a3 a4 a5 a6 a7 a8
      · intro j j1 j2 j3
        rw [kp_up_ne (by decide)]; exact f2 j j1 j2 j3
  exact loop kp_fu 0 0 0 σ (by decide) (by decide) (kp_fu_big (by decide)) rfl (fun i _ => by rw [es]) (fun _ _ _ _ _ _ _ _ _ => rfl) (fun _ _ _ _ => rfl)
theorem r_count (es : σ 1 = A.1) {w : Int} (hw : kp_in w) : kf_X10_count w σ = some (if w = 0 then A.1 0 else if w = 1 then A.1 1 else if w = 2 then A.1 2 else if w = 3 then A.1 3 else if w = 4 then σ 0 22 else -1, σ) := by
  unfold kf_X10_count
  rw [es]
  refine k_is (k_eq hw (by decide) (fun a => k_some ⟨by rw [if_pos a], rfl⟩) (fun a => k_eq hw (by decide) (fun b => k_some ⟨by rw [if_neg a, if_pos b], rfl⟩) (fun b => k_eq hw (by decide) (fun c => k_some ⟨by rw [if_neg a, if_neg b, if_pos c], rfl⟩) (fun c => k_eq hw (by decide) (fun d => k_some ⟨by rw [if_neg a, if_neg b, if_neg c, if_pos d], rfl⟩) (fun d => k_eq hw (by decide) (fun e => k_some ⟨by rw [if_neg a, if_neg b, if_neg c, if_neg d, if_pos e], rfl⟩) (fun e => k_some ⟨by rw [if_neg a, if_neg b, if_neg c, if_neg d, if_neg e], rfl⟩))))))
/-- is a kind k under another w -/
abbrev kz_un (k w : Int) : Prop := w = 0 ∨ w = k ∨ (w = 1 ∧ k = 4) ∨ (w = 2 ∧ k = 5) ∨ (w = 3 ∧ k = 6)
theorem r_isUnder {k w : Int} (hk : kp_in k) (hw : kp_in w) : kf_X10_isUnder k w σ = some (kp_b (kz_un k w), σ) := by
  unfold kf_X10_isUnder
  refine k_is (k_eq hw (by decide) (fun a => k_some ⟨(kp_bT (Or.inl a)).symm, rfl⟩) (fun a => k_eq hw hk (fun b => k_some ⟨(kp_bT (Or.inr (Or.inl b))).symm, rfl⟩) (fun b => k_jn ?_)))
  have three : ¬ (w = 1 ∧ k = 4) → ¬ (w = 2 ∧ k = 5) → kp_ok (kp_eq w 3 (kp_eq k 6 (some (1, σ)) (some (0, σ))) (some (0, σ))) (fun r' σ' => r' = kp_b (kz_un k w) ∧ σ' = σ) := fun n1 n2 => k_eq hw (by decide) (fun c => k_eq hk (by decide) (fun d => k_some ⟨(kp_bT (by unfold kz_un; omega)).symm, rfl⟩) (fun d => k_some ⟨(kp_bF (by unfold kz_un; omega)).symm, rfl⟩)) (fun c => k_some ⟨(kp_bF (by unfold kz_un; omega)).symm, rfl⟩)
  have two : ¬ (w = 1 ∧ k = 4) → kp_ok (kp_jn (fun (_ : Unit) => kp_eq w 3 (kp_eq k 6 (some (1, σ)) (some (0, σ))) (some (0, σ))) (fun j29 => kp_eq w 2 (kp_eq k 5 (some (1, σ)) (j29 ())) (j29 ()))) (fun r' σ' => r' = kp_b (kz_un k w) ∧ σ' = σ) := fun n1 => k_jn (k_eq hw (by decide) (fun c => k_eq hk (by decide) (fun d => k_some ⟨(kp_bT (by unfold kz_un; omega)).symm, rfl⟩) (fun d => three n1 (by omega))) (fun c => three n1 (by omega)))
  exact k_eq hw (by decide) (fun c => k_eq hk (by decide) (fun d => k_some ⟨(kp_bT (by unfold kz_un; omega)).symm, rfl⟩) (fun d => two (by omega))) (fun c => two (by omega))
theorem r_as (hA : kz_I A) (es : σ 1 = A.1) {n w : Int} (hn : kp_in n) (hw : kp_in w) : kf_X10_as n w σ = some (if ¬ (0 ≤ n ∧ n < A.1 0) then -1 else if ¬ (0 ≤ w ∧ w ≤ 6) then -1 else if kz_un (A.1 (Int.toNat (250 + n))) w then A.1 (Int.toNat (270 + n)) else -6, σ) := by
  have h10 := hA.1.1.1
  unfold kf_X10_as
  refine k_is (k_e (r_isN hA es hn) (k_b (fun c => k_some ⟨by rw [if_pos c], rfl⟩) (fun c => k_e (r_in hw (by decide) (by decide)) (k_b (fun d => k_some ⟨by rw [if_neg (fun z => z c), if_pos d], rfl⟩) (fun d => k_ck (by omega) ?_)))))
  rw [if_neg (fun z => z c), if_neg (fun z => z d), es]
  have hk := hA.1.2.2.2.1 n c.1 c.2
  refine k_e (r_isUnder ⟨by omega, by omega⟩ hw) (k_b (fun e => k_some ⟨by rw [if_neg e], rfl⟩) (fun e => k_ck (by omega) (k_some ⟨by rw [if_pos e, es], rfl⟩)))
theorem r_trace {a : Int} (ha : kp_in a) (hr : 0 ≤ σ 0 22 ∧ σ 0 22 ≤ 1000) : kf_X10_trace a σ = some (if 0 ≤ a ∧ a < σ 0 22 ∧ a < 20 then σ 9 (Int.toNat a) else -1, σ) := by
  unfold kf_X10_trace
  rw [kp_jls]
  refine k_is (k_ck ⟨⟨by omega, by omega⟩, by decide⟩ (k_lt (k_e (r_in ha (by decide) ⟨by split <;> omega, by split <;> omega⟩) (k_b (fun c => k_some ⟨?_, rfl⟩) (fun c => ?_)))))
  · rw [if_neg]
    intro z
    apply c
    split <;> omega
  · have : 0 ≤ a ∧ a < σ 0 22 ∧ a < 20 := by split at c <;> omega
    exact k_ck (by omega) (k_some ⟨by rw [if_pos this], rfl⟩)
theorem r_image (ht : ∀ i : Nat, 1066 ≤ i → σ 2 i = σ 1 i) : kp_ok (kf_X10_image σ) (fun r σ' => r = σ 1 0 ∧ σ' 2 = σ 1 ∧ (∀ a, a ≠ 0 → a ≠ 2 → σ' a = σ a) ∧ σ' 0 3 = 1 ∧ ∀ j, j ≠ 3 → σ' 0 j = σ 0 j) := by
  unfold kf_X10_image
  have loop : ∀ (m : Nat) (x : Int) (σ2 : kp_W), 0 ≤ x → x ≤ 1066 → 1066 - x < m → (∀ i : Nat, (i : Int) < x → σ2 2 i = σ 1 i) → (∀ i : Nat, x ≤ (i : Int) → σ2 2 i = σ 2 i) → (∀ a, a ≠ 2 → σ2 a = σ a) → kp_ok (kl_X10_image_2 m x σ2 (fun (σ_2 : kp_W) => kp_lt (kp_up σ_2 0 3 1) (fun σ_3 => some ((σ_3 1 0), σ_3)))) (fun r σ' => r = σ 1 0 ∧ σ' 2 = σ 1 ∧ (∀ a, a ≠ 0 → a ≠ 2 → σ' a = σ a) ∧ σ' 0 3 = 1 ∧ ∀ j, j ≠ 3 → σ' 0 j = σ 0 j) := by
    intro m
    induction m with
    | zero => intro x σ2 h0 h1 h2; omega
    | succ m ih =>
      intro x σ2 h0 h1 h2 e1 e2 e3
      rw [kl_X10_image_2]
      refine k_ls ⟨by omega, by omega⟩ (by decide) (fun hx => k_ck (by omega) (k_ck (by omega) (k_lt (k_lt (ih _ _ (by omega) (by omega) (by omega) ?_ ?_ ?_))))) (fun hx => k_lt (k_some ⟨?_, ?_, ?_, ?_, ?_⟩))
      · intro i hi
        rw [z_up1, z_set, e3 1 (by decide)]
        by_cases h : i = Int.toNat x
        · rw [if_pos h, h]
        · rw [if_neg h]; exact e1 i (by omega)
      · intro i hi
        rw [z_up1, z_set, if_neg (by omega)]; exact e2 i (by omega)
      · intro a ha
        rw [kp_up_ne ha]; exact e3 a ha
      · rw [kp_up_ne (by decide), e3 1 (by decide)]
      · rw [kp_up_ne (by decide)]
        funext i
        by_cases h : (i : Int) < 1066
        · exact e1 i (by omega)
        · rw [e2 i (by omega)]; exact ht i (by omega)
      · intro a a0 a2; rw [kp_up_ne a0]; exact e3 a a2
      · rw [z_up0e]
      · intro j hj; rw [z_up0 hj, e3 0 (by decide)]
  exact k_lt (loop kp_fu 0 σ (by omega) (by omega) (kp_fu_big (by omega)) (fun i hi => by omega) (fun i _ => rfl) (fun a _ => rfl))
theorem r_undo (ht : ∀ i : Nat, 1066 ≤ i → σ 2 i = σ 1 i) (h3 : kp_in (σ 0 3)) : kp_ok (kf_X10_undo σ) (fun r σ' => (if σ 0 3 = 0 then r = -3 ∧ σ' = σ else r = σ 2 0 ∧ σ' 1 = σ 2 ∧ ∀ a, a ≠ 1 → σ' a = σ a)) := by
  unfold kf_X10_undo
  refine k_eq h3 (by decide) (fun c => k_some (by rw [if_pos c]; exact ⟨rfl, rfl⟩)) (fun c => k_lt ?_)
  simp only [if_neg c]
  have loop : ∀ (m : Nat) (x : Int) (σ2 : kp_W), 0 ≤ x → x ≤ 1066 → 1066 - x < m → (∀ i : Nat, (i : Int) < x → σ2 1 i = σ 2 i) → (∀ i : Nat, x ≤ (i : Int) → σ2 1 i = σ 1 i) → (∀ a, a ≠ 1 → σ2 a = σ a) → kp_ok (kl_X10_undo_12 m x σ2 (fun (σ_2 : kp_W) => some ((σ_2 1 0), σ_2))) (fun r σ' => r = σ 2 0 ∧ σ' 1 = σ 2 ∧ ∀ a, a ≠ 1 → σ' a = σ a) := by
    intro m
    induction m with
    | zero => intro x σ2 h0 h1 h2; omega
    | succ m ih =>
      intro x σ2 h0 h1 h2 e1 e2 e3
      rw [kl_X10_undo_12]
      have hfin : x = 1066 → σ2 1 = σ 2 := by
        intro hx
        funext i
        by_cases h : (i : Int) < 1066
        · exact e1 i (by omega)
        · rw [e2 i (by omega)]; exact (ht i (by omega)).symm
      refine k_ls ⟨by omega, by omega⟩ (by decide) (fun hx => k_ck (by omega) (k_ck (by omega) (k_lt (k_lt (ih _ _ (by omega) (by omega) (by omega) ?_ ?_ ?_))))) (fun hx => k_some ⟨?_, ?_, e3⟩)
      · intro i hi
        rw [z_up1, z_set, e3 2 (by decide)]
        by_cases h : i = Int.toNat x
        · rw [if_pos h, h]
        · rw [if_neg h]; exact e1 i (by omega)
      · intro i hi
        rw [z_up1, z_set, if_neg (by omega)]; exact e2 i (by omega)
      · intro a ha
        rw [kp_up_ne ha]; exact e3 a ha
      · rw [hfin (by omega)]
      · exact hfin (by omega)
  exact loop kp_fu 0 σ (by omega) (by omega) (kp_fu_big (by omega)) (fun i hi => by omega) (fun i _ => rfl) (fun a _ => rfl)
end MUT2
