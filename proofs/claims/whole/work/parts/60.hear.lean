-- the class: what is heard
def kz_ldL (s : Nat → Int) (q l lo n p t : Int) : Int :=
  let m := if (if 0 < kz_w s q l (t + 1) ∨ kz_sr s n then lo - 5 - kz_tl s 2 * kp_abs (p - s (Int.toNat (260 + n))) else 0) < lo - kz_tl s 3 * kp_abs (p - s (Int.toNat (260 + n))) then lo - kz_tl s 3 * kp_abs (p - s (Int.toNat (260 + n))) else (if 0 < kz_w s q l (t + 1) ∨ kz_sr s n then lo - 5 - kz_tl s 2 * kp_abs (p - s (Int.toNat (260 + n))) else 0)
  if m < 0 then 0 else m
def kz_adL (A : kz_A) (q l lo n p t : Int) : Int := if 0 < kz_kn A q l n t ∧ kz_tl A.1 4 ≤ kz_ldL A.1 q l lo n p t then kz_kn A q l n t else 0
theorem z_ldL {s : Nat → Int} {q l e n p t : Int} : kz_ld s q l e n p t = kz_ldL s q l (kz_lo s e n) n p t := rfl
theorem z_adL {A : kz_A} {q l e n p t : Int} : kz_ad A q l e n p t = kz_adL A q l (kz_lo A.1 e n) n p t := rfl
theorem z_lo0 {s : Nat → Int} {n : Int} : kz_lo s 0 n = s (Int.toNat (280 + n)) := by unfold kz_lo; rw [if_neg (fun z => by omega)]
theorem z_absC {a b : Int} : kp_abs (a - b) = kp_abs (b - a) := by
  unfold kp_abs; repeat' split
  all_goals omega
section HEAR
variable {A : kz_A} {q l : Int} {σ : kp_W} {Q : Int → kp_W → Prop}
theorem c_has (hA : kz_I A) (hH : kz_H A σ) {n : Int} (hn : kp_in n) : kf_X3_has n σ = some (kp_b (0 ≤ n ∧ n < A.1 0), σ) := by
  have h10 := hA.1.1.1
  unfold kf_X3_has
  rw [show σ 11 5 = A.1 0 from hH.2.2.2.2.2.2.1.1]
  exact k_is (k_ls hn (by decide) (fun c => k_some ⟨(kp_bF (by omega)).symm, rfl⟩) (fun c => k_ls hn ⟨by omega, by omega⟩ (fun d => k_some ⟨(kp_bT (by omega)).symm, rfl⟩) (fun d => k_some ⟨(kp_bF (by omega)).symm, rfl⟩)))
theorem c_isKind {n : Int} (hn : kp_in n) : kf_X9_isKind n σ = some (kp_b (0 ≤ n ∧ n ≤ 6), σ) := by
  unfold kf_X9_isKind
  exact k_is (k_ls hn (by decide) (fun c => k_some ⟨(kp_bF (by omega)).symm, rfl⟩) (fun c => k_ls hn (by decide) (fun d => k_some ⟨(kp_bT (by omega)).symm, rfl⟩) (fun d => k_some ⟨(kp_bF (by omega)).symm, rfl⟩)))
theorem c_isPlace {n : Int} (hn : kp_in n) : kf_X9_isPlace n σ = some (kp_b (0 ≤ n ∧ n ≤ 9), σ) := by
  unfold kf_X9_isPlace
  exact k_is (k_ls hn (by decide) (fun c => k_some ⟨(kp_bF (by omega)).symm, rfl⟩) (fun c => k_ls hn (by decide) (fun d => k_some ⟨(kp_bT (by omega)).symm, rfl⟩) (fun d => k_some ⟨(kp_bF (by omega)).symm, rfl⟩)))
theorem c_isMinute {n : Int} (hn : kp_in n) : kf_X9_isMinute n σ = some (kp_b (0 ≤ n ∧ n ≤ 39), σ) := by
  unfold kf_X9_isMinute
  exact k_is (k_ls hn (by decide) (fun c => k_some ⟨(kp_bF (by omega)).symm, rfl⟩) (fun c => k_ls hn (by decide) (fun d => k_some ⟨(kp_bT (by omega)).symm, rfl⟩) (fun d => k_some ⟨(kp_bF (by omega)).symm, rfl⟩)))
theorem z_still (hA : kz_I A) (hH : kz_H A σ) : 0 ≤ σ 11 4 ∧ σ 11 4 < 1024 := by
  have h10 := hA.1.1.1
  have h := (show kz_Rn 11 A.1 σ from hH.2.2.2.2.2.2.1).2.1
  have := z_p10 h10.1 (c := 10) (by omega)
  omega
theorem c_isLoose (hA : kz_I A) (hH : kz_H A σ) {n : Int} (hn : 0 ≤ n ∧ n < A.1 0) : kf_X3_isLoose n σ = some (kp_b (¬ A.1 (Int.toNat (290 + n)) = 1), σ) := by
  have h10 := hA.1.1.1
  have hk := hA.1.2.2.2.1 n hn.1 hn.2
  have hs := z_still hA hH
  have hb := ((show kz_Rn 11 A.1 σ from hH.2.2.2.2.2.2.1).2.2 n hn.1 hn.2).1
  unfold kf_X3_isLoose
  rw [kz_and1, hb]
  refine k_is (k_ck ⟨⟨by omega, by omega⟩, by omega, by omega⟩ (k_eq ⟨by omega, by omega⟩ (by decide) (fun c => k_some ⟨(kp_bT (by omega)).symm, rfl⟩) (fun c => k_some ⟨(kp_bF (by omega)).symm, rfl⟩)))
theorem c_isUnder {k w : Int} (hk : 0 ≤ k ∧ k ≤ 6) (hw : 0 ≤ w ∧ w ≤ 6) : kf_X9_isUnder k w σ = some (kp_b (kz_un k w), σ) := by
  have hk' : k = 0 ∨ k = 1 ∨ k = 2 ∨ k = 3 ∨ k = 4 ∨ k = 5 ∨ k = 6 := by omega
  have hw' : w = 0 ∨ w = 1 ∨ w = 2 ∨ w = 3 ∨ w = 4 ∨ w = 5 ∨ w = 6 := by omega
  rcases hk' with rfl | rfl | rfl | rfl | rfl | rfl | rfl <;> rcases hw' with rfl | rfl | rfl | rfl | rfl | rfl | rfl <;> rfl
theorem z_unS {s : Nat → Int} {n : Int} (hk : 0 ≤ s (Int.toNat (250 + n)) ∧ s (Int.toNat (250 + n)) ≤ 6) : kz_un (s (Int.toNat (250 + n))) 2 ↔ kz_sr s n := by unfold kz_un kz_sr; omega
/-- of what loudness soever it is held to be -/
theorem c_loudOfL (hA : kz_I A) {τ : kp_W} (hH : kz_H A τ) (hτ : ∀ a, a ≠ 15 → σ a = τ a) (hw : kz_Wm A.1 q l σ) {n lo p t : Int} (hn : 0 ≤ n ∧ n < A.1 0) (e15 : σ 15 (Int.toNat n) = lo) (hlo : -100 ≤ lo ∧ lo ≤ 100) (hp : 0 ≤ p ∧ p ≤ 9) (ht : 0 ≤ t ∧ t < 40) : kf_X9_loudOf n p t σ = some (kz_ldL A.1 q l lo n p t, σ) := by
  have hk := hA.1.2.2.2.1 n hn.1 hn.2
  have h10 := hA.1.1.1
  have t2 := z_tl hA.1 (j := 2) (by decide) (by decide)
  have t3 := z_tl hA.1 (j := 3) (by decide) (by decide)
  have hw1 := z_w (s := A.1) (q := q) (l := l) (x := t + 1)
  have hN := (show kz_Rn 11 A.1 τ from hH.2.2.2.2.2.2.1).2.2 n hn.1 hn.2
  have e13 : σ 13 (Int.toNat n) = A.1 (Int.toNat (260 + n)) := by rw [hτ 13 (by decide)]; exact hN.2.2.1
  have e12 : σ 12 (Int.toNat n) = A.1 (Int.toNat (250 + n)) := by rw [hτ 12 (by decide)]; exact hN.2.1
  have u2 : σ 6 2 = kz_tl A.1 2 := by rw [hτ 6 (by decide)]; exact hH.2.2.2.1 2 (by decide) (by decide)
  have u3 : σ 6 3 = kz_tl A.1 3 := by rw [hτ 6 (by decide)]; exact hH.2.2.2.1 3 (by decide) (by decide)
  have eab : kp_abs (A.1 (Int.toNat (260 + n)) - p) = kp_abs (p - A.1 (Int.toNat (260 + n))) := z_absC
  have ab := z_abs (x := p - A.1 (Int.toNat (260 + n)))
  have m3 := z_mulr t3 (b := kp_abs (p - A.1 (Int.toNat (260 + n)))) (d := 9) (by omega)
  have m2 := z_mulr t2 (b := kp_abs (p - A.1 (Int.toNat (260 + n)))) (d := 9) (by omega)
  unfold kf_X9_loudOf
  rw [e13, u3, eab, hw t ht.1 ht.2, e15]
  refine k_is (k_ck ⟨hn.1, by omega⟩ (k_lt (k_ck ⟨hn.1, by omega⟩ (k_ck ⟨by omega, by omega⟩ (k_lt ?_)))))
  generalize hX3 : kz_tl A.1 3 * kp_abs (p - A.1 (Int.toNat (260 + n))) = X3 at m3 ⊢
  have emx : kp_max 0 (lo - X3) = if 0 < lo - X3 then lo - X3 else 0 := rfl
  refine k_ck ⟨by decide, by omega, by omega⟩ (k_lt (k_ck ht (k_jn ?_)))
  rw [emx]
  have warm : (0 < kz_w A.1 q l (t + 1) ∨ kz_sr A.1 n) → kp_ok (kp_ck (kp_in (if 0 < lo - X3 then lo - X3 else 0) ∧ kp_in ((lo - 5) - ((σ 6 2) * kp_abs (p - A.1 (Int.toNat (260 + n)))))) (kp_lt ((kp_max (if 0 < lo - X3 then lo - X3 else 0) ((lo - 5) - ((σ 6 2) * kp_abs (p - A.1 (Int.toNat (260 + n)))))) : Int) (fun x6_1 => some (x6_1, σ)))) (fun r' σ' => r' = kz_ldL A.1 q l lo n p t ∧ σ' = σ) := by
    intro hh
    rw [u2]
    refine k_ck ⟨by split <;> exact ⟨by omega, by omega⟩, by omega, by omega⟩ (k_lt (k_some ⟨?_, rfl⟩))
    unfold kz_ldL kp_max
    rw [if_pos hh, hX3]
    dsimp only
    repeat' split
    all_goals omega
  refine k_ls (by decide) ⟨by omega, by omega⟩ (fun c => warm (Or.inl c)) (fun c => k_ck ⟨hn.1, by omega⟩ ?_)
  rw [e12]
  refine k_e (c_isUnder ⟨hk.1.1, hk.1.2⟩ (by decide)) (k_b (fun d => k_some ⟨?_, rfl⟩) (fun d => warm (Or.inr ((z_unS hk.1).mp d))))
  have hno : ¬ (0 < kz_w A.1 q l (t + 1) ∨ kz_sr A.1 n) := fun z => z.elim c (fun z => d ((z_unS hk.1).mpr z))
  unfold kz_ldL
  rw [if_neg hno, hX3]
  dsimp only
  repeat' split
  all_goals omega
theorem c_loudOf (hA : kz_I A) (hH : kz_H A σ) (hw : kz_Wm A.1 q l σ) {n p t : Int} (hn : 0 ≤ n ∧ n < A.1 0) (hp : 0 ≤ p ∧ p ≤ 9) (ht : 0 ≤ t ∧ t < 40) : kf_X9_loudOf n p t σ = some (kz_ld A.1 q l 0 n p t, σ) := by
  have hk := hA.1.2.2.2.1 n hn.1 hn.2
  have e15 : σ 15 (Int.toNat n) = A.1 (Int.toNat (280 + n)) := ((show kz_Rn 11 A.1 σ from hH.2.2.2.2.2.2.1).2.2 n hn.1 hn.2).2.2.2.2
  rw [z_ldL, z_lo0]
  exact c_loudOfL hA hH (fun _ _ => rfl) hw hn e15 ⟨by omega, by omega⟩ hp ht
theorem c_knocksOf (hA : kz_I A) (hS : kz_Sn A q l σ) {n t : Int} (hn : 0 ≤ n ∧ n < A.1 0) (ht : 0 ≤ t ∧ t < 40) : kf_X6_knocksOf n t σ = some (kz_kn A q l n t, σ) := by
  have h10 := hA.1.1.1
  unfold kf_X6_knocksOf
  exact k_is (k_ck (by omega) (k_some ⟨hS.2.2 n hn.1 hn.2 t ht.1 ht.2, rfl⟩))
theorem z_ldLr {s : Nat → Int} (hs : kz_Is s) {q l lo n p t : Int} (hlo : -100 ≤ lo ∧ lo ≤ 100) (hn : 0 ≤ n ∧ n < s 0) (hp : 0 ≤ p ∧ p ≤ 9) : 0 ≤ kz_ldL s q l lo n p t ∧ kz_ldL s q l lo n p t ≤ 100 := by
  have hk := hs.2.2.2.1 n hn.1 hn.2
  have t2 := z_tl hs (j := 2) (by decide) (by decide)
  have t3 := z_tl hs (j := 3) (by decide) (by decide)
  have ab := z_abs (x := p - s (Int.toNat (260 + n)))
  have m3 := z_mulr t3 (b := kp_abs (p - s (Int.toNat (260 + n)))) (d := 9) (by omega)
  have m2 := z_mulr t2 (b := kp_abs (p - s (Int.toNat (260 + n)))) (d := 9) (by omega)
  have key : ∀ m : Int, m ≤ 100 → 0 ≤ (if m < 0 then 0 else m) ∧ (if m < 0 then 0 else m) ≤ 100 := fun m hm => by split <;> omega
  refine key _ ?_
  repeat' split
  all_goals omega
theorem c_heardAloneL (hA : kz_I A) {τ : kp_W} (hH : kz_H A τ) (hτ : ∀ a, a ≠ 15 → σ a = τ a) (hS : kz_Sn A q l σ) {n lo p t : Int} (hn : 0 ≤ n ∧ n < A.1 0) (e15 : σ 15 (Int.toNat n) = lo) (hlo : -100 ≤ lo ∧ lo ≤ 100) (hp : 0 ≤ p ∧ p ≤ 9) (ht : 0 ≤ t ∧ t < 40) : kf_X9_heardAlone n p t σ = some (kz_adL A q l lo n p t, σ) := by
  have t4 := z_tl hA.1 (j := 4) (by decide) (by decide)
  have u4 : σ 6 4 = kz_tl A.1 4 := by rw [hτ 6 (by decide)]; exact hH.2.2.2.1 4 (by decide) (by decide)
  have kr := z_kn hA (q := q) (l := l) (t := t) hn
  have lr := z_ldLr hA.1 (q := q) (l := l) (t := t) hlo hn hp
  unfold kf_X9_heardAlone
  refine k_is (k_e (c_loudOfL hA hH hτ hS.1 hn e15 hlo hp ht) ?_)
  rw [u4]
  refine k_ls ⟨by omega, by omega⟩ ⟨by omega, by omega⟩ (fun c => k_some ⟨?_, rfl⟩) (fun c => k_e (c_knocksOf hA hS hn ht) (k_some ⟨?_, rfl⟩))
  · unfold kz_adL; rw [if_neg (fun z => by omega)]
  · unfold kz_adL
    by_cases d : 0 < kz_kn A q l n t
    · rw [if_pos ⟨d, by omega⟩]
    · rw [if_neg (fun z => d z.1)]; omega
theorem c_heardAlone (hA : kz_I A) (hH : kz_H A σ) (hS : kz_Sn A q l σ) {n p t : Int} (hn : 0 ≤ n ∧ n < A.1 0) (hp : 0 ≤ p ∧ p ≤ 9) (ht : 0 ≤ t ∧ t < 40) : kf_X9_heardAlone n p t σ = some (kz_ad A q l 0 n p t, σ) := by
  have hk := hA.1.2.2.2.1 n hn.1 hn.2
  have e15 : σ 15 (Int.toNat n) = A.1 (Int.toNat (280 + n)) := ((show kz_Rn 11 A.1 σ from hH.2.2.2.2.2.2.1).2.2 n hn.1 hn.2).2.2.2.2
  rw [z_adL, z_lo0]
  exact c_heardAloneL hA hH (fun _ _ => rfl) hS hn e15 ⟨by omega, by omega⟩ hp ht
theorem z_mvb (hA : kz_I A) {n : Int} (hn : 0 ≤ n ∧ n < A.1 0) : kz_mv A.1 / 2 ^ (Int.toNat n) % 2 = if ¬ A.1 (Int.toNat (290 + n)) = 1 then 1 else 0 := by
  have e : kz_mv A.1 / 2 ^ (Int.toNat n) % 2 = _ := z_bsd (P := fun n => decide (¬ A.1 (Int.toNat (290 + n)) = 1)) hn.1 hn.2
  rw [e]
  by_cases c : A.1 (Int.toNat (290 + n)) = 1
  · rw [if_neg (by simp [c]), if_neg (fun z => z c)]
  · rw [if_pos (decide_eq_true c), if_pos c]
theorem c_heardAt (hA : kz_I A) (hH : kz_H A σ) (hS : kz_Sn A q l σ) {p t : Int} (hp : 0 ≤ p ∧ p ≤ 9) (ht : 0 ≤ t ∧ t < 40) : kf_X9_heardAt p t σ = some (kz_he A q l 0 (kz_mv A.1) p t, σ) := by
  have h10 := hA.1.1.1
  have loop : ∀ (m : Nat) (x y : Int), 0 ≤ y → y ≤ A.1 0 → A.1 0 - y < m → x = kp_sm (fun n => if kz_mv A.1 / 2 ^ (Int.toNat n) % 2 = 1 then kz_ad A q l 0 n p t else 0) y → kp_ok (kl_X9_heardAt_5 p t m x y σ (fun (x1_2 : Int) (σ2 : kp_W) => some (x1_2, σ2))) (fun r' σ' => r' = kz_he A q l 0 (kz_mv A.1) p t ∧ σ' = σ) := by
    intro m
    induction m with
    | zero => intro x y h0 h1 h2; omega
    | succ m ih =>
      intro x y h0 h1 h2 hx
      rw [kl_X9_heardAt_5, show σ 11 5 = A.1 0 from hH.2.2.2.2.2.2.1.1]
      refine k_ls ⟨by omega, by omega⟩ ⟨by omega, by omega⟩ (fun hy => ?_) (fun hy => k_some ⟨?_, rfl⟩)
      · have hs := kp_sm1 (fun n => if kz_mv A.1 / 2 ^ (Int.toNat n) % 2 = 1 then kz_ad A q l 0 n p t else 0) h0
        rw [← hx] at hs
        simp only [z_mvb hA ⟨h0, hy⟩] at hs
        refine k_e (c_isLoose hA hH ⟨h0, hy⟩) (k_b (fun c => k_lt (ih _ _ (by omega) (by omega) (by omega) ?_)) (fun c => k_e (c_heardAlone hA hH hS ⟨h0, hy⟩ hp ht) (k_lt (k_lt (ih _ _ (by omega) (by omega) (by omega) ?_)))))
        · rw [hs, if_neg (by rw [if_neg c]; decide), Int.add_zero]
        · rw [hs, if_pos (by rw [if_pos c])]
      · rw [hx]; unfold kz_he; congr 1; omega
  unfold kf_X9_heardAt
  exact k_is (k_lt (k_lt (loop kp_fu 0 0 (by decide) (by omega) (kp_fu_big (by omega)) rfl)))
theorem c_heardInDay (hA : kz_I A) (hH : kz_H A σ) (hS : kz_Sn A q l σ) {p : Int} (hp : 0 ≤ p ∧ p ≤ 9) : kf_X9_heardInDay p σ = some (kz_da A q l 0 (kz_mv A.1) p, σ) := by
  have loop : ∀ (m : Nat) (x y : Int), 0 ≤ y → y ≤ 40 → 40 - y < m → x = kp_sm (fun t => kz_he A q l 0 (kz_mv A.1) p t) y → kp_ok (kl_X9_heardInDay_4 p m x y σ (fun (x1_2 : Int) (σ2 : kp_W) => some (x1_2, σ2))) (fun r' σ' => r' = kz_da A q l 0 (kz_mv A.1) p ∧ σ' = σ) := by
    intro m
    induction m with
    | zero => intro x y h0 h1 h2; omega
    | succ m ih =>
      intro x y h0 h1 h2 hx
      rw [kl_X9_heardInDay_4]
      refine k_ls ⟨by omega, by omega⟩ (by decide) (fun hy => k_e (c_heardAt hA hH hS hp ⟨h0, hy⟩) (k_lt (k_lt (ih _ _ (by omega) (by omega) (by omega) ?_)))) (fun hy => k_some ⟨?_, rfl⟩)
      · rw [kp_sm1 _ h0, hx]
      · rw [hx]; unfold kz_da; congr 1; omega
  unfold kf_X9_heardInDay
  exact k_is (k_lt (k_lt (loop kp_fu 0 0 (by decide) (by decide) (kp_fu_big (by decide)) rfl)))
/-- what one noise adds in a day -/
def kz_dn (A : kz_A) (q l e n p : Int) : Int := kp_sm (fun t => kz_ad A q l e n p t) 40
theorem c_heardInDayOfL (hA : kz_I A) {τ : kp_W} (hH : kz_H A τ) (hτ : ∀ a, a ≠ 15 → σ a = τ a) (hS : kz_Sn A q l σ) {n lo p : Int} (hn : 0 ≤ n ∧ n < A.1 0) (e15 : σ 15 (Int.toNat n) = lo) (hlo : -100 ≤ lo ∧ lo ≤ 100) (hp : 0 ≤ p ∧ p ≤ 9) : kf_X9_heardInDayOf n p σ = some (kp_sm (fun t => kz_adL A q l lo n p t) 40, σ) := by
  have loop : ∀ (m : Nat) (x y : Int), 0 ≤ y → y ≤ 40 → 40 - y < m → x = kp_sm (fun t => kz_adL A q l lo n p t) y → kp_ok (kl_X9_heardInDayOf_5 n p m x y σ (fun (x1_2 : Int) (σ2 : kp_W) => some (x1_2, σ2))) (fun r' σ' => r' = kp_sm (fun t => kz_adL A q l lo n p t) 40 ∧ σ' = σ) := by
    intro m
    induction m with
    | zero => intro x y h0 h1 h2; omega
    | succ m ih =>
      intro x y h0 h1 h2 hx
      rw [kl_X9_heardInDayOf_5]
      refine k_ls ⟨by omega, by omega⟩ (by decide) (fun hy => k_e (c_heardAloneL hA hH hτ hS hn e15 hlo hp ⟨h0, hy⟩) (k_lt (k_lt (ih _ _ (by omega) (by omega) (by omega) ?_)))) (fun hy => k_some ⟨?_, rfl⟩)
      · rw [kp_sm1 _ h0, hx]
      · rw [hx]; congr 1; omega
  unfold kf_X9_heardInDayOf
  exact k_is (k_lt (k_lt (loop kp_fu 0 0 (by decide) (by decide) (kp_fu_big (by decide)) rfl)))
theorem c_heardInDayOf (hA : kz_I A) (hH : kz_H A σ) (hS : kz_Sn A q l σ) {n p : Int} (hn : 0 ≤ n ∧ n < A.1 0) (hp : 0 ≤ p ∧ p ≤ 9) : kf_X9_heardInDayOf n p σ = some (kz_dn A q l 0 n p, σ) := by
  have hk := hA.1.2.2.2.1 n hn.1 hn.2
  have e15 : σ 15 (Int.toNat n) = A.1 (Int.toNat (280 + n)) := ((show kz_Rn 11 A.1 σ from hH.2.2.2.2.2.2.1).2.2 n hn.1 hn.2).2.2.2.2
  have e : kz_dn A q l 0 n p = kp_sm (fun t => kz_adL A q l (A.1 (Int.toNat (280 + n))) n p t) 40 := kp_sm_cong (fun t _ _ => by rw [z_adL, z_lo0])
  rw [e]
  exact c_heardInDayOfL hA hH (fun _ _ => rfl) hS hn e15 ⟨by omega, by omega⟩ hp
theorem z_dn {A : kz_A} (hA : kz_I A) {q l e n p : Int} (hn : 0 ≤ n ∧ n < A.1 0) : 0 ≤ kz_dn A q l e n p ∧ kz_dn A q l e n p ≤ 360 := by
  have := kp_sm_rng (f := fun t => kz_ad A q l e n p t) (c := 9) (x := 40) (by decide) (by decide) (fun i i0 i1 => z_ad hA hn)
  unfold kz_dn
  omega
-- sums that change places
theorem z_smA {f g : Int → Int} : ∀ n : Nat, kp_smN (fun i => f i + g i) n = kp_smN f n + kp_smN g n
  | 0 => rfl
  | n + 1 => by rw [kp_smN, kp_smN, kp_smN, z_smA n]; omega
theorem z_smZ : ∀ n : Nat, kp_smN (fun _ => 0) n = 0
  | 0 => rfl
  | n + 1 => by rw [kp_smN, z_smZ n]; rfl
theorem z_smC {f : Int → Int → Int} (m : Nat) : ∀ n : Nat, kp_smN (fun i => kp_smN (fun j => f i j) m) n = kp_smN (fun j => kp_smN (fun i => f i j) n) m
  | 0 => (z_smZ m).symm
  | n + 1 => by
    rw [kp_smN, z_smC m n]
    have : kp_smN (fun j => kp_smN (fun i => f i j) (n + 1)) m = kp_smN (fun j => kp_smN (fun i => f i j) n + f n j) m := rfl
    rw [this, z_smA]
theorem z_smI {c : Prop} [Decidable c] {f : Int → Int} (n : Nat) : kp_smN (fun i => if c then f i else 0) n = if c then kp_smN f n else 0 := by
  by_cases h : c
  · simp only [if_pos h]
  · simp only [if_neg h]; exact z_smZ n
theorem z_daD {A : kz_A} {q l e z p : Int} : kz_da A q l e z p = kp_sm (fun n => if z / 2 ^ (Int.toNat n) % 2 = 1 then kz_dn A q l e n p else 0) (A.1 0) := by
  unfold kz_da kz_he kz_dn kp_sm
  rw [z_smC]
  exact kp_smN_cong (fun i _ _ => z_smI _)
end HEAR
