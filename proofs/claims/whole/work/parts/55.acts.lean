-- the acts, on both sides
def kz_runs (r : Nat → Int) (n : Int) : List Int → (Nat → Int) × Int
  | [] => (r, n)
  | c :: cs => kz_runs (if n < 20 then kz_set r (Int.toNat n) c else r) (n + 1) cs
theorem z_runsA : ∀ (a b : List Int) (r : Nat → Int) (n : Int), kz_runs r n (a ++ b) = kz_runs (kz_runs r n a).1 (kz_runs r n a).2 b
  | [], b, r, n => rfl
  | c :: a, b, r, n => by
    rw [List.cons_append, kz_runs, z_runsA a b]; rfl
theorem z_runs2 : ∀ (a : List Int) (r : Nat → Int) (n : Int), (kz_runs r n a).2 = n + (a.length : Int)
  | [], r, n => by show n = n + ((0 : Nat) : Int); omega
  | c :: a, r, n => by
    rw [kz_runs, z_runs2 a]
    have : ((c :: a).length : Int) = (a.length : Int) + 1 := by simp
    omega
def kz_aG (k n a : Int) : Int × List Int := if k = 1 ∨ k = 4 then (a * 3 + n, [11, 1]) else if k = 5 then (kp_xor (a + n) n, [51, 1]) else (a + n, [1])
def kz_aS (k n v a : Int) : Int × List Int := if k = 2 ∨ k = 5 then (-((kz_aG k n a).1 - v), [21, 2] ++ (kz_aG k n a).2) else if k = 6 then ((kz_aG k n a).1 - v + v, [61, 2] ++ (kz_aG k n a).2) else ((kz_aG k n a).1 - v, [2] ++ (kz_aG k n a).2)
def kz_aT (k n v a : Int) : Int × List Int := if k = 3 ∨ k = 6 then (kp_xor ((kz_aS k n v a).1 * 2) 7, [31, 3] ++ (kz_aS k n v a).2) else if k = 4 then ((kz_aS k n v (a - 1)).1 * 2 + (kz_aG k n 2).1, [41, 3] ++ (kz_aS k n v (a - 1)).2 ++ (kz_aG k n 2).2) else ((kz_aS k n v a).1 * 2, [3] ++ (kz_aS k n v a).2)
theorem z_aGl {k n a : Int} : (kz_aG k n a).2.length ≤ 2 := by
  unfold kz_aG; repeat' split
  all_goals (simp only [List.length_cons, List.length_nil]; omega)
theorem z_aSl {k n v a : Int} : (kz_aS k n v a).2.length ≤ 4 := by
  have := z_aGl (k := k) (n := n) (a := a)
  unfold kz_aS; repeat' split
  all_goals (simp only [List.length_append, List.length_cons, List.length_nil]; omega)
/-- what the reference's acts leave -/
def kz_Fc (b : kp_W) (cs : List Int) (σ : kp_W) : Prop := (σ 9, σ 0 22) = kz_runs (b 9) (b 0 22) cs ∧ (∀ a, a ≠ 0 → a ≠ 9 → σ a = b a) ∧ ∀ j, j ≠ 22 → σ 0 j = b 0 j
theorem z_FcA {b c d : kp_W} {x y : List Int} (h : kz_Fc b x c) (h2 : kz_Fc c y d) : kz_Fc b (x ++ y) d := by
  refine ⟨?_, fun a a0 a9 => (h2.2.1 a a0 a9).trans (h.2.1 a a0 a9), fun j hj => (h2.2.2 j hj).trans (h.2.2 j hj)⟩
  rw [z_runsA, ← h.1]; exact h2.1
section RACT
variable {k n v : Int} {Q : Int → kp_W → Prop}
def kz_K (k n v : Int) (σ : kp_W) : Prop := σ 0 23 = k ∧ σ 0 24 = n ∧ σ 0 25 = v
theorem z_KF {b σ : kp_W} {cs : List Int} (h : kz_K k n v b) (f : kz_Fc b cs σ) : kz_K k n v σ := ⟨(f.2.2 23 (by decide)).trans h.1, (f.2.2 24 (by decide)).trans h.2.1, (f.2.2 25 (by decide)).trans h.2.2⟩
theorem z_F22 {b σ : kp_W} {cs : List Int} (f : kz_Fc b cs σ) : σ 0 22 = b 0 22 + (cs.length : Int) := by
  have := congrArg Prod.snd f.1
  rw [z_runs2] at this
  exact this
theorem r_runs {b : kp_W} {c : Int} (hr : 0 ≤ b 0 22 ∧ b 0 22 ≤ 1000) {f : Int → kp_W → kp_R} (h : ∀ σ', kz_Fc b [c] σ' → kp_ok (f 0 σ') Q) : kp_ok (kp_bd (kf_X10_runs c b) f) Q := by
  refine k_bd ?_
  unfold kf_X10_runs
  refine k_jn (k_ls ⟨by omega, by omega⟩ (by decide) (fun z => k_ck ⟨hr.1, z⟩ (k_lt (k_lt (k_some (h _ ⟨?_, ?_, ?_⟩))))) (fun z => k_lt (k_some (h _ ⟨?_, ?_, ?_⟩))))
  · rw [kz_runs, kz_runs, if_pos z, z_up0e, kp_up_ne (by decide), z_up1, kp_up_ne (by decide)]
  · intro a a0 a9; rw [kp_up_ne a0, kp_up_ne a9]
  · intro j hj; rw [z_up0 hj, kp_up_ne (by decide)]
  · rw [kz_runs, kz_runs, if_neg z, z_up0e, kp_up_ne (by decide)]
  · intro a a0 a9; rw [kp_up_ne a0]
  · intro j hj; rw [z_up0 hj]
theorem r_underE {c w : Int} {σ : kp_W} (hk : 0 ≤ c ∧ c ≤ 6) (hw : 0 ≤ w ∧ w ≤ 6) : kf_X10_isUnder c w σ = some (kp_b (kz_un c w), σ) := r_isUnder ⟨by omega, by omega⟩ ⟨by omega, by omega⟩
theorem r_pG {b : kp_W} {a : Int} (hr : 0 ≤ b 0 22 ∧ b 0 22 ≤ 1000) (hK : kz_K k n v b) {f : Int → kp_W → kp_R} (h : ∀ σ', kz_Fc b [1] σ' → kp_ok (f (a + n) σ') Q) : kp_ok (kp_bd (kf_X10_plainGrows a b) f) Q := by
  refine k_bd ?_
  unfold kf_X10_plainGrows
  refine r_runs hr (fun σ' f1 => k_some ?_)
  rw [(z_KF hK f1).2.1]
  exact h σ' f1
theorem r_aG {b : kp_W} {a : Int} (hk : 0 ≤ k ∧ k ≤ 6) (hr : 0 ≤ b 0 22 ∧ b 0 22 ≤ 990) (hK : kz_K k n v b) {f : Int → kp_W → kp_R} (h : ∀ σ', kz_Fc b (kz_aG k n a).2 σ' → kp_ok (f (kz_aG k n a).1 σ') Q) : kp_ok (kp_bd (kf_X10_growsActs a b) f) Q := by
  refine k_bd ?_
  unfold kf_X10_growsActs
  unfold kz_aG at h
  rw [hK.1]
  refine k_e (r_underE hk (by decide)) (k_b (fun c => ?_) (fun c => ?_))
  · rw [hK.1]
    unfold kz_un at c
    rw [if_neg (by omega)] at h
    refine k_eq ⟨by omega, by omega⟩ (by decide) (fun d => ?_) (fun d => ?_)
    · rw [if_pos d] at h
      refine r_runs ⟨by omega, by omega⟩ (fun σ1 f1 => r_pG (k := k) (n := n) (v := v) ?_ (z_KF hK f1) (fun σ2 f2 => k_some ?_))
      · have := z_F22 f1
        simp only [List.length_cons, List.length_nil] at this
        omega
      · rw [(z_KF (z_KF hK f1) f2).2.1]
        exact h σ2 (by have := z_FcA f1 f2; exact this)
    · rw [if_neg d] at h
      exact r_pG ⟨by omega, by omega⟩ hK (fun σ2 f2 => k_some (h σ2 f2))
  · unfold kz_un at c
    rw [if_pos (by omega)] at h
    refine r_runs ⟨by omega, by omega⟩ (fun σ1 f1 => r_pG (k := k) (n := n) (v := v) ?_ (z_KF hK f1) (fun σ2 f2 => k_some (h σ2 (by have := z_FcA f1 f2; exact this))))
    have := z_F22 f1
    simp only [List.length_cons, List.length_nil] at this
    omega
theorem r_pS {b : kp_W} {a : Int} (hk : 0 ≤ k ∧ k ≤ 6) (hr : 0 ≤ b 0 22 ∧ b 0 22 ≤ 980) (hK : kz_K k n v b) {f : Int → kp_W → kp_R} (h : ∀ σ', kz_Fc b ([2] ++ (kz_aG k n a).2) σ' → kp_ok (f ((kz_aG k n a).1 - v) σ') Q) : kp_ok (kp_bd (kf_X10_plainStrikes a b) f) Q := by
  refine k_bd ?_
  unfold kf_X10_plainStrikes
  refine r_runs ⟨by omega, by omega⟩ (fun σ1 f1 => r_aG (k := k) (n := n) (v := v) hk ?_ (z_KF hK f1) (fun σ2 f2 => k_some ?_))
  · have := z_F22 f1
    simp only [List.length_cons, List.length_nil] at this
    omega
  · rw [(z_KF (z_KF hK f1) f2).2.2]
    exact h σ2 (by have := z_FcA f1 f2; exact this)
theorem r_aS {b : kp_W} {a : Int} (hk : 0 ≤ k ∧ k ≤ 6) (hr : 0 ≤ b 0 22 ∧ b 0 22 ≤ 970) (hK : kz_K k n v b) {f : Int → kp_W → kp_R} (h : ∀ σ', kz_Fc b (kz_aS k n v a).2 σ' → kp_ok (f (kz_aS k n v a).1 σ') Q) : kp_ok (kp_bd (kf_X10_strikesActs a b) f) Q := by
  refine k_bd ?_
  unfold kf_X10_strikesActs
  unfold kz_aS at h
  rw [hK.1]
  refine k_e (r_underE hk (by decide)) (k_b (fun c => ?_) (fun c => ?_))
  · rw [hK.1]
    unfold kz_un at c
    rw [if_neg (by omega)] at h
    refine k_eq ⟨by omega, by omega⟩ (by decide) (fun d => ?_) (fun d => ?_)
    · rw [if_pos d] at h
      refine r_runs ⟨by omega, by omega⟩ (fun σ1 f1 => r_pS (k := k) (n := n) (v := v) hk ?_ (z_KF hK f1) (fun σ2 f2 => k_some ?_))
      · have := z_F22 f1
        simp only [List.length_cons, List.length_nil] at this
        omega
      · rw [(z_KF (z_KF hK f1) f2).2.2]
        exact h σ2 (by have := z_FcA f1 f2; exact this)
    · rw [if_neg d] at h
      exact r_pS hk ⟨by omega, by omega⟩ hK (fun σ2 f2 => k_some (h σ2 f2))
  · unfold kz_un at c
    rw [if_pos (by omega)] at h
    refine r_runs ⟨by omega, by omega⟩ (fun σ1 f1 => r_pS (k := k) (n := n) (v := v) hk ?_ (z_KF hK f1) (fun σ2 f2 => k_some (h σ2 (by have := z_FcA f1 f2; exact this))))
    have := z_F22 f1
    simp only [List.length_cons, List.length_nil] at this
    omega
theorem r_pT {b : kp_W} {a : Int} (hk : 0 ≤ k ∧ k ≤ 6) (hr : 0 ≤ b 0 22 ∧ b 0 22 ≤ 960) (hK : kz_K k n v b) {f : Int → kp_W → kp_R} (h : ∀ σ', kz_Fc b ([3] ++ (kz_aS k n v a).2) σ' → kp_ok (f ((kz_aS k n v a).1 * 2) σ') Q) : kp_ok (kp_bd (kf_X10_plainTells a b) f) Q := by
  refine k_bd ?_
  unfold kf_X10_plainTells
  refine r_runs ⟨by omega, by omega⟩ (fun σ1 f1 => r_aS (k := k) (n := n) (v := v) hk ?_ (z_KF hK f1) (fun σ2 f2 => k_some (h σ2 (by have := z_FcA f1 f2; exact this))))
  have := z_F22 f1
  simp only [List.length_cons, List.length_nil] at this
  omega
theorem r_aT {b : kp_W} {a : Int} (hk : 0 ≤ k ∧ k ≤ 6) (hr : 0 ≤ b 0 22 ∧ b 0 22 ≤ 950) (hK : kz_K k n v b) {f : Int → kp_W → kp_R} (h : ∀ σ', kz_Fc b (kz_aT k n v a).2 σ' → kp_ok (f (kz_aT k n v a).1 σ') Q) : kp_ok (kp_bd (kf_X10_tellsActs a b) f) Q := by
  refine k_bd ?_
  unfold kf_X10_tellsActs
  unfold kz_aT at h
  rw [hK.1]
  refine k_e (r_underE hk (by decide)) (k_b (fun c => ?_) (fun c => ?_))
  · rw [hK.1]
    unfold kz_un at c
    rw [if_neg (by omega)] at h
    refine k_eq ⟨by omega, by omega⟩ (by decide) (fun d => ?_) (fun d => ?_)
    · rw [if_pos d] at h
      refine r_runs ⟨by omega, by omega⟩ (fun σ1 f1 => r_pT (k := k) (n := n) (v := v) hk ?_ (z_KF hK f1) (fun σ2 f2 => k_lt (r_aG (k := k) (n := n) (v := v) hk ?_ (z_KF (z_KF hK f1) f2) (fun σ3 f3 => k_some ?_))))
      · have := z_F22 f1
        simp only [List.length_cons, List.length_nil] at this
        omega
      · have := z_F22 f1
        have h2 := z_F22 f2
        have h3 := z_aSl (k := k) (n := n) (v := v) (a := a - 1)
        simp only [List.length_cons, List.length_nil, List.length_append] at this h2
        omega
      · exact h σ3 (by have := z_FcA (z_FcA f1 f2) f3; exact this)
    · rw [if_neg d] at h
      exact r_pT hk ⟨by omega, by omega⟩ hK (fun σ2 f2 => k_some (h σ2 f2))
  · unfold kz_un at c
    rw [if_pos (by omega)] at h
    refine r_runs ⟨by omega, by omega⟩ (fun σ1 f1 => r_pT (k := k) (n := n) (v := v) hk ?_ (z_KF hK f1) (fun σ2 f2 => k_some (h σ2 (by have := z_FcA f1 f2; exact this))))
    have := z_F22 f1
    simp only [List.length_cons, List.length_nil] at this
    omega
/-- an act: the answer, and the bodies that ran -/
def kz_act (s : Nat → Int) (n w x : Int) : Int × List Int := if ¬ (0 ≤ n ∧ n < s 0) then (0, []) else if ¬ (0 ≤ w ∧ w ≤ 2) then (0, []) else if w = 0 then kz_aG (s (Int.toNat (250 + n))) n x else if w = 1 then kz_aS (s (Int.toNat (250 + n))) n (s (Int.toNat (270 + n))) x else kz_aT (s (Int.toNat (250 + n))) n (s (Int.toNat (270 + n))) x
theorem r_act {A : kz_A} {σ : kp_W} (hA : kz_I A) (es : σ 1 = A.1) {n w x : Int} (hn : kp_in n) (hw : kp_in w) : kp_ok (kf_X10_act n w x σ) (fun r σ' => r = (kz_act A.1 n w x).1 ∧ (σ' 9, σ' 0 22) = kz_runs (σ 9) 0 (kz_act A.1 n w x).2 ∧ (∀ a, a ≠ 0 → a ≠ 9 → σ' a = σ a) ∧ ∀ j, j ≠ 22 → j ≠ 23 → j ≠ 24 → j ≠ 25 → σ' 0 j = σ 0 j) := by
  have h10 := hA.1.1.1
  have fr : ∀ (b σ' : kp_W) (cs : List Int), kz_Fc b cs σ' → b = kp_up (kp_up (kp_up (kp_up σ 0 22 0) 0 23 (A.1 (Int.toNat (250 + n)))) 0 24 n) 0 25 (A.1 (Int.toNat (270 + n))) → (σ' 9, σ' 0 22) = kz_runs (σ 9) 0 cs ∧ (∀ a, a ≠ 0 → a ≠ 9 → σ' a = σ a) ∧ ∀ j, j ≠ 22 → j ≠ 23 → j ≠ 24 → j ≠ 25 → σ' 0 j = σ 0 j := by
    intro b σ' cs f hb
    subst hb
    refine ⟨?_, fun a a0 a9 => ?_, fun j j1 j2 j3 j4 => ?_⟩
    · rw [f.1, kp_up_ne (by decide), kp_up_ne (by decide), kp_up_ne (by decide), kp_up_ne (by decide), z_up0 (by decide), z_up0 (by decide), z_up0 (by decide), z_up0e]
    · rw [f.2.1 a a0 a9, kp_up_ne a0, kp_up_ne a0, kp_up_ne a0, kp_up_ne a0]
    · rw [f.2.2 j j1, z_up0 j4, z_up0 j3, z_up0 j2, z_up0 j1]
  have e1 : kp_up σ 0 22 0 1 = A.1 := by rw [kp_up_ne (by decide)]; exact es
  unfold kf_X10_act kz_act
  have f0 : (kp_up σ 0 22 0 9, kp_up σ 0 22 0 0 22) = kz_runs (σ 9) 0 [] ∧ (∀ a, a ≠ 0 → a ≠ 9 → kp_up σ 0 22 0 a = σ a) ∧ ∀ j, j ≠ 22 → j ≠ 23 → j ≠ 24 → j ≠ 25 → kp_up σ 0 22 0 0 j = σ 0 j := by
    refine ⟨?_, fun a a0 a9 => ?_, fun j j1 j2 j3 j4 => ?_⟩
    · rw [kp_up_ne (by decide), z_up0e]; rfl
    · rw [kp_up_ne a0]
    · rw [z_up0 j1]
  refine k_lt (k_e (r_isN hA e1 hn) (k_b (fun c => k_some ?_) (fun c => k_e (r_in hw (by decide) (by decide)) (k_b (fun d => k_some ?_) (fun d => k_ck (by omega) (k_lt (k_lt (k_ck (by omega) (k_lt ?_)))))))))
  · rw [if_pos c]; exact ⟨rfl, f0⟩
  · rw [if_neg (fun z => z c), if_pos d]; exact ⟨rfl, f0⟩
  · rw [if_neg (fun z => z c), if_neg (fun z => z d)]
    have hk := hA.1.2.2.2.1 n c.1 c.2
    simp only [kp_up_ne (show (1 : Nat) ≠ 0 by decide), es]
    have hK : kz_K (A.1 (Int.toNat (250 + n))) n (A.1 (Int.toNat (270 + n))) (kp_up (kp_up (kp_up (kp_up σ 0 22 0) 0 23 (A.1 (Int.toNat (250 + n)))) 0 24 n) 0 25 (A.1 (Int.toNat (270 + n)))) := by
      unfold kz_K
      refine ⟨?_, ?_, z_up0e⟩
      · rw [z_up0 (by decide), z_up0 (by decide), z_up0e]
      · rw [z_up0 (by decide), z_up0e]
    have h22 : kp_up (kp_up (kp_up (kp_up σ 0 22 0) 0 23 (A.1 (Int.toNat (250 + n)))) 0 24 n) 0 25 (A.1 (Int.toNat (270 + n))) 0 22 = 0 := by
      rw [z_up0 (by decide), z_up0 (by decide), z_up0 (by decide), z_up0e]
    refine k_eq hw (by decide) (fun e => ?_) (fun e => k_eq hw (by decide) (fun g => ?_) (fun g => ?_))
    · rw [if_pos e]
      exact r_aG ⟨hk.1.1, hk.1.2⟩ (by rw [h22]; decide) hK (fun σ' f => k_some ⟨rfl, fr _ _ _ f rfl⟩)
    · rw [if_neg e, if_pos g]
      exact r_aS ⟨hk.1.1, hk.1.2⟩ (by rw [h22]; decide) hK (fun σ' f => k_some ⟨rfl, fr _ _ _ f rfl⟩)
    · rw [if_neg e, if_neg g]
      exact r_aT ⟨hk.1.1, hk.1.2⟩ (by rw [h22]; decide) hK (fun σ' f => k_some ⟨rfl, fr _ _ _ f rfl⟩)
end RACT
-- the class's acts
section CACT
variable {Q : Int → kp_W → Prop}
def kz_Gc (b : kp_W) (cs : List Int) (σ : kp_W) : Prop := (σ 27, σ 8 1) = kz_runs (b 27) (b 8 1) cs ∧ (∀ a, a ≠ 8 → a ≠ 27 → σ a = b a) ∧ ∀ j, j ≠ 1 → σ 8 j = b 8 j
theorem z_GcA {b c d : kp_W} {x y : List Int} (h : kz_Gc b x c) (h2 : kz_Gc c y d) : kz_Gc b (x ++ y) d := by
  refine ⟨?_, fun a a0 a9 => (h2.2.1 a a0 a9).trans (h.2.1 a a0 a9), fun j hj => (h2.2.2 j hj).trans (h.2.2 j hj)⟩
  rw [z_runsA, ← h.1]; exact h2.1
theorem z_G22 {b σ : kp_W} {cs : List Int} (f : kz_Gc b cs σ) : σ 8 1 = b 8 1 + (cs.length : Int) := by
  have := congrArg Prod.snd f.1
  rw [z_runs2] at this
  exact this
def kz_J (k n v : Int) (σ : kp_W) : Prop := σ 8 2 = k ∧ σ 8 3 = n ∧ σ 8 4 = v
theorem z_JG {k n v : Int} {b σ : kp_W} {cs : List Int} (h : kz_J k n v b) (f : kz_Gc b cs σ) : kz_J k n v σ := ⟨(f.2.2 2 (by decide)).trans h.1, (f.2.2 3 (by decide)).trans h.2.1, (f.2.2 4 (by decide)).trans h.2.2⟩
/-- the body that a kind's act comes to, and the kind above where it was found -/
def kz_bo (k w : Int) : Int × Int := if w = 0 then (if k = 1 ∨ k = 4 then (11, 0) else if k = 5 then (51, 2) else (1, -1)) else if w = 1 then (if k = 2 ∨ k = 5 then (21, 0) else if k = 6 then (61, 3) else (2, -1)) else if k = 3 ∨ k = 6 then (31, 0) else if k = 4 then (41, 1) else (3, -1)
theorem c_send {n : Nat} {k w x d : Int} {σ : kp_W} (hd : 0 ≤ d ∧ d ≤ 20) (hk : 0 ≤ k ∧ k ≤ 6) (hw : 0 ≤ w ∧ w ≤ 2) : kt_X0_send (n + 1) k w x d σ = kp_bd (kf_X0_run (kt_X0_send n) (kz_bo k w).1 (kz_bo k w).2 x (d + 1) σ) (fun r σ => some (r, σ)) := by
  have e : ∀ (a b : kp_R), kp_ls 20 d a b = b := fun a b => by unfold kp_ls; rw [if_pos ⟨by decide, by omega, by omega⟩, if_neg (by omega)]
  rw [kt_X0_send, kf_X0_send, e]
  have hk' : k = 0 ∨ k = 1 ∨ k = 2 ∨ k = 3 ∨ k = 4 ∨ k = 5 ∨ k = 6 := by omega
  have hw' : w = 0 ∨ w = 1 ∨ w = 2 := by omega
  rcases hk' with rfl | rfl | rfl | rfl | rfl | rfl | rfl <;> rcases hw' with rfl | rfl | rfl <;> rfl
def kz_Kb (snd : Int → Int → Int → Int → kp_W → kp_R) (a1 : Int) (a2 : Int) (a3 : Int) (a4 : Int) (σ_2 : kp_W) : kp_R := kp_eq a1 1 (some ((a3 + (σ_2 8 3)), σ_2)) (kp_eq a1 2 (kp_bd (snd (σ_2 8 2) 0 a3 a4 σ_2) (fun r_0 σ_3 => some ((r_0 - (σ_3 8 4)), σ_3))) (kp_eq a1 3 (kp_bd (snd (σ_2 8 2) 1 a3 a4 σ_2) (fun r_1 σ_4 => some ((r_1 * 2), σ_4))) (kp_eq a1 11 (kp_bd (snd a2 0 (a3 * 3) a4 σ_2) (fun r_2 σ_5 => some (r_2, σ_5))) (kp_eq a1 21 (kp_bd (snd a2 1 a3 a4 σ_2) (fun r_3 σ_6 => some ((-r_3), σ_6))) (kp_eq a1 31 (kp_bd (snd a2 2 a3 a4 σ_2) (fun r_4 σ_7 => some ((kp_xor r_4 7), σ_7))) (kp_eq a1 41 (kp_bd (snd a2 2 (a3 - 1) a4 σ_2) (fun r_5 σ_8 => kp_bd (snd (σ_8 8 2) 0 2 a4 σ_8) (fun r_6 σ_9 => some ((r_5 + r_6), σ_9)))) (kp_eq a1 51 (kp_bd (snd a2 0 a3 a4 σ_2) (fun r_7 σ_10 => some ((kp_xor r_7 (σ_10 8 3)), σ_10))) (kp_eq a1 61 (kp_bd (snd a2 1 a3 a4 σ_2) (fun r_8 σ_11 => some ((r_8 + (σ_11 8 4)), σ_11))) (some (0, σ_2))))))))))
theorem c_run {snd : Int → Int → Int → Int → kp_W → kp_R} {bd ab x d : Int} {b : kp_W} (hr : 0 ≤ b 8 1 ∧ b 8 1 ≤ 1000) (h : ∀ σ', kz_Gc b [bd] σ' → kp_ok (kz_Kb snd bd ab x d σ') Q) : kp_ok (kf_X0_run snd bd ab x d b) Q := by
  unfold kf_X0_run
  refine k_jn (k_ls ⟨by omega, by omega⟩ (by decide) (fun z => by omega) (fun z0 => k_ls ⟨by omega, by omega⟩ (by decide) (fun z => k_ck ⟨hr.1, z⟩ (k_lt (k_lt (h _ ⟨?_, ?_, ?_⟩)))) (fun z => k_lt (h _ ⟨?_, ?_, ?_⟩))))
  · rw [kz_runs, kz_runs, if_pos z, z_up0e, kp_up_ne (by decide), z_up1, kp_up_ne (by decide)]
  · intro a a0 a9; rw [kp_up_ne a0, kp_up_ne a9]
  · intro j hj; rw [kp_up_eq, if_neg hj, kp_up_ne (by decide)]
  · rw [kz_runs, kz_runs, if_neg z, z_up0e, kp_up_ne (by decide)]
  · intro a a0 a9; rw [kp_up_ne a0]
  · intro j hj; rw [kp_up_eq, if_neg hj]
theorem c_sr {m : Nat} {k w x d bd ab : Int} {b : kp_W} (hd : 0 ≤ d ∧ d ≤ 20) (hk : 0 ≤ k ∧ k ≤ 6) (hw : 0 ≤ w ∧ w ≤ 2) (hb : kz_bo k w = (bd, ab)) (hr : 0 ≤ b 8 1 ∧ b 8 1 ≤ 1000) {f : Int → kp_W → kp_R} (h : ∀ σ', kz_Gc b [bd] σ' → kp_ok (kp_bd (kz_Kb (kt_X0_send m) bd ab x (d + 1) σ') f) Q) : kp_ok (kp_bd (kt_X0_send (m + 1) k w x d b) f) Q := by
  rw [c_send hd hk hw, hb]
  refine k_bd (k_bd (c_run hr (fun σ' f1 => ?_)))
  obtain ⟨r, σ2, e, q⟩ := h σ' f1
  cases hv : kz_Kb (kt_X0_send m) bd ab x (d + 1) σ' with
  | none => rw [hv] at e; cases e
  | some p =>
    refine ⟨p.1, p.2, rfl, ?_⟩
    rw [hv] at e
    exact k_some ⟨r, σ2, e, q⟩
theorem c_pG {m : Nat} {k n v k' x d : Int} {b : kp_W} (hd : 0 ≤ d ∧ d ≤ 19) (hk' : 0 ≤ k' ∧ k' ≤ 6) (hb : kz_bo k' 0 = (1, -1)) (hr : 0 ≤ b 8 1 ∧ b 8 1 ≤ 1000) (hJ : kz_J k n v b) {f : Int → kp_W → kp_R} (h : ∀ σ', kz_Gc b [1] σ' → kp_ok (f (x + n) σ') Q) : kp_ok (kp_bd (kt_X0_send (m + 1) k' 0 x d b) f) Q := by
  refine c_sr ⟨hd.1, by omega⟩ hk' (by decide) hb hr (fun σ' f1 => ?_)
  show kp_ok (kp_bd (some (x + σ' 8 3, σ')) f) Q
  rw [(z_JG hJ f1).2.1]
  exact k_bd (k_some (h σ' f1))
theorem c_aG {m : Nat} {k n v x d : Int} {b : kp_W} (hd : 0 ≤ d ∧ d ≤ 18) (hk : 0 ≤ k ∧ k ≤ 6) (hr : 0 ≤ b 8 1 ∧ b 8 1 ≤ 990) (hJ : kz_J k n v b) {f : Int → kp_W → kp_R} (h : ∀ σ', kz_Gc b (kz_aG k n x).2 σ' → kp_ok (f (kz_aG k n x).1 σ') Q) : kp_ok (kp_bd (kt_X0_send (m + 2) k 0 x d b) f) Q := by
  unfold kz_aG at h
  by_cases c : k = 1 ∨ k = 4
  · rw [if_pos c] at h
    refine c_sr (bd := 11) (ab := 0) ⟨hd.1, by omega⟩ hk (by decide) (by unfold kz_bo; rw [if_pos rfl, if_pos c]) ⟨hr.1, by omega⟩ (fun σ1 f1 => ?_)
    show kp_ok (kp_bd (kp_bd (kt_X0_send (m + 1) 0 0 (x * 3) (d + 1) σ1) (fun r_2 σ_5 => some (r_2, σ_5))) f) Q
    have := z_G22 f1
    simp only [List.length_cons, List.length_nil] at this
    exact k_bd (c_pG (k := k) (n := n) (v := v) ⟨by omega, by omega⟩ (by decide) (by decide) (by omega) (z_JG hJ f1) (fun σ2 f2 => k_some (h σ2 (by have := z_GcA f1 f2; exact this))))
  · rw [if_neg c] at h
    by_cases c2 : k = 5
    · rw [if_pos c2] at h
      refine c_sr (bd := 51) (ab := 2) ⟨hd.1, by omega⟩ hk (by decide) (by unfold kz_bo; rw [if_pos rfl, if_neg c, if_pos c2]) ⟨hr.1, by omega⟩ (fun σ1 f1 => ?_)
      show kp_ok (kp_bd (kp_bd (kt_X0_send (m + 1) 2 0 x (d + 1) σ1) (fun r_7 σ_10 => some ((kp_xor r_7 (σ_10 8 3)), σ_10))) f) Q
      have := z_G22 f1
      simp only [List.length_cons, List.length_nil] at this
      refine k_bd (c_pG (k := k) (n := n) (v := v) ⟨by omega, by omega⟩ (by decide) (by decide) (by omega) (z_JG hJ f1) (fun σ2 f2 => k_some ?_))
      rw [(z_JG (z_JG hJ f1) f2).2.1]
      exact h σ2 (by have := z_GcA f1 f2; exact this)
    · rw [if_neg c2] at h
      exact c_pG (m := m + 1) (k := k) (n := n) (v := v) ⟨hd.1, by omega⟩ hk (by unfold kz_bo; rw [if_pos rfl, if_neg c, if_neg c2]) ⟨hr.1, by omega⟩ hJ h
theorem c_pS {m : Nat} {k n v k' x d : Int} {b : kp_W} (hd : 0 ≤ d ∧ d ≤ 17) (hk : 0 ≤ k ∧ k ≤ 6) (hk' : 0 ≤ k' ∧ k' ≤ 6) (hb : kz_bo k' 1 = (2, -1)) (hr : 0 ≤ b 8 1 ∧ b 8 1 ≤ 980) (hJ : kz_J k n v b) {f : Int → kp_W → kp_R} (h : ∀ σ', kz_Gc b ([2] ++ (kz_aG k n x).2) σ' → kp_ok (f ((kz_aG k n x).1 - v) σ') Q) : kp_ok (kp_bd (kt_X0_send (m + 3) k' 1 x d b) f) Q := by
  refine c_sr ⟨hd.1, by omega⟩ hk' (by decide) hb ⟨hr.1, by omega⟩ (fun σ1 f1 => ?_)
  show kp_ok (kp_bd (kp_bd (kt_X0_send (m + 2) (σ1 8 2) 0 x (d + 1) σ1) (fun r_0 σ_3 => some ((r_0 - (σ_3 8 4)), σ_3))) f) Q
  rw [(z_JG hJ f1).1]
  have := z_G22 f1
  simp only [List.length_cons, List.length_nil] at this
  refine k_bd (c_aG (k := k) (n := n) (v := v) ⟨by omega, by omega⟩ hk (by omega) (z_JG hJ f1) (fun σ2 f2 => k_some ?_))
  rw [(z_JG (z_JG hJ f1) f2).2.2]
  exact h σ2 (z_GcA f1 f2)
theorem c_aS {m : Nat} {k n v x d : Int} {b : kp_W} (hd : 0 ≤ d ∧ d ≤ 16) (hk : 0 ≤ k ∧ k ≤ 6) (hr : 0 ≤ b 8 1 ∧ b 8 1 ≤ 970) (hJ : kz_J k n v b) {f : Int → kp_W → kp_R} (h : ∀ σ', kz_Gc b (kz_aS k n v x).2 σ' → kp_ok (f (kz_aS k n v x).1 σ') Q) : kp_ok (kp_bd (kt_X0_send (m + 4) k 1 x d b) f) Q := by
  unfold kz_aS at h
  by_cases c : k = 2 ∨ k = 5
  · rw [if_pos c] at h
    refine c_sr (bd := 21) (ab := 0) ⟨hd.1, by omega⟩ hk (by decide) (by unfold kz_bo; rw [if_neg (by decide), if_pos rfl, if_pos c]) ⟨hr.1, by omega⟩ (fun σ1 f1 => ?_)
    show kp_ok (kp_bd (kp_bd (kt_X0_send (m + 3) 0 1 x (d + 1) σ1) (fun r_3 σ_6 => some ((-r_3), σ_6))) f) Q
    have := z_G22 f1
    simp only [List.length_cons, List.length_nil] at this
    exact k_bd (c_pS (k := k) (n := n) (v := v) ⟨by omega, by omega⟩ hk (by decide) (by decide) (by omega) (z_JG hJ f1) (fun σ2 f2 => k_some (h σ2 (by have := z_GcA f1 f2; exact this))))
  · rw [if_neg c] at h
    by_cases c2 : k = 6
    · rw [if_pos c2] at h
      refine c_sr (bd := 61) (ab := 3) ⟨hd.1, by omega⟩ hk (by decide) (by unfold kz_bo; rw [if_neg (by decide), if_pos rfl, if_neg c, if_pos c2]) ⟨hr.1, by omega⟩ (fun σ1 f1 => ?_)
      show kp_ok (kp_bd (kp_bd (kt_X0_send (m + 3) 3 1 x (d + 1) σ1) (fun r_8 σ_11 => some ((r_8 + (σ_11 8 4)), σ_11))) f) Q
      have := z_G22 f1
      simp only [List.length_cons, List.length_nil] at this
      refine k_bd (c_pS (k := k) (n := n) (v := v) ⟨by omega, by omega⟩ hk (by decide) (by decide) (by omega) (z_JG hJ f1) (fun σ2 f2 => k_some ?_))
      rw [(z_JG (z_JG hJ f1) f2).2.2]
      exact h σ2 (by have := z_GcA f1 f2; exact this)
    · rw [if_neg c2] at h
      exact c_pS (m := m + 1) (k := k) (n := n) (v := v) ⟨hd.1, by omega⟩ hk hk (by unfold kz_bo; rw [if_neg (by decide), if_pos rfl, if_neg c, if_neg c2]) ⟨hr.1, by omega⟩ hJ h
theorem c_pT {m : Nat} {k n v k' x d : Int} {b : kp_W} (hd : 0 ≤ d ∧ d ≤ 15) (hk : 0 ≤ k ∧ k ≤ 6) (hk' : 0 ≤ k' ∧ k' ≤ 6) (hb : kz_bo k' 2 = (3, -1)) (hr : 0 ≤ b 8 1 ∧ b 8 1 ≤ 960) (hJ : kz_J k n v b) {f : Int → kp_W → kp_R} (h : ∀ σ', kz_Gc b ([3] ++ (kz_aS k n v x).2) σ' → kp_ok (f ((kz_aS k n v x).1 * 2) σ') Q) : kp_ok (kp_bd (kt_X0_send (m + 5) k' 2 x d b) f) Q := by
  refine c_sr ⟨hd.1, by omega⟩ hk' (by decide) hb ⟨hr.1, by omega⟩ (fun σ1 f1 => ?_)
  show kp_ok (kp_bd (kp_bd (kt_X0_send (m + 4) (σ1 8 2) 1 x (d + 1) σ1) (fun r_1 σ_4 => some ((r_1 * 2), σ_4))) f) Q
  rw [(z_JG hJ f1).1]
  have := z_G22 f1
  simp only [List.length_cons, List.length_nil] at this
  exact k_bd (c_aS (k := k) (n := n) (v := v) ⟨by omega, by omega⟩ hk (by omega) (z_JG hJ f1) (fun σ2 f2 => k_some (h σ2 (z_GcA f1 f2))))
theorem c_aT {m : Nat} {k n v x d : Int} {b : kp_W} (hd : 0 ≤ d ∧ d ≤ 14) (hk : 0 ≤ k ∧ k ≤ 6) (hr : 0 ≤ b 8 1 ∧ b 8 1 ≤ 950) (hJ : kz_J k n v b) {f : Int → kp_W → kp_R} (h : ∀ σ', kz_Gc b (kz_aT k n v x).2 σ' → kp_ok (f (kz_aT k n v x).1 σ') Q) : kp_ok (kp_bd (kt_X0_send (m + 6) k 2 x d b) f) Q := by
  unfold kz_aT at h
  by_cases c : k = 3 ∨ k = 6
  · rw [if_pos c] at h
    refine c_sr (bd := 31) (ab := 0) ⟨hd.1, by omega⟩ hk (by decide) (by unfold kz_bo; rw [if_neg (by decide), if_neg (by decide), if_pos c]) ⟨hr.1, by omega⟩ (fun σ1 f1 => ?_)
    show kp_ok (kp_bd (kp_bd (kt_X0_send (m + 5) 0 2 x (d + 1) σ1) (fun r_4 σ_7 => some ((kp_xor r_4 7), σ_7))) f) Q
    have := z_G22 f1
    simp only [List.length_cons, List.length_nil] at this
    exact k_bd (c_pT (k := k) (n := n) (v := v) ⟨by omega, by omega⟩ hk (by decide) (by decide) (by omega) (z_JG hJ f1) (fun σ2 f2 => k_some (h σ2 (by have := z_GcA f1 f2; exact this))))
  · rw [if_neg c] at h
    by_cases c2 : k = 4
    · rw [if_pos c2] at h
      refine c_sr (bd := 41) (ab := 1) ⟨hd.1, by omega⟩ hk (by decide) (by unfold kz_bo; rw [if_neg (by decide), if_neg (by decide), if_neg c, if_pos c2]) ⟨hr.1, by omega⟩ (fun σ1 f1 => ?_)
      show kp_ok (kp_bd (kp_bd (kt_X0_send (m + 5) 1 2 (x - 1) (d + 1) σ1) (fun r_5 σ_8 => kp_bd (kt_X0_send (m + 5) (σ_8 8 2) 0 2 (d + 1) σ_8) (fun r_6 σ_9 => some ((r_5 + r_6), σ_9)))) f) Q
      have := z_G22 f1
      have h3 := z_aSl (k := k) (n := n) (v := v) (a := x - 1)
      simp only [List.length_cons, List.length_nil] at this
      refine k_bd (c_pT (k := k) (n := n) (v := v) ⟨by omega, by omega⟩ hk (by decide) (by decide) (by omega) (z_JG hJ f1) (fun σ2 f2 => ?_))
      rw [(z_JG (z_JG hJ f1) f2).1]
      have h2 := z_G22 f2
      simp only [List.length_cons, List.length_nil, List.length_append] at h2
      exact c_aG (m := m + 3) (k := k) (n := n) (v := v) ⟨by omega, by omega⟩ hk (by omega) (z_JG (z_JG hJ f1) f2) (fun σ3 f3 => k_some (h σ3 (by have := z_GcA (z_GcA f1 f2) f3; exact this)))
    · rw [if_neg c2] at h
      exact c_pT (m := m + 1) (k := k) (n := n) (v := v) ⟨hd.1, by omega⟩ hk hk (by unfold kz_bo; rw [if_neg (by decide), if_neg (by decide), if_neg c, if_neg c2]) ⟨hr.1, by omega⟩ hJ h
end CACT
