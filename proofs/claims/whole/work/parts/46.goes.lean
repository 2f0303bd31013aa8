-- the reference: lengths, and what goes in a day
theorem z_arr_app {s : Nat → Int} : ∀ {a b : List Int} {x : Int}, kz_arr s x (a ++ b) → kz_arr s x a ∧ kz_arr s (x + (a.length : Int)) b
  | [], b, x, h => ⟨trivial, by simpa using h⟩
  | c :: a, b, x, h => by
    obtain ⟨h1, h2⟩ := h
    obtain ⟨h3, h4⟩ := z_arr_app (a := a) (b := b) h2
    refine ⟨⟨h1, h3⟩, ?_⟩
    rw [show x + ((c :: a).length : Int) = x + 1 + (a.length : Int) by simp; omega]
    exact h4
theorem z_flR (c : kz_C) (r : List kz_C) : kz_flR (c :: r) = c.2.2.2 ++ ([if c.1 = true then -10 - c.2.1 else -200 - c.2.1] ++ kz_flR r) := by
  show kz_stp c ++ kz_flR r = _
  unfold kz_stp
  rw [List.append_assoc]
section GOES
variable {s : Nat → Int} {nn t x3 x4 : Int} {Q : Int → kp_W → Prop} {k : kp_W → kp_R}
theorem z_headD {b : Bool} {l : List Bool} (h : l.length = 1) (hb : l.headD false = b) : l = [b] := by
  match l, h, hb with
  | [x], _, hb => simp at hb; rw [hb]
theorem r_lookAll (hI : kz_Is s) (hn : 0 ≤ nn ∧ nn < s 0) (ht : 0 ≤ t ∧ t < 40) (hx4 : 0 ≤ x4) (hx43 : x4 + x3 ≤ 1066) : ∀ (cls : List kz_C) {n : Nat} {x6 : Int} {σ : kp_W} {an : Bool}, (∀ c ∈ cls, kz_wfc c) → kz_arr (σ 1) x6 (kz_flR cls) → 0 ≤ x6 → x6 + ((kz_flR cls).length : Int) = x4 + x3 → (∀ j, 0 ≤ j → j < 5 → σ 3 (Int.toNat j) = kz_sb s nn t j) → σ 0 13 = kz_i an →
    (∀ σ' : kp_W, (∀ a, a ≠ 0 → a ≠ 4 → σ' a = σ a) → (∀ j, j ≠ 11 → j ≠ 12 → j ≠ 13 → σ' 0 j = σ 0 j) → σ' 0 11 = σ 0 11 + kz_gr s nn t cls → σ' 0 12 = σ 0 12 + kz_ho s nn t cls → σ' 0 13 = kz_i (an || kz_an s nn t cls) → kp_ok (k σ') Q) → kp_ok (kl_X10_looksAt_109 x3 x4 (n + 1 + (kz_flR cls).length) 0 x6 σ k) Q := by
  intro cls
  induction cls with
  | nil =>
    intro n x6 σ an _ _ h6 he _ h13 hk
    show kp_ok (kl_X10_looksAt_109 x3 x4 (n + 1) 0 x6 σ k) Q
    have he : x6 + ((0 : Nat) : Int) = x4 + x3 := he
    rw [kl_X10_looksAt_109]
    refine k_ls ⟨by omega, by omega⟩ ⟨by omega, by omega⟩ (fun q => absurd q (by omega)) (fun _ => ?_)
    refine hk σ (fun _ _ _ => rfl) (fun _ _ _ _ => rfl) (by rw [kz_gr]; omega) (by rw [kz_ho]; omega) ?_
    rw [h13, kz_an, Bool.or_false]
  | cons c r ih =>
    intro n x6 σ an hw ha h6 he hby h13 hk
    obtain ⟨hwn, -, hg, -, htk, -⟩ := hw c (by simp)
    rw [z_flR] at ha he ⊢
    obtain ⟨ha1, ha2⟩ := z_arr_app ha
    obtain ⟨ha2, ha3⟩ := z_arr_app ha2
    simp only [List.length_append, List.length_cons, List.length_nil] at he ⊢
    generalize hL : c.2.2.2.length = L at he ha2 ha3 ⊢
    generalize hM : (kz_flR r).length = M at he ⊢
    rw [show n + 1 + (L + (0 + 1 + M)) = (n + 1 + M + 1) + L by omega, ← hL]
    refine r_lookToks hI hn ht hx4 hx43 c.2.2.2 (st := []) (m := 1) htk ha1 h6 (by omega) trivial rfl (by decide) hg hby (fun σ1 fr1 hst1 hl1 => ?_)
    rw [hL]
    have hb : kz_run (kz_vR (kz_f s nn t)) c.2.2.2 [] = [kz_hc s nn t c] := z_headD hl1 rfl
    rw [hb] at hst1
    refine r_lookEnd hx4 hx43 (g := c.1) (b := kz_hc s nn t c) (an := an) hwn ?_ (by omega) (by omega) hst1 ?_ (fun σ2 fr2 fr20 h11 h12 h132 => ?_)
    · rw [fr1 1 (by decide)]; exact ha2.1
    · rw [fr1 0 (by decide)]; exact h13
    · rw [← hM]
      refine ih (an := an || kz_hc s nn t c) (fun c' hc' => hw c' (by simp [hc'])) ?_ (by omega) (by omega) ?_ h132 (fun σ3 fr3 fr30 g11 g12 g13 => hk σ3 ?_ ?_ ?_ ?_ ?_)
      · rw [fr2 1 (by decide), fr1 1 (by decide)]; exact ha3
      · rw [fr2 3 (by decide), fr1 3 (by decide)]; exact hby
      · intro a h0 h4; rw [fr3 a h0 h4, fr2 a h0, fr1 a h4]
      · intro j h1 h2 h3; rw [fr30 j h1 h2 h3, fr20 j h1 h2 h3, fr1 0 (by decide)]
      · rw [g11, h11, fr1 0 (by decide), kz_gr]; omega
      · rw [g12, h12, fr1 0 (by decide), kz_ho]; omega
      · rw [g13, kz_an, Bool.or_assoc]
end GOES
theorem z_gr {A : kz_A} (h : kz_Ic A) {n t : Int} : (0 ≤ kz_gr A.1 n t A.2 ∧ kz_gr A.1 n t A.2 ≤ 990) ∧ (0 ≤ kz_ho A.1 n t A.2 ∧ kz_ho A.1 n t A.2 ≤ 990) := by
  have key : ∀ (l : List kz_C), (∀ c ∈ l, kz_wfc c) → (0 ≤ kz_gr A.1 n t l ∧ kz_gr A.1 n t l ≤ 99 * (l.length : Int)) ∧ (0 ≤ kz_ho A.1 n t l ∧ kz_ho A.1 n t l ≤ 99 * (l.length : Int)) := by
    intro l
    induction l with
    | nil => intro _; simp [kz_gr, kz_ho]
    | cons c r ih =>
      intro hw
      have h1 := ih (fun c' hc' => hw c' (by simp [hc']))
      have h2 := (hw c (by simp)).1
      simp only [kz_gr, kz_ho, List.length_cons]
      refine ⟨?_, ?_⟩
      · split <;> omega
      · split <;> omega
  have := key A.2 h.2.1
  have := h.1
  omega
theorem z_hd {A : kz_A} (h : kz_Ic A) {n t : Int} : 1 ≤ kz_hd A n t ∧ kz_hd A n t ≤ 990 := by
  have := z_gr h (n := n) (t := t)
  unfold kz_hd
  split <;> omega
theorem r_looksAt {A : kz_A} (hA : kz_I A) {σ : kp_W} (es : σ 1 = A.1) {n t : Int} (hn : 0 ≤ n ∧ n < A.1 0) (ht : 0 ≤ t ∧ t < 40) {Q : Int → kp_W → Prop} (hQ : ∀ σ' : kp_W, (∀ a, a ≠ 0 → a ≠ 3 → a ≠ 4 → σ' a = σ a) → (∀ j, j ≠ 11 → j ≠ 12 → j ≠ 13 → σ' 0 j = σ 0 j) → σ' 0 11 = kz_gr A.1 n t A.2 → σ' 0 12 = kz_hd A n t → σ' 0 13 = kz_i (kz_an A.1 n t A.2) → Q 0 σ') : kp_ok (kf_X10_looksAt n t σ) Q := by
  obtain ⟨hs, hc⟩ := hA
  have h0 := hs.1
  unfold kf_X10_looksAt
  refine k_lt (k_ck (by omega) (k_lt (k_ck (by omega) (k_lt (k_ck (by omega) (k_lt (k_lt (k_lt (k_lt (k_ltv (fun σ8 e8 => ?_)))))))))))
  have f1 : σ8 1 = A.1 := by rw [e8]; repeat rw [kp_up_ne (by decide)]
                             exact es
  have fr : ∀ a, a ≠ 0 → a ≠ 3 → σ8 a = σ a := by intro a h0 h3; rw [e8]; repeat rw [kp_up_ne (by assumption)]
  have fr0 : ∀ j, j ≠ 11 → j ≠ 12 → j ≠ 13 → σ8 0 j = σ 0 j := by
    intro j h1 h2 h3
    rw [e8, z_up0 h3, z_up0 h2, z_up0 h1]
    repeat rw [kp_up_ne (by decide)]
  have g11 : σ8 0 11 = 0 := by rw [e8, z_up0 (by decide), z_up0 (by decide), z_up0e]
  have g12 : σ8 0 12 = 0 := by rw [e8, z_up0 (by decide), z_up0e]
  have g13 : σ8 0 13 = kz_i false := by rw [e8, z_up0e]; rfl
  have hby : ∀ j, 0 ≤ j → j < 5 → σ8 3 (Int.toNat j) = kz_sb A.1 n t j := by
    intro j h0 h5
    rw [e8]
    repeat rw [kp_up_ne (i := _) (k := 0) (j := 3) (by decide)]
    simp only [kp_up_eq]
    rw [kp_up_ne (by decide), kp_up_ne (by decide), kp_up_ne (by decide), es]
    unfold kz_sb
    rcases (show j = 0 ∨ j = 1 ∨ j = 2 ∨ j = 3 ∨ j = 4 by omega) with rfl | rfl | rfl | rfl | rfl <;> simp
  clear e8
  have fin : ∀ (x3 x4 : Int), 0 ≤ x4 → x4 + x3 ≤ 1066 → x3 = ((kz_flR A.2).length : Int) → (kz_flR A.2).length ≤ 120 → kz_arr A.1 x4 (kz_flR A.2) → kp_ok (kl_X10_looksAt_109 x3 x4 kp_fu 0 x4 σ8 (fun (σ11 : kp_W) => kp_ls (σ11 0 12) 1 (kp_lt (kp_up σ11 0 12 1) (fun σ13 => some (0, σ13))) (kp_lt (kp_up σ11 0 12 (σ11 0 12)) (fun σ12 => some (0, σ12))))) Q := by
    intro x3 x4 h4 h43 hx3 hlen harr
    rw [show kp_fu = (kp_fu - 1 - (kz_flR A.2).length) + 1 + (kz_flR A.2).length by rw [kp_fu_eq]; omega]
    refine r_lookAll hs hn ht h4 h43 A.2 (an := false) hc.2.1 (by rw [f1]; exact harr) h4 (by omega) hby g13 (fun σ' fr1 fr10 a11 a12 a13 => ?_)
    have hb := z_gr hc (n := n) (t := t)
    rw [g12, Int.zero_add] at a12
    rw [g11, Int.zero_add] at a11
    rw [Bool.false_or] at a13
    refine k_ls ⟨by omega, by omega⟩ (by decide) (fun q => k_lt (k_some (hQ _ ?_ ?_ ?_ ?_ ?_))) (fun q => k_lt (k_some (hQ _ ?_ ?_ ?_ ?_ ?_)))
    · intro a h0 h3 h4; rw [kp_up_ne h0, fr1 a h0 h4, fr a h0 h3]
    · intro j h1 h2 h3; rw [z_up0 h2, fr10 j h1 h2 h3, fr0 j h1 h2 h3]
    · rw [z_up0 (by decide), a11]
    · rw [z_up0e]; unfold kz_hd; rw [if_pos (by omega)]
    · rw [z_up0 (by decide), a13]
    · intro a h0 h3 h4; rw [kp_up_ne h0, fr1 a h0 h4, fr a h0 h3]
    · intro j h1 h2 h3; rw [z_up0 h2, fr10 j h1 h2 h3, fr0 j h1 h2 h3]
    · rw [z_up0 (by decide), a11]
    · rw [z_up0e]; unfold kz_hd; rw [if_neg (by omega), a12]
    · rw [z_up0 (by decide), a13]
  have tel : kf_X10_tellsOf 361 0 σ8 = some (((kz_flR A.2).length : Int), σ8) := by
    unfold kf_X10_tellsOf
    rw [f1]
    refine k_is (k_eq ⟨by omega, by omega⟩ (by decide) (fun e => k_some ⟨?_, rfl⟩) (fun e => k_ck (by omega) (k_some ⟨?_, rfl⟩)))
    · rw [hc.2.2.1 e]; rfl
    · exact (hc.2.2.2 (by omega)).1
  refine k_e tel (k_lt (k_lt (k_lt (k_lt ?_))))
  rw [f1]
  by_cases e : A.1 4 = -1
  · have hn : kz_flR A.2 = [] := by rw [hc.2.2.1 e]; rfl
    refine fin _ _ (by omega) (by rw [hn]; simp; omega) rfl (by rw [hn]; simp) (by rw [hn]; trivial)
  · obtain ⟨-, q2, q3⟩ := hc.2.2.2 (by omega)
    exact fin _ _ (by omega) (by omega) rfl q2 q3
theorem r_lengthOf {A : kz_A} (hA : kz_I A) {σ : kp_W} (es : σ 1 = A.1) {q l n t : Int} (hn : 0 ≤ n ∧ n < A.1 0) (ht : 0 ≤ t ∧ t < 40) (hw : ∀ t, 0 ≤ t → t < 40 → σ 5 (Int.toNat t) = kz_w A.1 q l (t + 1)) {Q : Int → kp_W → Prop} (hQ : ∀ σ' : kp_W, (∀ a, a ≠ 0 → a ≠ 3 → a ≠ 4 → σ' a = σ a) → (∀ j, j ≠ 11 → j ≠ 12 → j ≠ 13 → σ' 0 j = σ 0 j) → σ' 0 12 = kz_hd A n t → Q (kz_ln A q l n t) σ') : kp_ok (kf_X10_lengthOf n t σ) Q := by
  unfold kf_X10_lengthOf
  refine k_bd (r_looksAt hA es hn ht (fun σ' f1 f2 f3 f4 f5 => k_ck ht ?_))
  have hb := z_gr hA.2 (n := n) (t := t)
  have hw2 := z_w (s := A.1) (q := q) (l := l) (x := t + 1)
  rw [f1 5 (by decide) (by decide) (by decide), hw t ht.1 ht.2, f3]
  have hm : 0 ≤ kz_w A.1 q l (t + 1) * kz_gr A.1 n t A.2 ∧ kz_w A.1 q l (t + 1) * kz_gr A.1 n t A.2 ≤ 99 * 990 := ⟨Int.mul_nonneg hw2.1 hb.1.1, Int.mul_le_mul hw2.2 hb.1.2 hb.1.1 (by decide)⟩
  exact k_ck ⟨by omega, by omega, by omega, by omega⟩ (k_some (hQ σ' f1 f2 f4))
