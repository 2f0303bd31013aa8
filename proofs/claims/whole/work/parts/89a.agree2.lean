-- what the sounds of a noise hang on, once more: by what the house tells
def kz_bg (s s' : Nat → Int) : Prop := s' 4 = s 4 ∧ (∀ i : Int, 130 ≤ i → i < 250 → s' (Int.toNat i) = s (Int.toNat i)) ∧ ∀ j, 0 ≤ j → j < 5 → kz_tl s' j = kz_tl s j
section BG
variable {s s' : Nat → Int} {q l o : Int} {cls : List kz_C}
theorem z_bgtl (_ : -1 ≤ s 4) (h : kz_bg s s') {j : Int} (hj : 0 ≤ j ∧ j < 5) : kz_tl s' j = kz_tl s j := h.2.2 j hj.1 hj.2
theorem z_bgon (h : kz_bg s s') (hl : 0 ≤ l) {w t : Int} (hw : 0 ≤ w ∧ w < 3) (ht : t < 40) : kz_on s' q l w t ↔ kz_on s q l w t := by
  unfold kz_on
  by_cases c : 0 ≤ (if w = 0 then t - l else t)
  · rw [h.2.1 (130 + 40 * w + (if w = 0 then t - l else t)) (by omega) (by split <;> omega)]
  · exact ⟨fun z => absurd z.2.1 c, fun z => absurd z.2.1 c⟩
theorem z_bgw (hs : -1 ≤ s 4) (h : kz_bg s s') (hl : 0 ≤ l) {x : Int} (hx : x ≤ 40) : kz_w s' q l x = kz_w s q l x := by
  unfold kz_w
  have key : ∀ k : Nat, k ≤ 40 → kz_wN s' q l k = kz_wN s q l k := by
    intro k
    induction k with
    | zero => intro _; rfl
    | succ k ih =>
      intro hk
      rw [kz_wN, kz_wN, ih (by omega), z_bgtl hs h (by decide), z_bgtl hs h (by decide)]
      have e := z_bgon (q := q) h hl (w := 0) (t := (k : Int)) (by decide) (by omega)
      by_cases c : kz_on s q l 0 (k : Int)
      · rw [if_pos c, if_pos (e.mpr c)]
      · rw [if_neg c, if_neg (fun z => c (e.mp z))]
  exact key _ (by omega)
theorem z_bgrn (h : kz_bg s s') (hl : 0 ≤ l) {b : Bool} {x : Int} (hx : x ≤ 40) : kz_rn s' q l b x = kz_rn s q l b x := by
  unfold kz_rn
  have key : ∀ k : Nat, k ≤ 40 → kz_rnN s' q l b k = kz_rnN s q l b k := by
    intro k
    induction k with
    | zero => intro _; rfl
    | succ k ih =>
      intro hk
      rw [kz_rnN, kz_rnN, ih (by omega)]
      have e := z_bgon (q := q) h hl (w := 2) (t := (k : Int)) (by decide) (by omega)
      rw [show decide (kz_on s' q l 2 (k : Int)) = decide (kz_on s q l 2 (k : Int)) from decide_eq_decide.mpr e]
  exact key _ (by omega)
theorem z_bgf (ho : kz_ao s s' o) (t : Int) : kz_f s' o t = kz_f s o t := by
  have e : ∀ j, kz_sb s' o t j = kz_sb s o t j := by
    intro j
    unfold kz_sb
    rw [ho.1, ho.2.1, ho.2.2.1]
  unfold kz_f
  funext j h v
  rw [e]
theorem z_bghc (ho : kz_ao s s' o) (t : Int) (c : kz_C) : kz_hc s' o t c = kz_hc s o t c := by unfold kz_hc; rw [z_bgf ho]
theorem z_bgcl (ho : kz_ao s s' o) (t : Int) : ∀ cls : List kz_C, kz_gr s' o t cls = kz_gr s o t cls ∧ kz_ho s' o t cls = kz_ho s o t cls ∧ kz_an s' o t cls = kz_an s o t cls
  | [] => ⟨rfl, rfl, rfl⟩
  | c :: r => by
    obtain ⟨h1, h2, h3⟩ := z_bgcl ho t r
    rw [kz_gr, kz_gr, kz_ho, kz_ho, kz_an, kz_an, h1, h2, h3, z_bghc ho]
    exact ⟨rfl, rfl, rfl⟩
theorem z_bgln (hs : -1 ≤ s 4) (h : kz_bg s s') (ho : kz_ao s s' o) (hl : 0 ≤ l) {t : Int} (ht : t < 40) : kz_ln (s', cls) q l o t = kz_ln (s, cls) q l o t := by
  unfold kz_ln
  rw [z_bgw hs h hl (by omega), (z_bgcl ho t cls).1]
theorem z_bghd (ho : kz_ao s s' o) {t : Int} : kz_hd (s', cls) o t = kz_hd (s, cls) o t := by
  unfold kz_hd
  rw [(z_bgcl ho t cls).2.1]
theorem z_bgsk (hs : -1 ≤ s 4) (h : kz_bg s s') (ho : kz_ao s s' o) (hl : 0 ≤ l) {x : Int} (hx : x ≤ 40) : kz_sk (s', cls) q l o x = kz_sk (s, cls) q l o x := by
  unfold kz_sk
  have key : ∀ k : Nat, k ≤ 40 → kz_skN (s', cls) q l o k = kz_skN (s, cls) q l o k := by
    intro k
    induction k with
    | zero => intro _; rfl
    | succ k ih =>
      intro hk
      rw [kz_skN, kz_skN, ih (by omega), z_bgln hs h ho hl (by omega), z_bghd ho]
  exact key _ (by omega)
theorem z_bgkn (hs : -1 ≤ s 4) (h : kz_bg s s') (ho : kz_ao s s' o) (hl : 0 ≤ l) {t : Int} (ht : t < 40) : kz_kn (s', cls) q l o t = kz_kn (s, cls) q l o t := by
  have e0 : kz_fr (s', cls) q l o t = kz_fr (s, cls) q l o t := by
    unfold kz_fr
    rw [z_bgln hs h ho hl ht, z_bgsk hs h ho hl (by omega), z_bghd ho]
  have e1 : kz_tick (s', cls) q l o t = kz_tick (s, cls) q l o t := by
    unfold kz_tick
    have w1 := z_bgw (q := q) hs h hl (x := t + 1) (by omega)
    have w0 := z_bgw (q := q) hs h hl (x := t) (by omega)
    simp only [e0, ho.1, w1, w0]
  have on1 := z_bgon (q := q) h hl (w := 1) (t := t) (by decide) ht
  have on2 := z_bgon (q := q) h hl (w := 1) (t := t - 1) (by decide) (by omega)
  have ern : ∀ b, kz_rn s' q l b (t + 1) = kz_rn s q l b (t + 1) := fun b => z_bgrn h hl (by omega)
  unfold kz_kn
  simp only [e1, ho.1, ho.2.2.1, ern, (z_bgcl ho t cls).2.2, on1, on2]
theorem z_bgsr (ho : kz_ao s s' o) : kz_sr s' o ↔ kz_sr s o := by unfold kz_sr; rw [ho.1]
theorem z_bgld (hs : -1 ≤ s 4) (h : kz_bg s s') (ho : kz_ao s s' o) (hl : 0 ≤ l) {e p t : Int} (ht : t < 40) : kz_ld s' q l e o p t = kz_ld s q l e o p t := by
  have elo : kz_lo s' e o = kz_lo s e o := by
    unfold kz_lo
    rw [ho.2.2.2]
    simp only [z_bgsr ho]
  have eir : kz_ir s' q l e o p t = kz_ir s q l e o p t := by
    unfold kz_ir
    rw [elo, z_bgtl hs h (by decide), ho.2.1, z_bgw hs h hl (by omega)]
    simp only [z_bgsr ho]
  have eai : kz_ai s' e o p = kz_ai s e o p := by
    unfold kz_ai
    rw [elo, z_bgtl hs h (by decide), ho.2.1]
  unfold kz_ld
  rw [eir, eai]
theorem z_bgad (hs : -1 ≤ s 4) (h : kz_bg s s') (ho : kz_ao s s' o) (hl : 0 ≤ l) {e p t : Int} (ht : t < 40) : kz_ad (s', cls) q l e o p t = kz_ad (s, cls) q l e o p t := by
  unfold kz_ad
  rw [z_bgkn hs h ho hl ht]
  dsimp only
  rw [z_bgld hs h ho hl ht, z_bgtl hs h (by decide)]
theorem z_bgdn (hs : -1 ≤ s 4) (h : kz_bg s s') (ho : kz_ao s s' o) (hl : 0 ≤ l) {e p : Int} : kz_dn (s', cls) q l e o p = kz_dn (s, cls) q l e o p :=
  kp_sm_cong (fun t _ t1 => z_bgad hs h ho hl t1)
/-- the sounds stand after a change that they do not hang on -/
theorem z_bgSn (hs : -1 ≤ s 4) (h : kz_bg s s') (h0 : s' 0 = s 0) (ho : ∀ o, 0 ≤ o → o < s 0 → kz_ao s s' o) (hl : 0 ≤ l) {σ : kp_W} (hS : kz_Sn (s, cls) q l σ) : kz_Sn (s', cls) q l σ := by
  obtain ⟨a1, a2, a3⟩ := hS
  refine ⟨fun t t0 t1 => ?_, fun i i0 i1 => ?_, fun i i0 i1 t t0 t1 => ?_⟩
  · show σ 49 (Int.toNat t) = kz_w s' q l (t + 1)
    rw [z_bgw hs h hl (by omega)]; exact a1 t t0 t1
  · have i1' : i < s' 0 := i1
    rw [h0] at i1'
    obtain ⟨b1, b2, b3⟩ := a2 i i0 i1'
    have hoi := ho i i0 i1'
    refine ⟨fun t t0 t1 => ?_, b2, fun t t0 t1 => ?_⟩
    · show _ = kz_gr s' i t cls ∧ _ = kz_ho s' i t cls
      rw [(z_bgcl hoi t cls).1, (z_bgcl hoi t cls).2.1]; exact b1 t t0 t1
    · show _ = !(kz_an s' i t cls)
      rw [(z_bgcl hoi t cls).2.2]; exact b3 t t0 t1
  · have i1' : i < s' 0 := i1
    rw [h0] at i1'
    rw [z_bgkn hs h (ho i i0 i1') hl t1]; exact a3 i i0 i1' t t0 t1
end BG
