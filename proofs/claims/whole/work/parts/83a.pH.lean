-- a house read: what holds of it
def kz_PHi (p : Int) (cls : List kz_C) (u : Int → Int) : Prop := (∀ c ∈ cls, kz_wfc c) ∧ ((kz_flR cls).length : Int) ≤ p ∧ ∀ j, 0 ≤ j → j < 5 → 0 ≤ u j ∧ u j ≤ 99
theorem z_flA (cls : List kz_C) (c : kz_C) : kz_flR (cls ++ [c]) = kz_flR cls ++ kz_stp c := by
  unfold kz_flR
  rw [List.flatMap_append]
  simp
theorem z_PHs {N p : Int} {t : kz_PC} (hg : kz_Gc2 N p t) (ht : t.1 = true) {cls : List kz_C} {u : Int → Int} (h : kz_PHi p cls u) : kz_PHi t.2.1 (kz_cU t cls) (kz_uU t u) := by
  obtain ⟨g1, g2, g3, ⟨g4, g4'⟩, g5⟩ := hg.2 ht
  obtain ⟨h1, h2, h3⟩ := h
  by_cases c : 2 ≤ t.2.2.1
  · unfold kz_cU kz_uU
    rw [if_pos c, if_pos c]
    refine ⟨h1, by omega, fun j j0 j1 => ?_⟩
    dsimp only
    split
    · exact g3
    · exact h3 j j0 j1
  · unfold kz_cU kz_uU
    rw [if_neg c, if_neg c]
    refine ⟨fun d hd => ?_, ?_, h3⟩
    · rcases List.mem_append.mp hd with hd | hd
      · exact h1 d hd
      · rw [List.mem_singleton] at hd
        rw [hd]; exact g5 (by omega)
    · rw [z_flA, List.length_append]
      unfold kz_stp
      rw [List.length_append, List.length_singleton]
      dsimp only
      omega
theorem z_cUl (t : kz_PC) (cls : List kz_C) : (kz_cU t cls).length ≤ cls.length + 1 := by
  unfold kz_cU
  split
  · omega
  · rw [List.length_append]; simp
theorem z_pH {B : Int → Int} {N : Int} (hB : ∀ x, 0 ≤ B x → x < N) : ∀ (k : Nat) (p : Int) (cls : List kz_C) (u : Int → Int), 0 ≤ p → p ≤ N → cls.length + k ≤ 10 → kz_PHi p cls u → (0 ≤ (kz_pH B N k p cls u).2.1 ∧ (kz_pH B N k p cls u).2.1 ≤ N) ∧ ((kz_pH B N k p cls u).1 = true → (kz_pH B N k p cls u).2.2.1.length ≤ 10 ∧ kz_PHi N (kz_pH B N k p cls u).2.2.1 (kz_pH B N k p cls u).2.2.2)
  | 0, p, cls, u, h0, h1, h2, h3 => ⟨⟨h0, h1⟩, fun z => by cases z⟩
  | k + 1, p, cls, u, h0, h1, h2, h3 => by
    have hg := z_pC hB h1
    have hl := z_cUl (kz_pC B p) cls
    rw [kz_pH]
    try dsimp only
    cases ht : (kz_pC B p).1 with
    | false =>
      rw [if_pos rfl]
      exact ⟨⟨by have := hg.1.1; dsimp only; omega, hg.1.2⟩, fun z => by cases z⟩
    | true =>
      have hs := z_PHs hg ht h3
      have g1 := hg.1
      rw [if_neg (by decide)]
      by_cases c : (kz_pC B p).2.1 = N
      · rw [if_pos c]
        rw [c] at hs
        exact ⟨⟨by dsimp only; omega, Int.le_refl _⟩, fun _ => ⟨by dsimp only; omega, hs⟩⟩
      · rw [if_neg c]
        by_cases d : k = 0 ∨ ¬ B (kz_pC B p).2.1 = 59
        · rw [if_pos d]
          exact ⟨⟨by dsimp only; omega, g1.2⟩, fun z => by cases z⟩
        · rw [if_neg d]
          obtain ⟨x1, x2, x3⟩ := hs
          exact z_pH hB k ((kz_pC B p).2.1 + 1) _ _ (by omega) (by omega) (by omega) ⟨x1, by omega, x3⟩
