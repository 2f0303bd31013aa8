-- a tape read: what holds of what comes of it
def kz_ht (d : Nat) (e : List Int) : Prop := ∀ h : Nat, h + d ≤ 16 → kz_hg e h = some (h + 1)
def kz_Sm (ec er : List Int) : Prop := ∀ f, ∃ b : Bool, (∀ st, kz_run (kz_vC f) ec st = b :: st) ∧ ∀ st, kz_run (kz_vR f) er st = b :: st
def kz_Gd (d : Nat) (N p : Int) (r : kz_PR) : Prop := (p ≤ r.2.1 ∧ r.2.1 ≤ N) ∧ (r.1 = true → p < r.2.1 ∧ ((r.2.2.1.length : Int) ≤ r.2.1 - p ∧ (r.2.2.2.length : Int) ≤ r.2.1 - p) ∧ (kz_ht d r.2.2.1 ∧ kz_ht d r.2.2.2) ∧ ((∀ t ∈ r.2.2.1, kz_tkC t) ∧ ∀ t ∈ r.2.2.2, kz_tkR t) ∧ kz_Sm r.2.2.1 r.2.2.2)
theorem z_runA (v : Int → Bool) : ∀ (a b : List Int) (st : List Bool), kz_run v (a ++ b) st = kz_run v b (kz_run v a st)
  | [], b, st => rfl
  | c :: a, b, st => by
    rw [List.cons_append, z_run1, z_runA v a b, ← z_run1]
theorem z_hgA : ∀ (a b : List Int) (h : Nat), kz_hg (a ++ b) h = (kz_hg a h).bind (kz_hg b)
  | [], b, h => rfl
  | c :: a, b, h => by
    rw [List.cons_append, z_hg1, z_hg1 c a]
    cases kz_hg [c] h with
    | none => rfl
    | some m => exact z_hgA a b m
theorem z_ht1 {c : Int} (hc : 0 ≤ c) : kz_ht 1 [c] := fun h hh => by
  rw [kz_hg, if_pos hc, if_pos (by omega)]; rfl
theorem z_htM {d d' : Nat} {e : List Int} (h : kz_ht d e) (hd : d ≤ d') : kz_ht d' e := fun k hk => h k (by omega)
theorem z_htN {d : Nat} {e : List Int} (h : kz_ht d e) : kz_ht d (e ++ [-1]) := fun k hk => by
  rw [z_hgA, h k hk]
  show kz_hg [-1] (k + 1) = _
  rw [kz_hg, if_neg (by decide), if_pos rfl, if_pos (by omega)]; rfl
theorem z_htB {d : Nat} {a b : List Int} {c : Int} (hc : c < -1) (ha : kz_ht (d + 1) a) (hb : kz_ht d b) : kz_ht (d + 1) (a ++ b ++ [c]) := fun k hk => by
  rw [z_hgA, z_hgA, ha k hk]
  show ((kz_hg b (k + 1)).bind (kz_hg [c])) = _
  rw [hb (k + 1) (by omega)]
  show kz_hg [c] (k + 1 + 1) = _
  rw [kz_hg, if_neg (by omega), if_neg (by omega), if_pos (by omega)]; rfl
theorem z_SmN {a b : List Int} (h : kz_Sm a b) : kz_Sm (a ++ [-1]) (b ++ [-1]) := fun f => by
  obtain ⟨x, h1, h2⟩ := h f
  refine ⟨!x, fun st => ?_, fun st => ?_⟩
  · rw [z_runA, h1]; rfl
  · rw [z_runA, h2]; rfl
theorem z_SmB {a b a' b' : List Int} {c : Int} (hc : c = -2 ∨ c = -3) (h : kz_Sm a b) (h' : kz_Sm a' b') : kz_Sm (a ++ a' ++ [c]) (b ++ b' ++ [c]) := fun f => by
  obtain ⟨x, h1, h2⟩ := h f
  obtain ⟨y, h3, h4⟩ := h' f
  refine ⟨if c = -2 then x && y else x || y, fun st => ?_, fun st => ?_⟩
  · rw [z_runA, z_runA, h1, h3]
    rcases hc with rfl | rfl <;> rfl
  · rw [z_runA, z_runA, h2, h4]
    rcases hc with rfl | rfl <;> rfl
section PG
variable {B : Int → Int} {N : Int}
theorem z_pN (hB : ∀ x, 0 ≤ B x → x < N) {p : Int} : (((kz_pN B p).1 = -1 ∧ (kz_pN B p).2 = p) ∨ ((0 ≤ (kz_pN B p).1 ∧ (kz_pN B p).1 ≤ 99) ∧ p < (kz_pN B p).2 ∧ (kz_pN B p).2 ≤ N)) := by
  unfold kz_pN
  by_cases c : 48 ≤ B p ∧ B p ≤ 57
  · have h1 := hB p (by omega)
    rw [if_pos c]
    by_cases c0 : B p = 48
    · rw [if_pos c0]; exact Or.inr ⟨⟨by show (0 : Int) ≤ 0; decide, by show (0 : Int) ≤ 99; decide⟩, by show p < p + 1; omega, by show p + 1 ≤ N; omega⟩
    · rw [if_neg c0]
      by_cases c1 : 48 ≤ B (p + 1) ∧ B (p + 1) ≤ 57
      · have h2 := hB (p + 1) (by omega)
        rw [if_pos c1]
        refine Or.inr ⟨⟨?_, ?_⟩, ?_, ?_⟩ <;> dsimp only <;> omega
      · rw [if_neg c1]
        refine Or.inr ⟨⟨?_, ?_⟩, ?_, ?_⟩ <;> dsimp only <;> omega
  · rw [if_neg c]; exact Or.inl ⟨rfl, rfl⟩
theorem z_iS {x : Int} : kz_iS x = -1 ∨ ((0 ≤ kz_iS x ∧ kz_iS x ≤ 4) ∧ 0 ≤ x) := by
  unfold kz_iS; repeat' split
  all_goals omega
theorem z_iG {x : Int} : kz_iG x = -1 ∨ ((0 ≤ kz_iG x ∧ kz_iG x ≤ 2) ∧ 0 ≤ x) := by
  unfold kz_iG; repeat' split
  all_goals omega
theorem z_bad {d : Nat} {p q : Int} (h : p ≤ q) (h2 : q ≤ N) : kz_Gd d N p (kz_bad q) := ⟨⟨h, h2⟩, fun z => by cases z⟩
theorem z_gT (hB : ∀ x, 0 ≤ B x → x < N) {p : Int} (hp : p ≤ N) : kz_Gd 1 N p (kz_pT B p) := by
  unfold kz_pT
  rcases z_iS (x := B p) with h | ⟨h, h'⟩
  · rw [if_pos h]; exact z_bad (Int.le_refl _) hp
  · have n0 := hB p h'
    rw [if_neg (by omega)]
    rcases z_iG (x := B (p + 1)) with g | ⟨g, g'⟩
    · rw [if_pos g]; exact z_bad (by omega) (by omega)
    · have n1 := hB (p + 1) g'
      rw [if_neg (by omega)]
      rcases z_pN hB (p := p + 2) with ⟨m, _⟩ | ⟨m, m1, m2⟩
      · rw [if_pos m]; exact z_bad (by omega) (by omega)
      · rw [if_neg (by omega)]
        generalize kz_iS (B p) = i at *
        generalize kz_iG (B (p + 1)) = j at *
        generalize (kz_pN B (p + 2)).1 = v at *
        generalize (kz_pN B (p + 2)).2 = q at *
        refine ⟨⟨?_, ?_⟩, fun _ => ⟨?_, ⟨?_, ?_⟩, ⟨z_ht1 (by omega), z_ht1 (by omega)⟩, ⟨fun t ht => ?_, fun t ht => ?_⟩, fun f => ?_⟩⟩
        · show p ≤ q; omega
        · show q ≤ N; omega
        · show p < q; omega
        · show (1 : Int) ≤ q - p; omega
        · show (1 : Int) ≤ q - p; omega
        · rw [List.mem_singleton] at ht
          subst ht
          unfold kz_tkC; omega
        · rw [List.mem_singleton] at ht
          subst ht
          unfold kz_tkR; omega
        · have e : kz_vC f ((i * 3 + j) * 100 + v) = kz_vR f (i + 8 * j + 32 * v) := by
            unfold kz_vC kz_vR
            rw [show ((i * 3 + j) * 100 + v) / 300 = i by omega, show ((i * 3 + j) * 100 + v) / 100 % 3 = j by omega, show ((i * 3 + j) * 100 + v) % 100 = v by omega, show (i + 8 * j + 32 * v) % 8 = i by omega, show (i + 8 * j + 32 * v) / 8 % 4 = j by omega, show (i + 8 * j + 32 * v) / 32 = v by omega]
          refine ⟨kz_vC f ((i * 3 + j) * 100 + v), fun st => ?_, fun st => ?_⟩
          · show kz_run (kz_vC f) [] _ = _
            rw [if_pos (by omega)]; rfl
          · show kz_run (kz_vR f) [] _ = _
            rw [if_pos (by omega), ← e]; rfl
theorem z_gM {d d' : Nat} {p : Int} {r : kz_PR} (hd : d ≤ d') (h : kz_Gd d N p r) : kz_Gd d' N p r := ⟨h.1, fun z => by
  obtain ⟨a1, a2, a3, a4, a5⟩ := h.2 z
  exact ⟨a1, a2, ⟨z_htM a3.1 hd, z_htM a3.2 hd⟩, a4, a5⟩⟩
theorem z_gL (hB : ∀ x, 0 ≤ B x → x < N) {d : Nat} {F : Int → kz_PR} {g c p : Int} (hg : 0 ≤ g) (hc : c = -2 ∨ c = -3) (hF : ∀ q, q ≤ N → kz_Gd d N q (F q)) : ∀ (n : Nat) (r : kz_PR), kz_Gd (d + 1) N p r → kz_Gd (d + 1) N p (kz_pL F B g c n r)
  | 0, r, h => h
  | n + 1, r, h => by
    rw [kz_pL]
    by_cases hr : r.1 = true ∧ B r.2.1 = g
    · rw [if_pos hr]
      have hlt := hB r.2.1 (by omega)
      have hq := hF (r.2.1 + 1) (by omega)
      dsimp only
      generalize F (r.2.1 + 1) = t at hq ⊢
      by_cases ht : t.1 = true
      · rw [if_pos ht]
        obtain ⟨a1, a2, a3, a4, a5⟩ := h.2 hr.1
        obtain ⟨b1, b2, b3, b4, b5⟩ := hq.2 ht
        refine z_gL hB hg hc hF n _ ⟨⟨?_, hq.1.2⟩, fun _ => ⟨?_, ⟨?_, ?_⟩, ⟨z_htB (by omega) a3.1 b3.1, z_htB (by omega) a3.2 b3.2⟩, ⟨fun x hx => ?_, fun x hx => ?_⟩, z_SmB hc a5 b5⟩⟩
        · show p ≤ t.2.1; omega
        · show p < t.2.1; omega
        · show ((r.2.2.1 ++ t.2.2.1 ++ [c]).length : Int) ≤ t.2.1 - p
          simp only [List.length_append, List.length_cons, List.length_nil]; omega
        · show ((r.2.2.2 ++ t.2.2.2 ++ [c]).length : Int) ≤ t.2.1 - p
          simp only [List.length_append, List.length_cons, List.length_nil]; omega
        · rcases List.mem_append.mp hx with hx | hx
          · rcases List.mem_append.mp hx with hx | hx
            · exact a4.1 x hx
            · exact b4.1 x hx
          · rw [List.mem_singleton] at hx
            subst hx; unfold kz_tkC; omega
        · rcases List.mem_append.mp hx with hx | hx
          · rcases List.mem_append.mp hx with hx | hx
            · exact a4.2 x hx
            · exact b4.2 x hx
          · rw [List.mem_singleton] at hx
            subst hx; unfold kz_tkR; omega
      · rw [if_neg ht]; exact z_bad (Int.le_trans h.1.1 (by have := hq.1.1; omega)) hq.1.2
    · rw [if_neg hr]; exact h
/-- a factor before its marks are put -/
def kz_Gf (d : Nat) (N p : Int) (r : kz_PR × Bool) : Prop := (p ≤ r.1.2.1 ∧ r.1.2.1 ≤ N) ∧ (r.1.1 = true → p < r.1.2.1 ∧ ((r.1.2.2.1.length : Int) + (if r.2 = true then 1 else 0) ≤ r.1.2.1 - p ∧ (r.1.2.2.2.length : Int) ≤ r.1.2.1 - p) ∧ (kz_ht d r.1.2.2.1 ∧ kz_ht d r.1.2.2.2) ∧ ((∀ t ∈ r.1.2.2.1, kz_tkC t) ∧ ∀ t ∈ r.1.2.2.2, kz_tkR t) ∧ ∀ f, ∃ b : Bool, (∀ st, kz_run (kz_vC f) r.1.2.2.1 st = b :: st) ∧ ∀ st, kz_run (kz_vR f) r.1.2.2.2 st = (b ^^ r.2) :: st)
theorem z_gfx {d : Nat} {p : Int} {r : kz_PR × Bool} (h : kz_Gf d N p r) : kz_Gd d N p (kz_pFx r) := by
  obtain ⟨⟨ok, q, ec, er⟩, fl⟩ := r
  refine ⟨h.1, fun z => ?_⟩
  obtain ⟨a1, a2, a3, a4, a5⟩ := h.2 z
  cases fl with
  | false =>
    have e : (kz_pFx ((ok, q, ec, er), false)) = (ok, q, ec, er) := by unfold kz_pFx; simp
    rw [e]
    refine ⟨a1, ⟨by simpa using a2.1, a2.2⟩, a3, a4, fun f => ?_⟩
    obtain ⟨b, b1, b2⟩ := a5 f
    exact ⟨b, b1, fun st => by rw [b2]; simp⟩
  | true =>
    have e : (kz_pFx ((ok, q, ec, er), true)) = (ok, q, ec ++ [-1], er) := rfl
    rw [e]
    refine ⟨a1, ⟨?_, a2.2⟩, ⟨z_htN a3.1, a3.2⟩, ⟨fun x hx => ?_, a4.2⟩, fun f => ?_⟩
    · have := a2.1
      simp only [List.length_append, List.length_cons, List.length_nil] at this ⊢
      simp at this
      omega
    · rcases List.mem_append.mp hx with hx | hx
      · exact a4.1 x hx
      · rw [List.mem_singleton] at hx
        subst hx; exact Or.inl rfl
    · obtain ⟨b, b1, b2⟩ := a5 f
      refine ⟨!b, fun st => ?_, fun st => by rw [b2]; simp⟩
      show kz_run (kz_vC f) (ec ++ [-1]) st = _
      rw [z_runA, b1]; rfl
theorem z_badf {d : Nat} {p q : Int} {b : Bool} (h : p ≤ q) (h2 : q ≤ N) : kz_Gf d N p (kz_bad q, b) := ⟨⟨h, h2⟩, fun z => by cases z⟩
theorem z_gF (hB : ∀ x, 0 ≤ B x → x < N) {E : Int → Int → kz_PR} (hE : ∀ o q, 1 ≤ o → o ≤ 5 → q ≤ N → kz_Gd (13 - 2 * Int.toNat o) N q (E o q)) : ∀ (n : Nat) (o p : Int), 0 ≤ o → o ≤ 5 → p ≤ N → kz_Gf (11 - 2 * Int.toNat o) N p (kz_pF E B n o p)
  | 0, o, p, _, _, hp => z_badf (Int.le_refl _) hp
  | n + 1, o, p, h0, h5, hp => by
    rw [kz_pF]
    by_cases c1 : B p = 33
    · have hlt := hB p (by omega)
      rw [if_pos c1]
      by_cases c : o = 5
      · rw [if_pos c]; exact z_badf (Int.le_refl _) hp
      · rw [if_neg c]
        have ih := z_gF hB hE n (o + 1) (p + 1) (by omega) (by omega) (by omega)
        dsimp only
        generalize kz_pF E B n (o + 1) (p + 1) = t at ih ⊢
        obtain ⟨⟨ok, q, ec, er⟩, fl⟩ := t
        refine ⟨⟨?_, ih.1.2⟩, fun z => ?_⟩
        · have : p + 1 ≤ q := ih.1.1
          show p ≤ q; omega
        · obtain ⟨a1, a2, a3, a4, a5⟩ := ih.2 z
          have a1' : p + 1 < q := a1
          have l1 : (ec.length : Int) + (if fl = true then 1 else 0) ≤ q - (p + 1) := a2.1
          have l2 : (er.length : Int) ≤ q - (p + 1) := a2.2
          refine ⟨?_, ⟨?_, ?_⟩, ⟨z_htM a3.1 (by omega), z_htN (z_htM a3.2 (by omega))⟩, ⟨a4.1, fun x hx => ?_⟩, fun f => ?_⟩
          · show p < q; omega
          · show (ec.length : Int) + (if (!fl) = true then 1 else 0) ≤ q - p
            cases fl <;> simp at l1 ⊢ <;> omega
          · show ((er ++ [-1]).length : Int) ≤ q - p
            simp only [List.length_append, List.length_cons, List.length_nil]; omega
          · rcases List.mem_append.mp hx with hx | hx
            · exact a4.2 x hx
            · rw [List.mem_singleton] at hx
              subst hx; exact Or.inl rfl
          · obtain ⟨b, b1, b2⟩ := a5 f
            refine ⟨b, b1, fun st => ?_⟩
            show kz_run (kz_vR f) (er ++ [-1]) st = _
            rw [z_runA]
            have b2' : kz_run (kz_vR f) er st = (b ^^ fl) :: st := b2 st
            rw [b2']
            show (!(b ^^ fl)) :: st = (b ^^ (!fl)) :: st
            cases b <;> cases fl <;> rfl
    · rw [if_neg c1]
      by_cases c2 : B p = 40
      · have hlt := hB p (by omega)
        rw [if_pos c2]
        by_cases c : o = 5
        · rw [if_pos c]; exact z_badf (Int.le_refl _) hp
        · rw [if_neg c]
          have hq := hE (o + 1) (p + 1) (by omega) (by omega) (by omega)
          dsimp only
          generalize E (o + 1) (p + 1) = t at hq ⊢
          by_cases ht : t.1 = true ∧ B t.2.1 = 41
          · rw [if_pos ht]
            have hlt2 := hB t.2.1 (by omega)
            obtain ⟨a1, a2, a3, a4, a5⟩ := hq.2 ht.1
            refine ⟨⟨?_, ?_⟩, fun _ => ⟨?_, ⟨?_, ?_⟩, ⟨z_htM a3.1 (by omega), z_htM a3.2 (by omega)⟩, a4, fun f => ?_⟩⟩
            · show p ≤ t.2.1 + 1; omega
            · show t.2.1 + 1 ≤ N; omega
            · show p < t.2.1 + 1; omega
            · show (t.2.2.1.length : Int) + (if false = true then 1 else 0) ≤ t.2.1 + 1 - p
              rw [if_neg (by decide)]; omega
            · show (t.2.2.2.length : Int) ≤ t.2.1 + 1 - p; omega
            · obtain ⟨b, b1, b2⟩ := a5 f
              exact ⟨b, b1, fun st => by rw [b2]; simp⟩
          · rw [if_neg ht]; exact z_badf (by have := hq.1.1; omega) hq.1.2
      · rw [if_neg c2]
        have hT := z_gT hB (p := p) hp
        refine ⟨hT.1, fun z => ?_⟩
        obtain ⟨a1, a2, a3, a4, a5⟩ := hT.2 z
        refine ⟨a1, ⟨?_, a2.2⟩, ⟨z_htM a3.1 (by omega), z_htM a3.2 (by omega)⟩, a4, fun f => ?_⟩
        · have := a2.1
          show ((kz_pT B p).2.2.1.length : Int) + (if false = true then 1 else 0) ≤ (kz_pT B p).2.1 - p
          rw [if_neg (by decide)]; omega
        · obtain ⟨b, b1, b2⟩ := a5 f
          exact ⟨b, b1, fun st => by rw [b2]; simp⟩
theorem z_gE (hB : ∀ x, 0 ≤ B x → x < N) : ∀ (n : Nat) (o p : Int), 0 ≤ o → o ≤ 5 → p ≤ N → kz_Gd (13 - 2 * Int.toNat o) N p (kz_pE B n o p)
  | 0, o, p, _, _, hp => z_bad (Int.le_refl _) hp
  | n + 1, o, p, h0, h5, hp => by
    have hF : ∀ q, q ≤ N → kz_Gd (11 - 2 * Int.toNat o) N q (kz_pFx (kz_pF (kz_pE B n) B 7 o q)) := fun q hq => z_gfx (z_gF hB (fun o' q' o0 o1 hq' => z_gE hB n o' q' (by omega) o1 hq') 7 o q h0 h5 hq)
    have hBt : ∀ q, q ≤ N → kz_Gd (11 - 2 * Int.toNat o + 1) N q (kz_pL (fun q => kz_pFx (kz_pF (kz_pE B n) B 7 o q)) B 38 (-2) 130 (kz_pFx (kz_pF (kz_pE B n) B 7 o q))) := fun q hq => z_gL hB (by decide) (Or.inl rfl) hF 130 _ (z_gM (by omega) (hF q hq))
    have := z_gL (F := fun q => kz_pL (fun q => kz_pFx (kz_pF (kz_pE B n) B 7 o q)) B 38 (-2) 130 (kz_pFx (kz_pF (kz_pE B n) B 7 o q))) hB (g := 124) (c := -3) (by decide) (Or.inr rfl) hBt 130 _ (z_gM (d' := 11 - 2 * Int.toNat o + 1 + 1) (by omega) (hBt p hp))
    rw [show 13 - 2 * Int.toNat o = 11 - 2 * Int.toNat o + 1 + 1 by omega]
    exact this
end PG
