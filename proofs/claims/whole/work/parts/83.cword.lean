-- a tape read: words, clauses, houses, in numbers
def kz_pS (B : Int → Int) : List Int → Int → Bool × Int
  | [], p => (true, p)
  | c :: r, p => if B p = c then kz_pS B r (p + 1) else (false, p)
def kz_w1 (w : Int) (r : Bool × Int) : Int × Int := (if r.1 = true then w else -1, r.2)
def kz_pW (B : Int → Int) (p : Int) : Int × Int :=
  if B p = 103 then kz_w1 0 (kz_pS B [103, 114, 111, 119, 32] p) else if B p = 104 then (if B (p + 1) = 111 then kz_w1 1 (kz_pS B [111, 108, 100, 32] (p + 1)) else kz_w1 6 (kz_pS B [101, 97, 114, 32] (p + 1)))
  else if B p = 119 then kz_w1 2 (kz_pS B [119, 97, 114, 109, 32] p) else if B p = 99 then kz_w1 3 (kz_pS B [99, 111, 111, 108, 32] p) else if B p = 105 then kz_w1 4 (kz_pS B [105, 114, 111, 110, 32] p) else if B p = 97 then kz_w1 5 (kz_pS B [97, 105, 114, 32] p) else (-1, p)
abbrev kz_PC : Type := Bool × Int × Int × Int × List Int × List Int
def kz_pC (B : Int → Int) (p : Int) : kz_PC := if (kz_pW B p).1 = -1 then (false, (kz_pW B p).2, 0, 0, [], []) else
  let q := kz_pN B (kz_pW B p).2
  if q.1 = -1 then (false, q.2, 0, 0, [], []) else if 2 ≤ (kz_pW B p).1 then (true, q.2, (kz_pW B p).1, q.1, [], [])
  else if B q.2 = 32 then (let t := kz_pE B 10 0 (q.2 + 1); (t.1, t.2.1, (kz_pW B p).1, q.1, t.2.2.1, t.2.2.2)) else (false, q.2, 0, 0, [], [])
def kz_cU (t : kz_PC) (cls : List kz_C) : List kz_C := if 2 ≤ t.2.2.1 then cls else cls ++ [(decide (t.2.2.1 = 0), t.2.2.2.1, t.2.2.2.2.1, t.2.2.2.2.2)]
def kz_uU (t : kz_PC) (u : Int → Int) : Int → Int := if 2 ≤ t.2.2.1 then (fun j => if j = t.2.2.1 - 2 then t.2.2.2.1 else u j) else u
abbrev kz_PH : Type := Bool × Int × List kz_C × (Int → Int)
def kz_pH (B : Int → Int) (N : Int) : Nat → Int → List kz_C → (Int → Int) → kz_PH
  | 0, p, cls, u => (false, p, cls, u)
  | k + 1, p, cls, u => let t := kz_pC B p
    if t.1 = false then (false, t.2.1, cls, u) else if t.2.1 = N then (true, N, kz_cU t cls, kz_uU t u) else if k = 0 ∨ ¬ B t.2.1 = 59 then (false, t.2.1, cls, u) else kz_pH B N k (t.2.1 + 1) (kz_cU t cls) (kz_uU t u)
section PW
variable {B : Int → Int} {N : Int}
theorem z_pS (hB : ∀ x, 0 ≤ B x → x < N) : ∀ (l : List Int) (p : Int), (∀ c ∈ l, 0 ≤ c) → p ≤ N → p ≤ (kz_pS B l p).2 ∧ (kz_pS B l p).2 ≤ N ∧ ((kz_pS B l p).1 = true → (kz_pS B l p).2 = p + (l.length : Int))
  | [], p, _, hp => ⟨Int.le_refl _, hp, fun _ => by show p = p + 0; omega⟩
  | c :: r, p, hl, hp => by
    rw [kz_pS]
    by_cases h : B p = c
    · rw [if_pos h]
      have h0 := hl c (by simp)
      have := hB p (by omega)
      have ih := z_pS hB r (p + 1) (fun d hd => hl d (by simp [hd])) (by omega)
      have e : ((c :: r).length : Int) = (r.length : Int) + 1 := by simp
      refine ⟨by omega, by omega, fun z => ?_⟩
      rw [ih.2.2 z, e]; omega
    · rw [if_neg h]
      exact ⟨Int.le_refl _, hp, fun z => by cases z⟩
theorem z_pw1 (hB : ∀ x, 0 ≤ B x → x < N) {w : Int} (hw : 0 ≤ w ∧ w ≤ 6) {l : List Int} {p0 p : Int} (hl : ∀ c ∈ l, 0 ≤ c) (hp : p ≤ N) (h0 : p0 ≤ p) (hn : 0 < l.length) : ((kz_w1 w (kz_pS B l p)).1 = -1 ∧ p0 ≤ (kz_w1 w (kz_pS B l p)).2 ∧ (kz_w1 w (kz_pS B l p)).2 ≤ N) ∨ ((0 ≤ (kz_w1 w (kz_pS B l p)).1 ∧ (kz_w1 w (kz_pS B l p)).1 ≤ 6) ∧ p0 < (kz_w1 w (kz_pS B l p)).2 ∧ (kz_w1 w (kz_pS B l p)).2 ≤ N) := by
  have h := z_pS hB l p hl hp
  unfold kz_w1
  by_cases c : (kz_pS B l p).1 = true
  · rw [if_pos c]
    have := h.2.2 c
    exact Or.inr ⟨hw, by dsimp only; omega, h.2.1⟩
  · rw [if_neg c]
    exact Or.inl ⟨rfl, by dsimp only; omega, h.2.1⟩
theorem z_pW (hB : ∀ x, 0 ≤ B x → x < N) {p : Int} (hp : p ≤ N) : ((kz_pW B p).1 = -1 ∧ p ≤ (kz_pW B p).2 ∧ (kz_pW B p).2 ≤ N) ∨ ((0 ≤ (kz_pW B p).1 ∧ (kz_pW B p).1 ≤ 6) ∧ p < (kz_pW B p).2 ∧ (kz_pW B p).2 ≤ N) := by
  unfold kz_pW
  by_cases c1 : B p = 103
  · rw [if_pos c1]; exact z_pw1 hB (by decide) (by decide) hp (Int.le_refl _) (by decide)
  rw [if_neg c1]
  by_cases c2 : B p = 104
  · have := hB p (by omega)
    rw [if_pos c2]
    by_cases d : B (p + 1) = 111
    · rw [if_pos d]; exact z_pw1 hB (by decide) (by decide) (by omega) (by omega) (by decide)
    · rw [if_neg d]; exact z_pw1 hB (by decide) (by decide) (by omega) (by omega) (by decide)
  rw [if_neg c2]
  by_cases c3 : B p = 119
  · rw [if_pos c3]; exact z_pw1 hB (by decide) (by decide) hp (Int.le_refl _) (by decide)
  rw [if_neg c3]
  by_cases c4 : B p = 99
  · rw [if_pos c4]; exact z_pw1 hB (by decide) (by decide) hp (Int.le_refl _) (by decide)
  rw [if_neg c4]
  by_cases c5 : B p = 105
  · rw [if_pos c5]; exact z_pw1 hB (by decide) (by decide) hp (Int.le_refl _) (by decide)
  rw [if_neg c5]
  by_cases c6 : B p = 97
  · rw [if_pos c6]; exact z_pw1 hB (by decide) (by decide) hp (Int.le_refl _) (by decide)
  rw [if_neg c6]
  exact Or.inl ⟨rfl, Int.le_refl _, hp⟩
/-- what holds of a clause read -/
def kz_Gc2 (N p : Int) (t : kz_PC) : Prop := (p ≤ t.2.1 ∧ t.2.1 ≤ N) ∧ (t.1 = true → p < t.2.1 ∧ (0 ≤ t.2.2.1 ∧ t.2.2.1 ≤ 6) ∧ (0 ≤ t.2.2.2.1 ∧ t.2.2.2.1 ≤ 99) ∧ ((t.2.2.2.2.1.length : Int) < t.2.1 - p ∧ (t.2.2.2.2.2.length : Int) < t.2.1 - p) ∧ (t.2.2.1 < 2 → kz_wfc (decide (t.2.2.1 = 0), t.2.2.2.1, t.2.2.2.2.1, t.2.2.2.2.2)))
theorem z_pC (hB : ∀ x, 0 ≤ B x → x < N) {p : Int} (hp : p ≤ N) : kz_Gc2 N p (kz_pC B p) := by
  have hw := z_pW hB hp
  unfold kz_pC
  by_cases c1 : (kz_pW B p).1 = -1
  · rw [if_pos c1]
    exact ⟨⟨by dsimp only; omega, by dsimp only; omega⟩, fun z => by cases z⟩
  rw [if_neg c1]
  have hn := z_pN hB (p := (kz_pW B p).2)
  dsimp only
  generalize (kz_pW B p).1 = w at *
  generalize (kz_pW B p).2 = q at *
  generalize kz_pN B q = m at *
  obtain ⟨m1, m2⟩ := m
  dsimp only at hn ⊢
  by_cases c2 : m1 = -1
  · rw [if_pos c2]
    exact ⟨⟨by dsimp only; omega, by dsimp only; omega⟩, fun z => by cases z⟩
  rw [if_neg c2]
  by_cases c3 : 2 ≤ w
  · rw [if_pos c3]
    exact ⟨⟨by dsimp only; omega, by dsimp only; omega⟩, fun _ => ⟨by dsimp only; omega, by dsimp only; omega, by dsimp only; omega, ⟨by simp; omega, by simp; omega⟩, fun z => by dsimp only at z; omega⟩⟩
  rw [if_neg c3]
  by_cases c4 : B m2 = 32
  · rw [if_pos c4]
    have := hB m2 (by omega)
    have g := z_gE hB 10 0 (m2 + 1) (by decide) (by decide) (by omega)
    generalize kz_pE B 10 0 (m2 + 1) = t at *
    obtain ⟨ok, r, ec, er⟩ := t
    have g1 : m2 + 1 ≤ r := g.1.1
    have g2 : r ≤ N := g.1.2
    refine ⟨⟨by dsimp only; omega, g2⟩, fun z => ?_⟩
    obtain ⟨a1, a2, a3, a4, a5⟩ := g.2 z
    have b1 : m2 + 1 < r := a1
    have b2 : (ec.length : Int) ≤ r - (m2 + 1) := a2.1
    have b3 : (er.length : Int) ≤ r - (m2 + 1) := a2.2
    refine ⟨by dsimp only; omega, by dsimp only; omega, by dsimp only; omega, ⟨by dsimp only; omega, by dsimp only; omega⟩, fun _ => ⟨by dsimp only; omega, a3.1 0 (by decide), a3.2 0 (by decide), a4.1, a4.2, fun f => ?_⟩⟩
    obtain ⟨b, e1, e2⟩ := a5 f
    show kz_run (kz_vC f) ec [] = kz_run (kz_vR f) er []
    rw [e1, e2]
  · rw [if_neg c4]
    exact ⟨⟨by dsimp only; omega, by dsimp only; omega⟩, fun z => by cases z⟩
end PW
-- the class reads a word
def kz_wl (may sign c : Int) : Nat → Int × Int
  | 0 => (-1, 0)
  | k + 1 => if may / 2 ^ k % 2 = 1 ∧ kp_sch 2 ((k : Int) * 5 + sign) = c then ((k : Int), (kz_wl may sign c k).2 + 2 ^ k) else kz_wl may sign c k
theorem z_wlr {may sign c : Int} : ∀ k : Nat, (0 ≤ (kz_wl may sign c k).2 ∧ (kz_wl may sign c k).2 < 2 ^ k) ∧ -1 ≤ (kz_wl may sign c k).1 ∧ (kz_wl may sign c k).1 < (k : Int)
  | 0 => ⟨by show (0 : Int) ≤ 0 ∧ (0 : Int) < 2 ^ 0; decide, by show (-1 : Int) ≤ -1 ∧ (-1 : Int) < 0; decide⟩
  | k + 1 => by
    have h := z_wlr (may := may) (sign := sign) (c := c) k
    have hp : (2 : Int) ^ (k + 1) = 2 ^ k + 2 ^ k := by rw [Int.pow_succ]; omega
    rw [kz_wl]
    split
    · exact ⟨by dsimp only; omega, by dsimp only; omega⟩
    · exact ⟨by omega, by omega⟩
theorem z_wlN {may sign c : Int} {m : Nat} (h : ∀ k : Nat, k < m → may / 2 ^ k % 2 = 1 → ¬ kp_sch 2 ((k : Int) * 5 + sign) = c) : kz_wl may sign c m = (-1, 0) := by
  induction m with
  | zero => rfl
  | succ m ih => rw [kz_wl, if_neg (fun z => h m (by omega) z.1 z.2), ih (fun k hk => h k (by omega))]
theorem z_wl1 {w : Nat} {sign c : Int} {m : Nat} (hw : w < m) : kz_wl (2 ^ w) sign c m = if kp_sch 2 ((w : Int) * 5 + sign) = c then ((w : Int), 2 ^ w) else (-1, 0) := by
  have hb : ∀ k : Nat, (2 : Int) ^ w / 2 ^ k % 2 = 1 ↔ w = k := fun k => by
    have := kz_pw w k
    unfold kz_t at this
    rw [decide_eq_decide] at this
    exact this
  induction m with
  | zero => omega
  | succ m ih =>
    rw [kz_wl]
    by_cases h : w = m
    · subst h
      have e : kz_wl (2 ^ w) sign c w = (-1, 0) := z_wlN (fun k hk z => absurd ((hb k).mp z) (by omega))
      by_cases d : kp_sch 2 ((w : Int) * 5 + sign) = c
      · rw [if_pos ⟨(hb w).mpr rfl, d⟩, if_pos d, e]; show ((w : Int), (0 : Int) + 2 ^ w) = _; rw [Int.zero_add]
      · rw [if_neg (fun z => d z.2), if_neg d, e]
    · rw [if_neg (fun z => h ((hb m).mp z.1)), ih (by omega)]
theorem z_wl0 {c : Int} : kz_wl 127 0 c 7 = if c = 103 then (0, 1) else if c = 104 then (6, 66) else if c = 119 then (2, 4) else if c = 99 then (3, 8) else if c = 105 then (4, 16) else if c = 97 then (5, 32) else (-1, 0) := by
  by_cases c1 : c = 103
  · rw [if_pos c1, c1]; decide +kernel
  rw [if_neg c1]
  by_cases c2 : c = 104
  · rw [if_pos c2, c2]; decide +kernel
  rw [if_neg c2]
  by_cases c3 : c = 119
  · rw [if_pos c3, c3]; decide +kernel
  rw [if_neg c3]
  by_cases c4 : c = 99
  · rw [if_pos c4, c4]; decide +kernel
  rw [if_neg c4]
  by_cases c5 : c = 105
  · rw [if_pos c5, c5]; decide +kernel
  rw [if_neg c5]
  by_cases c6 : c = 97
  · rw [if_pos c6, c6]; decide +kernel
  rw [if_neg c6]
  refine z_wlN (fun k hk _ => ?_)
  have key : ∀ k : Nat, k < 7 → kp_sch 2 ((k : Int) * 5 + 0) = 103 ∨ kp_sch 2 ((k : Int) * 5 + 0) = 104 ∨ kp_sch 2 ((k : Int) * 5 + 0) = 119 ∨ kp_sch 2 ((k : Int) * 5 + 0) = 99 ∨ kp_sch 2 ((k : Int) * 5 + 0) = 105 ∨ kp_sch 2 ((k : Int) * 5 + 0) = 97 := by decide +kernel
  have := key k hk
  omega
theorem z_wl66 {c : Int} : kz_wl 66 1 c 7 = if c = 111 then (1, 2) else if c = 101 then (6, 64) else (-1, 0) := by
  by_cases c1 : c = 111
  · rw [if_pos c1, c1]; decide +kernel
  rw [if_neg c1]
  by_cases c2 : c = 101
  · rw [if_pos c2, c2]; decide +kernel
  rw [if_neg c2]
  refine z_wlN (fun k hk hz => ?_)
  have key : ∀ k : Nat, k < 7 → (66 : Int) / 2 ^ k % 2 = 1 → kp_sch 2 ((k : Int) * 5 + 1) = 111 ∨ kp_sch 2 ((k : Int) * 5 + 1) = 101 := by decide +kernel
  have := key k hk hz
  omega
section CWO
variable {B : Int → Int} {N : Int} {Q : Int → kp_W → Prop}
theorem c_wordI (hB : kz_By B N) {σ : kp_W} {p may sign : Int} (hp : kz_pre B N p σ) (hm : 0 ≤ may ∧ may < 128) (hs : 0 ≤ sign ∧ sign < 5) {k : Int → Int → kp_W → kp_R} (hk : kp_ok (k (kz_wl may sign (B p) 7).1 (kz_wl may sign (B p) 7).2 σ) Q) : ∀ (n j : Nat), j ≤ 7 → 7 - j < n → kp_ok (kl_X5_word_18 may sign n (kz_wl may sign (B p) j).1 (kz_wl may sign (B p) j).2 (j : Int) σ k) Q
  | 0, j, h1, h2 => by omega
  | n + 1, j, h1, h2 => by
    rw [kl_X5_word_18]
    refine k_ls ⟨by omega, by omega⟩ (by decide) (fun d => k_ck ⟨⟨by omega, by omega⟩, by omega, by omega⟩ ?_) (fun d => ?_)
    · have ih := c_wordI hB hp hm hs hk n (j + 1) (by omega) (by omega)
      have ej : ((j + 1 : Nat) : Int) = (j : Int) + 1 := by omega
      rw [kz_wl, ej] at ih
      rw [kz_and1, Int.toNat_natCast]
      have hr := z_wlr (may := may) (sign := sign) (c := B p) j
      refine k_eq ⟨by omega, by omega⟩ (by decide) (fun c => ?_) (fun c => ?_)
      · rw [if_neg (fun z => by omega)] at ih
        exact k_lt ih
      · have hx : 0 ≤ (j : Int) * 5 + sign ∧ (j : Int) * 5 + sign < kp_slen 2 := ⟨by omega, by rw [show kp_slen 2 = 35 by decide +kernel]; omega⟩
        have hc := kp_schR (i := 2) (by decide) hx
        refine k_ck hx (k_e (c_peek hB hp.1 hp.2.1 hp.2.2.1) (k_eq ⟨by omega, by omega⟩ (z_ByI hB p).1 (fun e => k_ck ⟨by omega, by omega⟩ ?_) (fun e => ?_)))
        · rw [if_pos ⟨by omega, e⟩] at ih
          rw [z_or1 (by omega) hr.1]
          exact k_lt (k_lt (k_lt ih))
        · rw [if_neg (fun z => e z.2)] at ih
          exact k_lt ih
    · have : j = 7 := by omega
      subst this
      exact hk
/-- one sign of a word -/
theorem c_word1 (hB : kz_By B N) {σ : kp_W} {p may sign : Int} (hp : kz_pre B N p σ) (hm : 0 ≤ may ∧ may < 128) (hs : 0 ≤ sign ∧ sign < 5) {n : Nat} {k : kp_W → kp_R} {r : Int × Int} (hr : kz_wl may sign (B p) 7 = r) (h0 : r.2 = 0 → Q (-1) σ) (h1 : ¬ r.2 = 0 → B p = 32 → Q r.1 (kp_up σ 39 2 (p + 1))) (h2 : ¬ r.2 = 0 → ¬ B p = 32 → kp_ok (kl_X5_word_5 n r.2 (sign + 1) (kp_up σ 39 2 (p + 1)) k) Q) : kp_ok (kl_X5_word_5 (n + 1) may sign σ k) Q := by
  rw [kl_X5_word_5]
  have hw := z_wlr (may := may) (sign := sign) (c := B p) 7
  rw [hr] at hw
  refine k_ls ⟨by omega, by omega⟩ (by decide) (fun _ => k_lt (k_lt (k_lt ?_))) (fun z => by omega)
  refine c_wordI hB hp hm hs ?_ kp_fu 0 (by decide) (by rw [kp_fu_eq]; decide)
  rw [hr]
  refine k_eq ⟨by omega, by omega⟩ (by decide) (fun c => k_some (h0 c)) (fun c => c_eats hB hp.1 hp.2.1 hp.2.2.1 (by decide) (fun g => k_eq (by decide) (by decide) (fun z => absurd z (by decide)) (fun _ => k_some (h1 c g))) (fun g => k_eq (by decide) (by decide) (fun _ => k_lt (k_lt (k_lt ?_))) (fun z => absurd rfl z)))
  rw [hp.2.1]
  exact h2 c g
def kz_wr (w k : Int) : List Int → Prop
  | [] => False
  | c :: r => (kp_sch 2 (w * 5 + k) = c ∧ 0 ≤ c) ∧ k < 5 ∧ ((c = 32 ∧ r = []) ∨ (¬ c = 32 ∧ kz_wr w (k + 1) r))
def kz_Wq (r : Int × Int) (σ : kp_W) (v : Int) (σ' : kp_W) : Prop := v = r.1 ∧ kz_Fp σ σ' ∧ σ' 40 6 = σ 40 6 ∧ σ' 42 = σ 42 ∧ σ' 39 2 = r.2
theorem z_WqU {r : Int × Int} {σ : kp_W} {x v : Int} {σ' : kp_W} (h : kz_Wq r (kp_up σ 39 2 x) v σ') : kz_Wq r σ v σ' := by
  obtain ⟨h1, h2, h3, h4, h5⟩ := h
  exact ⟨h1, z_FpT (z_adv z_Fp0) h2, by rw [h3, kp_up_ne (by decide)], by rw [h4, kp_up_ne (by decide)], h5⟩
theorem c_wordS (hB : kz_By B N) {w : Nat} (hw : w < 7) {k : kp_W → kp_R} : ∀ (l : List Int) (n : Nat) (s p : Int) (σ : kp_W), 0 ≤ s → kz_wr (w : Int) s l → 5 - s < n → kz_pre B N p σ → kp_ok (kl_X5_word_5 n (2 ^ w) s σ k) (kz_Wq (kz_w1 (w : Int) (kz_pS B l p)) σ)
  | [], _, _, _, _, _, h, _, _ => h.elim
  | c :: r, 0, s, p, σ, h0, h, h2, hp => by have := h.2.1; omega
  | c :: r, n + 1, s, p, σ, h0, h, h2, hp => by
    obtain ⟨⟨h3, h3'⟩, h4, h5⟩ := h
    have hpw : (0 : Int) < 2 ^ w := Int.pow_pos (by decide)
    have h128 := (kz_pwle (n := w) (k := 7) hw).2
    have e := z_wl1 (w := w) (sign := s) (c := B p) (m := 7) hw
    rw [h3] at e
    rw [kz_pS]
    by_cases d : B p = c
    · rw [if_pos d.symm] at e
      rw [if_pos d]
      have hlt := z_By hB p (by omega)
      have hpU := z_preU hp (by omega)
      refine c_word1 hB hp ⟨by omega, by omega⟩ ⟨h0, h4⟩ e (fun z => by dsimp only at z; omega) (fun _ g => ?_) (fun _ g => ?_)
      · rcases h5 with ⟨_, rfl⟩ | ⟨z, _⟩
        · exact ⟨rfl, z_adv z_Fp0, by rw [kp_up_ne (by decide)], by rw [kp_up_ne (by decide)], z_up0e⟩
        · omega
      · rcases h5 with ⟨z, _⟩ | ⟨_, h6⟩
        · omega
        · exact k_mono (c_wordS hB hw r n (s + 1) (p + 1) _ (by omega) h6 (by omega) hpU) (fun v σ' h => z_WqU h)
    · rw [if_neg (fun z => d z.symm)] at e
      rw [if_neg d]
      exact c_word1 hB hp ⟨by omega, by omega⟩ ⟨h0, h4⟩ e (fun _ => ⟨rfl, z_Fp0, rfl, rfl, hp.2.1⟩) (fun z => absurd rfl z) (fun z => absurd rfl z)
theorem c_word (hB : kz_By B N) {σ : kp_W} {p : Int} (hp : kz_pre B N p σ) : kp_ok (kf_X5_word σ) (kz_Wq (kz_pW B p) σ) := by
  unfold kf_X5_word
  refine k_lt (k_lt ?_)
  rw [show kp_fu = 99999 + 1 by rw [kp_fu_eq]]
  have e := z_wl0 (c := B p)
  have no : ∀ {c : Int}, B p = c → 0 ≤ c → ¬ c = 32 → kz_pre B N (p + 1) (kp_up σ 39 2 (p + 1)) := fun h h0 _ => z_preU hp (by have := z_By hB p (by omega); omega)
  have pS : ∀ {c : Int} {l : List Int}, B p = c → kz_pS B (c :: l) p = kz_pS B l (p + 1) := fun h => by rw [kz_pS, if_pos h]
  have one : ∀ {w : Nat} {c : Int} {l : List Int}, w < 7 → B p = c → 0 ≤ c → ¬ c = 32 → kz_wr (w : Int) (0 + 1) l → kz_wl 127 0 (B p) 7 = ((w : Int), 2 ^ w) → kp_ok (kl_X5_word_5 (99999 + 1) 127 0 σ (fun (σ_2 : kp_W) => some ((-1), σ_2))) (kz_Wq (kz_w1 (w : Int) (kz_pS B (c :: l) p)) σ) := by
    intro w c l hw h h0 hn hr he
    have hpw : (0 : Int) < 2 ^ w := Int.pow_pos (by decide)
    rw [pS h]
    refine c_word1 hB hp (by decide) (by decide) he (fun z => by dsimp only at z; omega) (fun _ g => absurd (h.symm.trans g) hn) (fun _ _ => k_mono (c_wordS hB hw l 99999 (0 + 1) (p + 1) _ (by decide) hr (by decide) (no h h0 hn)) (fun v σ' h => z_WqU h))
  unfold kz_pW
  by_cases c1 : B p = 103
  · rw [if_pos c1] at e ⊢
    exact one (w := 0) (by decide) c1 (by decide) (by decide) (by repeat (first | exact ⟨⟨by decide +kernel, by decide⟩, by decide, Or.inl ⟨rfl, rfl⟩⟩ | refine ⟨⟨by decide +kernel, by decide⟩, by decide, Or.inr ⟨by decide, ?_⟩⟩)) (e.trans (by decide +kernel))
  rw [if_neg c1] at e ⊢
  by_cases c2 : B p = 104
  · rw [if_pos c2] at e ⊢
    have hpU := no c2 (by decide) (by decide)
    refine c_word1 hB hp (by decide) (by decide) e (fun z => absurd z (by decide)) (fun _ g => absurd (c2.symm.trans g) (by decide)) (fun _ _ => k_mono (P := kz_Wq (if B (p + 1) = 111 then kz_w1 1 (kz_pS B [111, 108, 100, 32] (p + 1)) else kz_w1 6 (kz_pS B [101, 97, 114, 32] (p + 1))) (kp_up σ 39 2 (p + 1))) ?_ (fun v σ' h => z_WqU h))
    show kp_ok (kl_X5_word_5 (99998 + 1) 66 1 (kp_up σ 39 2 (p + 1)) _) _
    have e2 := z_wl66 (c := B (p + 1))
    by_cases d : B (p + 1) = 111
    · rw [if_pos d] at e2 ⊢
      have hpV := z_preU hpU (by have := z_By hB (p + 1) (by omega); omega)
      rw [kz_pS, if_pos d]
      exact c_word1 (n := 99998) hB hpU (by decide) (by decide) (r := (((1 : Nat) : Int), 2 ^ 1)) (e2.trans (by decide +kernel)) (fun z => absurd z (by decide)) (fun _ g => absurd (d.symm.trans g) (by decide)) (fun _ _ => k_mono (c_wordS (w := 1) hB (by decide) [108, 100, 32] 99998 (1 + 1) (p + 1 + 1) _ (by decide) (by repeat (first | exact ⟨⟨by decide +kernel, by decide⟩, by decide, Or.inl ⟨rfl, rfl⟩⟩ | refine ⟨⟨by decide +kernel, by decide⟩, by decide, Or.inr ⟨by decide, ?_⟩⟩)) (by decide) hpV) (fun v σ' h => z_WqU h))
    · rw [if_neg d] at e2 ⊢
      rw [kz_pS]
      by_cases d2 : B (p + 1) = 101
      · rw [if_pos d2] at e2 ⊢
        have hpV := z_preU hpU (by have := z_By hB (p + 1) (by omega); omega)
        exact c_word1 (n := 99998) hB hpU (by decide) (by decide) (r := (((6 : Nat) : Int), 2 ^ 6)) (e2.trans (by decide +kernel)) (fun z => absurd z (by decide)) (fun _ g => absurd (d2.symm.trans g) (by decide)) (fun _ _ => k_mono (c_wordS (w := 6) hB (by decide) [97, 114, 32] 99998 (1 + 1) (p + 1 + 1) _ (by decide) (by repeat (first | exact ⟨⟨by decide +kernel, by decide⟩, by decide, Or.inl ⟨rfl, rfl⟩⟩ | refine ⟨⟨by decide +kernel, by decide⟩, by decide, Or.inr ⟨by decide, ?_⟩⟩)) (by decide) hpV) (fun v σ' h => z_WqU h))
      · rw [if_neg d2] at e2 ⊢
        exact c_word1 (n := 99998) hB hpU (by decide) (by decide) e2 (fun _ => ⟨rfl, z_Fp0, rfl, rfl, z_up0e⟩) (fun z => absurd rfl z) (fun z => absurd rfl z)
  rw [if_neg c2] at e ⊢
  by_cases c3 : B p = 119
  · rw [if_pos c3] at e ⊢
    exact one (w := 2) (by decide) c3 (by decide) (by decide) (by repeat (first | exact ⟨⟨by decide +kernel, by decide⟩, by decide, Or.inl ⟨rfl, rfl⟩⟩ | refine ⟨⟨by decide +kernel, by decide⟩, by decide, Or.inr ⟨by decide, ?_⟩⟩)) (e.trans (by decide +kernel))
  rw [if_neg c3] at e ⊢
  by_cases c4 : B p = 99
  · rw [if_pos c4] at e ⊢
    exact one (w := 3) (by decide) c4 (by decide) (by decide) (by repeat (first | exact ⟨⟨by decide +kernel, by decide⟩, by decide, Or.inl ⟨rfl, rfl⟩⟩ | refine ⟨⟨by decide +kernel, by decide⟩, by decide, Or.inr ⟨by decide, ?_⟩⟩)) (e.trans (by decide +kernel))
  rw [if_neg c4] at e ⊢
  by_cases c5 : B p = 105
  · rw [if_pos c5] at e ⊢
    exact one (w := 4) (by decide) c5 (by decide) (by decide) (by repeat (first | exact ⟨⟨by decide +kernel, by decide⟩, by decide, Or.inl ⟨rfl, rfl⟩⟩ | refine ⟨⟨by decide +kernel, by decide⟩, by decide, Or.inr ⟨by decide, ?_⟩⟩)) (e.trans (by decide +kernel))
  rw [if_neg c5] at e ⊢
  by_cases c6 : B p = 97
  · rw [if_pos c6] at e ⊢
    exact one (w := 5) (by decide) c6 (by decide) (by decide) (by repeat (first | exact ⟨⟨by decide +kernel, by decide⟩, by decide, Or.inl ⟨rfl, rfl⟩⟩ | refine ⟨⟨by decide +kernel, by decide⟩, by decide, Or.inr ⟨by decide, ?_⟩⟩)) (e.trans (by decide +kernel))
  rw [if_neg c6] at e ⊢
  exact c_word1 hB hp (by decide) (by decide) e (fun _ => ⟨rfl, z_Fp0, rfl, rfl, hp.2.1⟩) (fun z => absurd rfl z) (fun z => absurd rfl z)
end CWO
