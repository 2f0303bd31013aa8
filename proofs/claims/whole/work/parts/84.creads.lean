-- the class reads clauses
def kz_Fs (b σ : kp_W) : Prop := ∀ a, (a < 39 ∨ 46 ≤ a) → σ a = b a
theorem z_Fs0 {b : kp_W} : kz_Fs b b := fun _ _ => rfl
theorem z_FsT {a b c : kp_W} (h : kz_Fs a b) (h2 : kz_Fs b c) : kz_Fs a c := fun k hk => (h2 k hk).trans (h k hk)
theorem z_FsP {a b : kp_W} (h : kz_Fp a b) : kz_Fs a b := fun k hk => h.1 k (by omega) (by omega) (by omega)
/-- the draft so far -/
def kz_Dr (cls : List kz_C) (u : Int → Int) (σ : kp_W) : Prop := σ 40 5 = (cls.length : Int) ∧ kz_clN 40 σ 0 0 cls ∧ (∀ j, 0 ≤ j → j < 5 → σ 41 (Int.toNat j) = u j) ∧ kz_Rg 40 cls σ
theorem z_gadd {g e : Int} {n j : Nat} (h : j < n) : (g + e * 2 ^ n) / 2 ^ j % 2 = g / 2 ^ j % 2 := by
  obtain ⟨d, rfl⟩ : ∃ d, n = j + d + 1 := ⟨n - j - 1, by omega⟩
  have hp : (2 : Int) ^ j ≠ 0 := Int.ne_of_gt (Int.pow_pos (by decide))
  have e1 : e * (2 : Int) ^ (j + d + 1) = (e * 2 ^ d * 2) * 2 ^ j := by
    rw [Int.pow_succ, Int.pow_add]
    ac_rfl
  rw [e1, Int.add_mul_ediv_right _ _ hp]
  generalize e * 2 ^ d = y
  generalize g / 2 ^ j = x
  omega
theorem z_gtop {g e : Int} {n : Nat} (h : 0 ≤ g ∧ g < 2 ^ n) : (g + e * 2 ^ n) / 2 ^ n = e := by
  have hp : (2 : Int) ^ n ≠ 0 := Int.ne_of_gt (Int.pow_pos (by decide))
  rw [Int.add_mul_ediv_right _ _ hp, Int.ediv_eq_zero_of_lt h.1 h.2, Int.zero_add]
theorem z_clAp {h : Nat} {σ σ' : kp_W} {c : kz_C} (e6 : σ' h 6 = σ h 6 + (c.2.2.1.length : Int)) (e2 : ∀ j, 0 ≤ j → j < σ h 6 → σ' (h + 2) (Int.toNat j) = σ (h + 2) (Int.toNat j)) (e2' : kz_arr (σ' (h + 2)) (σ h 6) c.2.2.1) : ∀ {r : List kz_C} {i st : Int}, 0 ≤ i → 0 ≤ st → (∀ j, 0 ≤ j → j < i + (r.length : Int) → σ' h 4 / 2 ^ (Int.toNat j) % 2 = σ h 4 / 2 ^ (Int.toNat j) % 2 ∧ σ' (h + 4) (Int.toNat j) = σ (h + 4) (Int.toNat j) ∧ σ' (h + 5) (Int.toNat j) = σ (h + 5) (Int.toNat j)) → (σ' h 4 / 2 ^ (Int.toNat (i + (r.length : Int))) % 2 = kz_i c.1 ∧ σ' (h + 4) (Int.toNat (i + (r.length : Int))) = c.2.1 ∧ σ' (h + 5) (Int.toNat (i + (r.length : Int))) = σ h 6 + (c.2.2.1.length : Int)) → kz_clN h σ i st r → kz_clN h σ' i st (r ++ [c])
  | [], i, st, h0, hs, e, g, q => by
    have q' : σ h 6 = st := q
    have e0 : i + (([] : List kz_C).length : Int) = i := by simp
    rw [e0] at g
    refine ⟨g.1, g.2.1, by rw [g.2.2, q'], by rw [← q']; exact e2', ?_⟩
    show σ' h 6 = _
    rw [e6, q']
  | d :: r, i, st, h0, hs, e, g, q => by
    have hlen : ((d :: r).length : Int) = (r.length : Int) + 1 := by simp
    rw [hlen] at e g
    have hz := z_clSz q.2.2.2.2
    obtain ⟨a1, a2, a3⟩ := e i h0 (by omega)
    rw [show i + ((r.length : Int) + 1) = i + 1 + (r.length : Int) by omega] at g e
    exact ⟨a1.trans q.1, a2.trans q.2.1, a3.trans q.2.2.1, z_arrC hs (fun j j0 j1 => e2 j (by omega) (by omega)) q.2.2.2.1, z_clAp e6 e2 e2' (by omega) (by omega) e g q.2.2.2.2⟩
theorem z_clP {σ σ' : kp_W} {p : Int} (s0 : σ 40 6 ≤ p) (f : kz_Fp σ σ') (h6 : σ' 40 6 = σ 40 6) (h42 : σ' 42 = σ 42) {cls : List kz_C} {u : Int → Int} (h : kz_Dr cls u σ) : kz_Dr cls u σ' := by
  refine ⟨by rw [f.2.2 5 (by decide)]; exact h.1, z_clF h6 h42 (f.2.2 4 (by decide)) (f.1 44 (by decide) (by decide) (by decide)) (f.1 45 (by decide) (by decide) (by decide)) h.2.1, fun j j0 j1 => by rw [f.1 41 (by decide) (by decide) (by decide)]; exact h.2.2.1 j j0 j1, by unfold kz_Rg; rw [f.2.2 4 (by decide)]; exact h.2.2.2⟩
section CCL
variable {B : Int → Int} {N : Int}
theorem z_postP {N' p : Int} {σ σ' : kp_W} (hp : kz_pre B N p σ) (f : kz_Fp σ σ') (h6 : σ' 40 6 = σ 40 6) (e : σ' 39 2 = N') (h1 : p ≤ N') (h2 : N' ≤ N) : kz_pre B N N' σ' := ⟨z_TpF f hp.1, e, ⟨by have := hp.2.2.1; omega, h2⟩, by rw [h6]; exact hp.2.2.2.1, by rw [h6]; have := hp.2.2.2.2; omega⟩
def kz_Cq (B : Int → Int) (N p : Int) (cls : List kz_C) (u : Int → Int) (σ : kp_W) (v : Int) (σ' : kp_W) : Prop := v = kz_i (kz_pC B p).1 ∧ kz_Fs σ σ' ∧ σ' 39 2 = (kz_pC B p).2.1 ∧ kz_Rz 43 σ' ∧ ((kz_pC B p).1 = true → kz_Dr (kz_cU (kz_pC B p) cls) (kz_uU (kz_pC B p) u) σ' ∧ kz_pre B N (kz_pC B p).2.1 σ')
theorem c_clause (hB : kz_By B N) {p : Int} {σ : kp_W} (hp : kz_pre B N p σ) {cls : List kz_C} {u : Int → Int} (hd : kz_Dr cls u σ) (hz : kz_Rz 43 σ) (hl : cls.length < 10) : kp_ok (kf_X5_clause σ) (kz_Cq B N p cls u σ) := by
  have hb := z_By hB
  have hN := hB.1
  have hpp := hp.2.2.1
  have hW := z_pW hb (p := p) (by omega)
  unfold kf_X5_clause
  refine k_bd (k_mono (c_word hB hp) (fun w σ1 h1 => k_lt ?_))
  obtain ⟨w1, w2, w3, w4, w5⟩ := h1
  have bad : ∀ {q : Int} {σ' : kp_W}, kz_pC B p = (false, q, 0, 0, [], []) → kz_Fp σ σ' → σ' 39 2 = q → kz_Cq B N p cls u σ 0 σ' := fun h f a => by
    unfold kz_Cq
    rw [h]
    exact ⟨rfl, z_FsP f, a, z_RzT, fun z => by cases z⟩
  subst w1
  refine k_ls ⟨by omega, by omega⟩ (by decide) (fun c => k_some (bad ?_ w2 w5)) (fun c => ?_)
  · unfold kz_pC; rw [if_pos (by omega)]
  have c1 : ¬ (kz_pW B p).1 = -1 := by omega
  have hp1 := z_postP hp w2 w3 w5 (by omega) (by omega)
  have hn := z_pN hb (p := (kz_pW B p).2)
  have d1 := z_clP hp.2.2.2.2 w2 w3 w4 hd
  refine c_numberP hB hp1.1 hp1.2.1 hp1.2.2.1 (fun σ2 f2 s2 c2 a2 => k_lt ?_)
  have F2 := z_FpT w2 f2
  refine k_ls ⟨by omega, by omega⟩ (by decide) (fun d => k_some (bad ?_ F2 a2)) (fun d => k_lt (k_jn ?_))
  · unfold kz_pC; rw [if_neg c1]; dsimp only; rw [if_pos (by omega)]
  have c3 : ¬ (kz_pN B (kz_pW B p).2).1 = -1 := by omega
  have hp2 := z_postP hp1 f2 s2 a2 (by omega) (by omega)
  have d2 := z_clP hp1.2.2.2.2 f2 s2 c2 d1
  have z2 : kz_Rz 43 σ2 := z_RzT
  have e : kz_pC B p = (if 2 ≤ (kz_pW B p).1 then (true, (kz_pN B (kz_pW B p).2).2, (kz_pW B p).1, (kz_pN B (kz_pW B p).2).1, [], []) else if B (kz_pN B (kz_pW B p).2).2 = 32 then (let t := kz_pE B 10 0 ((kz_pN B (kz_pW B p).2).2 + 1); (t.1, t.2.1, (kz_pW B p).1, (kz_pN B (kz_pW B p).2).1, t.2.2.1, t.2.2.2)) else (false, (kz_pN B (kz_pW B p).2).2, 0, 0, [], [])) := by
    rw [kz_pC, if_neg c1]; dsimp only; rw [if_neg c3]
  generalize kz_pW B p = W at *
  obtain ⟨w, q⟩ := W
  dsimp only at *
  generalize kz_pN B q = M at *
  obtain ⟨n, q2⟩ := M
  dsimp only at *
  have j47 : w < 2 → kp_ok (kp_bd (kf_X5_eats 32 σ2) (fun r_2 σ_4 => kp_eq r_2 0 (some (0, σ_4)) (kp_bd (kt_X5_either 10 0 σ_4) (fun r_3 σ_5 => kp_eq r_3 0 (some (0, σ_5)) (kp_jn (fun (v_0 : Int) => kp_bd (kf_X2_close v_0 n σ_5) (fun r_4 σ_6 => some (1, σ_6))) (fun j79 => kp_eq w 0 (j79 1) (j79 0))))))) (kz_Cq B N p cls u σ) := by
    intro hw
    rw [if_neg (by omega)] at e
    refine c_eats hB hp2.1 hp2.2.1 hp2.2.2.1 (by decide) (fun g => k_eq (by decide) (by decide) (fun z => absurd z (by decide)) (fun _ => ?_)) (fun g => k_eq (by decide) (by decide) (fun _ => k_some (bad ?_ F2 a2)) (fun z => absurd rfl z))
    · rw [if_pos g] at e
      try dsimp only at e
      have hlt := hb q2 (by omega)
      have hpU := z_preU hp2 (by omega)
      have hG := z_Gl (z_gE hb 10 0 (q2 + 1) (by decide) (by decide) (by omega))
      refine k_bd (k_mono (c_eitC hB 10 0 (by decide) (by decide) (by decide) (q2 + 1) _ hpU) (fun v σ5 h5 => ?_))
      have h5U := z_postU h5
      have F5 := z_FpT F2 h5U.2.1
      generalize kz_pE B 10 0 (q2 + 1) = t at *
      obtain ⟨ok, r, ec, er⟩ := t
      try dsimp only at e
      have z5 : kz_Rz 43 σ5 := z_RzT
      cases ok with
      | false =>
        obtain rfl : v = 0 := h5.1
        refine k_eq (by decide) (by decide) (fun _ => k_some ?_) (fun z => absurd rfl z)
        unfold kz_Cq
        rw [e]
        exact ⟨rfl, z_FsP F5, h5U.2.2.1, z5, fun z => by cases z⟩
      | true =>
        obtain rfl : v = 1 := h5.1
        have hp5 := z_preN hpU hG h5 rfl
        have A5 := h5U.2.2.2 rfl
        have l5 : σ5 40 6 = σ2 40 6 + (ec.length : Int) := A5.1
        have hp5' : 0 ≤ r ∧ r ≤ N := hp5.2.2.1
        have e405 : σ5 40 5 = (cls.length : Int) := by rw [h5U.2.1.2.2 5 (by decide)]; exact d2.1
        have cl : ∀ b : Bool, kp_ok (kp_bd (kf_X2_close (kz_i b) n σ5) (fun r_4 σ_6 => some (1, σ_6))) (fun v σ' => v = 1 ∧ kz_Fs σ5 σ' ∧ σ' 39 = σ5 39 ∧ kz_Rz 43 σ' ∧ kz_Dr (cls ++ [(b, n, ec, er)]) u σ' ∧ σ' 40 6 = σ5 40 6) := by
          intro b
          have hbi : kz_i b = 0 ∨ kz_i b = 1 := z_i01
          have q4 : σ5 40 4 = σ2 40 4 := h5U.2.1.2.2 4 (by decide)
          have r4 : 0 ≤ σ2 40 4 ∧ σ2 40 4 < 2 ^ cls.length := d2.2.2.2
          have q44 : σ5 44 = σ2 44 := h5U.2.1.1 44 (by decide) (by decide) (by decide)
          have q45 : σ5 45 = σ2 45 := h5U.2.1.1 45 (by decide) (by decide) (by decide)
          have q41 : σ5 41 = σ2 41 := h5U.2.1.1 41 (by decide) (by decide) (by decide)
          have tl : ∀ σ6 : kp_W, (∀ a, a ≠ 40 → σ6 a = σ5 a) → (∀ j, j ≠ 4 → σ6 40 j = σ5 40 j) → σ6 40 4 = σ2 40 4 + kz_i b * 2 ^ cls.length → kp_ok (kp_ck (0 ≤ (σ6 40 5) ∧ (σ6 40 5) < 10) (kp_lt (kp_up σ6 44 (Int.toNat (σ6 40 5)) n) (fun σ_2 => kp_ck (0 ≤ (σ_2 40 5) ∧ (σ_2 40 5) < 10) (kp_lt (kp_up σ_2 45 (Int.toNat (σ_2 40 5)) (σ_2 40 6)) (fun σ_3 => kp_lt (kp_up σ_3 40 5 ((σ_3 40 5) + 1)) (fun σ_4 => some (0, σ_4))))))) (fun _ σ_6 => kp_ok (some (1, σ_6)) (fun v σ' => v = 1 ∧ kz_Fs σ5 σ' ∧ σ' 39 = σ5 39 ∧ kz_Rz 43 σ' ∧ kz_Dr (cls ++ [(b, n, ec, er)]) u σ' ∧ σ' 40 6 = σ5 40 6)) := by
            intro σ6 N6 J6 g6
            have e65 : σ6 40 5 = (cls.length : Int) := (J6 5 (by decide)).trans e405
            have e66 : σ6 40 6 = σ5 40 6 := J6 6 (by decide)
            rw [e65]
            refine k_ck ⟨by omega, by omega⟩ (k_lt ?_)
            simp only [kp_up_ne (show (40 : Nat) ≠ 44 by decide), e65]
            refine k_ck ⟨by omega, by omega⟩ (k_lt ?_)
            simp only [kp_up_ne (show (40 : Nat) ≠ 44 by decide), kp_up_ne (show (40 : Nat) ≠ 45 by decide), e65]
            refine k_lt (k_some (k_some ⟨rfl, fun a ha => ?_, ?_, z_RzT, ⟨?_, ?_, fun j j0 j1 => ?_, ?_⟩, ?_⟩))
            · rw [kp_up_ne (by omega), kp_up_ne (by omega), kp_up_ne (by omega)]; exact N6 a (by omega)
            · rw [kp_up_ne (by decide), kp_up_ne (by decide), kp_up_ne (by decide)]; exact N6 39 (by decide)
            · rw [z_up0e, List.length_append]; simp
            · refine z_clAp (σ := σ2) (c := (b, n, ec, er)) ?_ (fun j j0 j1 => ?_) ?_ (Int.le_refl 0) (Int.le_refl 0) (fun j j0 j1 => ⟨?_, ?_, ?_⟩) ⟨?_, ?_, ?_⟩ d2.2.1
              · rw [kp_up_eq, if_neg (by decide), kp_up_ne (by decide), kp_up_ne (by decide), e66]; exact l5
              · rw [kp_up_ne (by decide), kp_up_ne (by decide), kp_up_ne (by decide), N6 (40 + 2) (by decide)]; exact A5.2.1 j j0 j1
              · rw [kp_up_ne (by decide), kp_up_ne (by decide), kp_up_ne (by decide), N6 (40 + 2) (by decide)]; exact A5.2.2
              · rw [kp_up_eq, if_neg (by decide), kp_up_ne (by decide), kp_up_ne (by decide), g6]
                exact z_gadd (by omega)
              · show kp_up _ 40 5 _ 44 _ = σ2 44 _
                rw [kp_up_ne (by decide), kp_up_ne (by decide), kp_up_eq, if_neg (by omega), N6 44 (by decide), q44]
              · show kp_up _ 40 5 _ 45 _ = σ2 45 _
                rw [kp_up_ne (by decide), kp_up_eq, if_neg (by omega), kp_up_ne (by decide), N6 45 (by decide), q45]
              · rw [kp_up_eq, if_neg (by decide), kp_up_ne (by decide), kp_up_ne (by decide), g6, Int.zero_add, Int.toNat_natCast, z_gtop r4]
                show kz_i b % 2 = kz_i b
                omega
              · show kp_up _ 40 5 _ 44 _ = n
                rw [kp_up_ne (by decide), kp_up_ne (by decide), kp_up_eq, if_pos (by rw [Int.zero_add])]
              · show kp_up _ 40 5 _ 45 _ = σ2 40 6 + (ec.length : Int)
                rw [kp_up_ne (by decide), kp_up_eq, if_pos (by rw [Int.zero_add]), e66]; exact l5
            · rw [kp_up_ne (by decide), kp_up_ne (by decide), kp_up_ne (by decide), N6 41 (by decide), q41]
              exact d2.2.2.1 j j0 j1
            · unfold kz_Rg
              rw [kp_up_eq, if_neg (by decide), kp_up_ne (by decide), kp_up_ne (by decide), g6]
              have hl1 : (cls ++ [(b, n, ec, er)]).length = cls.length + 1 := by simp
              rw [hl1, Int.pow_succ]
              rcases hbi with h | h <;> rw [h] <;> omega
            · rw [kp_up_eq, if_neg (by decide), kp_up_ne (by decide), kp_up_ne (by decide), e66]
          unfold kf_X2_close
          refine k_bd ?_
          rw [e405]
          refine k_ls ⟨by omega, by omega⟩ (by decide) (fun z => by omega) (fun _ => k_ls ⟨by omega, by omega⟩ (by decide) (fun _ => k_jn ?_) (fun z => by omega))
          refine k_eq (by rcases hbi with h | h <;> rw [h] <;> decide) (by decide) (fun z => ?_) (fun z => k_ck ⟨by omega, by omega⟩ (k_lt ?_))
          · exact tl σ5 (fun _ _ => rfl) (fun _ _ => rfl) (by rw [z, Int.zero_mul, Int.add_zero]; exact q4)
          · have hb1 : kz_i b = 1 := hbi.resolve_left z
            have eo : kp_or (σ5 40 4) (1 * 2 ^ (Int.toNat (cls.length : Int))) = σ2 40 4 + kz_i b * 2 ^ cls.length := by
              rw [Int.toNat_natCast, q4, z_or1 (by omega) r4, hb1, Int.one_mul]
            rw [eo]
            exact tl (kp_up σ5 40 4 (σ2 40 4 + kz_i b * 2 ^ cls.length)) (fun a ha => kp_up_ne ha) (fun j hj => by rw [kp_up_eq, if_neg hj]) z_up0e
        refine k_eq (by decide) (by decide) (fun z => absurd z (by decide)) (fun _ => ?_)
        have fin : ∀ b : Bool, decide (w = 0) = b → ∀ v σ', (v = 1 ∧ kz_Fs σ5 σ' ∧ σ' 39 = σ5 39 ∧ kz_Rz 43 σ' ∧ kz_Dr (cls ++ [(b, n, ec, er)]) u σ' ∧ σ' 40 6 = σ5 40 6) → kz_Cq B N p cls u σ v σ' := by
          rintro b hb' v σ' ⟨g1, g2, g3, g4, g5, g6⟩
          unfold kz_Cq
          rw [e]
          refine ⟨g1, z_FsT (z_FsP F5) g2, by rw [g3]; exact h5U.2.2.1, g4, fun _ => ⟨?_, ?_⟩⟩
          · show kz_Dr (kz_cU (true, r, w, n, ec, er) cls) (kz_uU (true, r, w, n, ec, er) u) σ'
            have e1 : kz_cU (true, r, w, n, ec, er) cls = cls ++ [(b, n, ec, er)] := by
              unfold kz_cU; rw [if_neg (by dsimp only; omega)]; dsimp only; rw [hb']
            have e2 : kz_uU (true, r, w, n, ec, er) u = u := by
              unfold kz_uU; rw [if_neg (by dsimp only; omega)]
            rw [e1, e2]; exact g5
          · obtain ⟨x1, x2, x3, x4, x5⟩ := hp5
            refine ⟨?_, by rw [g3]; exact x2, x3, by rw [g6]; exact x4, by rw [g6]; exact x5⟩
            unfold kz_Tp
            rw [g2 46 (by omega), g2 47 (by omega)]
            exact x1
        refine k_jn (k_eq ⟨by omega, by omega⟩ (by decide) (fun z => k_mono (cl true) (fin true (by rw [z]; rfl))) (fun z => k_mono (cl false) (fin false (decide_eq_false z))))
    · rw [if_neg g] at e; exact e
  refine k_ls ⟨by omega, by omega⟩ (by decide) (fun g => j47 (by omega)) (fun g => k_ls ⟨by omega, by omega⟩ (by decide) (fun g2 => k_ck ⟨by omega, by omega⟩ (k_lt (k_some ?_))) (fun g2 => by omega))
  rw [if_pos (by omega)] at e
  unfold kz_Cq
  rw [e]
  have N41 : ∀ a, a ≠ 41 → kp_up σ2 41 (Int.toNat (w - 2)) n a = σ2 a := fun a ha => kp_up_ne ha
  refine ⟨rfl, fun a ha => by rw [N41 a (by omega)]; exact z_FsP F2 a ha, by rw [N41 39 (by decide)]; exact a2, z_RzT, fun _ => ⟨⟨?_, ?_, fun j j0 j1 => ?_, ?_⟩, ?_⟩⟩
  · have e1 : kz_cU (true, q2, w, n, [], []) cls = cls := by unfold kz_cU; rw [if_pos (by dsimp only; omega)]
    rw [e1, N41 40 (by decide)]; exact d2.1
  · have e1 : kz_cU (true, q2, w, n, [], []) cls = cls := by unfold kz_cU; rw [if_pos (by dsimp only; omega)]
    rw [e1]
    exact z_clF (by rw [N41 40 (by decide)]) (N41 42 (by decide)) (by rw [N41 40 (by decide)]) (N41 44 (by decide)) (N41 45 (by decide)) d2.2.1
  · have e2 : kz_uU (true, q2, w, n, [], []) u = fun j => if j = w - 2 then n else u j := by unfold kz_uU; rw [if_pos (by dsimp only; omega)]
    rw [e2, kp_up_eq]
    dsimp only
    by_cases hj : j = w - 2
    · rw [if_pos (by rw [hj]), if_pos hj]
    · rw [if_neg (by omega), if_neg hj]; exact d2.2.2.1 j j0 j1
  · have e1 : kz_cU (true, q2, w, n, [], []) cls = cls := by unfold kz_cU; rw [if_pos (by dsimp only; omega)]
    rw [e1]
    unfold kz_Rg
    rw [N41 40 (by decide)]
    exact d2.2.2.2
  · obtain ⟨x1, x2, x3, x4, x5⟩ := hp2
    refine ⟨?_, by rw [N41 39 (by decide)]; exact x2, x3, by rw [N41 40 (by decide)]; exact x4, by rw [N41 40 (by decide)]; exact x5⟩
    unfold kz_Tp
    rw [N41 46 (by decide), N41 47 (by decide)]
    exact x1
end CCL
