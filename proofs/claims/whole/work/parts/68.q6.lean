-- the class's questions: moved
section QF
variable {A : kz_A} {σ : kp_W}
def kz_Mv (A : kz_A) (n : Int) (b σ : kp_W) : Prop := (∀ a, a ≠ 0 → a ≠ 13 → a ≠ 49 → a ≠ 50 → a ≠ 51 → a ≠ 52 → a ≠ 53 → a ≠ 54 → a ≠ 43 → σ a = b a) ∧ (∀ j, j ≠ 6 → σ 0 j = b 0 j) ∧ (∀ j, j ≠ Int.toNat n → σ 13 j = b 13 j) ∧ kz_Wm A.1 0 0 σ ∧ ∀ o, 0 ≤ o → o < A.1 0 → ¬ o = n → kz_Sr A o σ ∧ ∀ t, 0 ≤ t → t < 40 → σ 52 (Int.toNat (o * 40 + t)) = kz_kn A 0 0 o t
theorem z_moL (hA : kz_I A) {n p : Int} (hn : 0 ≤ n ∧ n < A.1 0) (hs : A.1 (Int.toNat (290 + n)) = 1) : (kz_mo (kz_moF A n p) 10).1 = 0 := by
  have h := z_moMin (f := kz_moF A n p) (g := fun _ => 0) (C := kp_sm (fun i => if kz_mv A.1 / 2 ^ (Int.toNat i) % 2 = 1 ∧ ¬ i = n then kz_dn A 0 0 0 i p else 0) (A.1 0)) (k := 10) (fun i i0 i1 => by rw [z_moC hA hn, if_pos hs])
  exact h.1.trans z_moZ.1
theorem c_movedQ (hA : kz_I A) (hE : kz_E A σ) {n p : Int} (hn : kp_in n) (hp : kp_in p) : kp_ok (kf_X9_moved n p σ) (fun r σ' => r = (if (0 ≤ n ∧ n < A.1 0) ∧ 0 ≤ p ∧ p ≤ 9 then (kz_mo (kz_moF A n p) 10).1 else -1) ∧ kz_Fk σ σ' ∧ kz_E A σ') := by
  have h10 := hA.1.1.1
  unfold kf_X9_moved
  refine k_e (c_has hA hE.1 hn) (k_b (fun c => k_some ⟨by rw [if_neg (fun z => c z.1)], z_Fk0, hE⟩) (fun c => k_e (c_isPlace hp) (k_b (fun d => k_some ⟨by rw [if_neg (fun z => d z.2)], z_Fk0, hE⟩) (fun d => k_e (c_isLoose hA hE.1 c) (k_b (fun e => k_some ⟨?_, z_Fk0, hE⟩) (fun e => c_settle hA hE (fun σ1 f1 hH h6 hS => k_ck ⟨c.1, by omega⟩ (k_lt (k_lt (k_lt (k_lt ?_)))))))))))
  · rw [if_pos ⟨c, d⟩, z_moL hA c (Classical.not_not.mp e)]
  rw [if_pos ⟨c, d⟩]
  have own : (kz_mo (kz_moF A n p) 10).1 = (kz_mo (fun k => kz_dn (kz_plc A n k) 0 0 0 n p) 10).1 :=
    (z_moMin (f := kz_moF A n p) (g := fun k => kz_dn (kz_plc A n k) 0 0 0 n p) (C := kp_sm (fun i => if kz_mv A.1 / 2 ^ (Int.toNat i) % 2 = 1 ∧ ¬ i = n then kz_dn A 0 0 0 i p else 0) (A.1 0)) (k := 10) (fun i i0 i1 => by rw [z_moC hA c, if_neg e])).1
  rw [own]
  have e13 : σ1 13 = σ 13 := f1.1 13 (by decide) (by decide) (by decide) (by decide) (by decide) (by decide) (by decide) (by decide)
  rw [e13]
  have M0 : kz_Mv A n σ σ1 := ⟨fun a a0 a1 a2 a3 a4 a5 a6 a7 a8 => f1.1 a a0 a2 a3 a4 a5 a6 a7 a8, f1.2, fun j _ => by rw [e13], hS.1, fun o o0 o1 _ => ⟨hS.2.1 o o0 o1, hS.2.2 o o0 o1⟩⟩
  have hdr : ∀ k, 0 ≤ k → k < 10 → 0 ≤ kz_dn (kz_plc A n k) 0 0 0 n p ∧ kz_dn (kz_plc A n k) 0 0 0 n p ≤ 360 := fun k k0 k1 => z_dn (z_Iplc hA c ⟨k0, by omega⟩) ⟨c.1, by
    have : (kz_plc A n k).1 0 = A.1 0 := z_setN (by omega) (by omega)
    rw [this]; exact c.2⟩
  have loop : ∀ (m : Nat) (b x y : Int) (σ5 : kp_W), 0 ≤ y → y ≤ 10 → 10 - y < m → (b, x) = kz_mo (fun k => kz_dn (kz_plc A n k) 0 0 0 n p) y → kz_Mv A n σ σ5 → kp_ok (kl_X9_moved_65 n p m b x y σ5 (fun (x4_2 : Int) (σ_6 : kp_W) => kp_ck (0 ≤ n ∧ n < 10) (kp_lt (kp_up σ_6 13 (Int.toNat n) (σ 13 (Int.toNat n))) (fun σ_7 => kp_lt (kp_up σ_7 0 6 0) (fun σ_8 => some (x4_2, σ_8)))))) (fun r σ' => r = (kz_mo (fun k => kz_dn (kz_plc A n k) 0 0 0 n p) 10).1 ∧ kz_Fk σ σ' ∧ kz_E A σ') := by
    intro m
    induction m with
    | zero => intro b x y σ5 h0 h1 h2; omega
    | succ m ih =>
      intro b x y σ5 h0 h1 h2 hx hM
      obtain ⟨m1, m2, m3, m4, m5⟩ := hM
      have hx1 : x = (kz_mo (fun k => kz_dn (kz_plc A n k) 0 0 0 n p) y).2 := by rw [← hx]
      have hb1 : b = (kz_mo (fun k => kz_dn (kz_plc A n k) 0 0 0 n p) y).1 := by rw [← hx]
      have hxr := z_mor (f := fun k => kz_dn (kz_plc A n k) 0 0 0 n p) (c := 360) (x := y) (by decide) (fun i i0 i1 => hdr i i0 (by omega))
      rw [← hx1] at hxr
      have h1' := z_mo1 (f := fun k => kz_dn (kz_plc A n k) 0 0 0 n p) h0
      rw [kl_X9_moved_65]
      refine k_ls ⟨by omega, by omega⟩ (by decide) (fun hy => k_ck ⟨c.1, by omega⟩ (k_lt ?_)) (fun hy => k_ck ⟨c.1, by omega⟩ (k_lt (k_lt (k_some ⟨?_, ?_, ?_⟩))))
      · have hP := z_Iplc hA c (p := y) ⟨h0, by omega⟩
        have e0 : (kz_plc A n y).1 0 = A.1 0 := z_setN (by omega) (by omega)
        have es : ∀ i : Int, 0 ≤ i → ¬ i = 260 + n → (kz_plc A n y).1 (Int.toNat i) = A.1 (Int.toNat i) := fun i i0 hi => by
          show kz_set A.1 (Int.toNat (260 + n)) y (Int.toNat i) = _
          rw [z_setI (by omega) i0, if_neg hi]
        have hag : kz_ag A.1 (kz_plc A n y).1 := ⟨z_setN (by omega) (by omega), fun i i0 i1 => es i (by omega) (by omega)⟩
        have hs4 := hA.1.1.2.2.2.2.1
        have hH9 : kz_H (kz_plc A n y) (kp_up σ5 13 (Int.toNat n) y) := by
          refine z_Hplc hA c hE.1 (fun j => ?_) (fun a a1 a2 a3 => ?_)
          · rw [kp_up_eq]
            by_cases h : j = Int.toNat n
            · rw [if_pos h, if_pos h]
            · rw [if_neg h, if_neg h]; exact m3 j h
          · rw [kp_up_ne a3]; exact m1 a (by omega) a3 (by omega) (by omega) (by omega) (by omega) (by omega) (by omega) (by omega)
        have hnP : 0 ≤ n ∧ n < (kz_plc A n y).1 0 := ⟨c.1, by rw [e0]; exact c.2⟩
        refine c_read hP hnP hH9 (fun σ10 g1 r1 => ?_)
        have hH10 : kz_H (kz_plc A n y) σ10 := z_RhF (fun a q1 q2 => g1.1 a (by omega) (by omega) (by omega) (by omega)) hH9
        have w10 : kz_Wm (kz_plc A n y).1 0 0 σ10 := by
          intro t t0 t1
          rw [g1.1 49 (by decide) (by decide) (by decide) (by decide), kp_up_ne (by decide), z_agw hs4 hag (by decide) (by omega)]
          exact m4 t t0 t1
        refine c_knock hP hnP hH10.2.2.2.2.2.2.1 (z_Bt0 hP (w := 1) (by decide) hH10.2.1) (z_Bt0 hP (w := 2) (by decide) hH10.2.1) w10 r1 (fun σ11 k1 v1 => ?_)
        have hH11 : kz_H (kz_plc A n y) σ11 := z_RhF (fun a q1 q2 => k1.1 a (by omega)) hH10
        have oth : ∀ o, 0 ≤ o → o < A.1 0 → ¬ o = n → kz_Sr A o σ11 ∧ ∀ t, 0 ≤ t → t < 40 → σ11 52 (Int.toNat (o * 40 + t)) = kz_kn A 0 0 o t := by
          intro o o0 o1 hne
          obtain ⟨q1, q2⟩ := m5 o o0 o1 hne
          refine ⟨?_, fun t t0 t1 => ?_⟩
          · refine z_SrF (k1.1 50 (by decide)) (k1.1 51 (by decide)) (k1.1 53 (by decide)) (σ := σ10) ?_
            refine ⟨fun t t0 t1 => ?_, ?_⟩
            · have e := g1.2.1 (o * 40 + t) (by omega) (by omega)
              rw [e.1, e.2, kp_up_ne (by decide), kp_up_ne (by decide)]; exact q1.1 t t0 t1
            · rw [g1.2.2 o o0 hne, kp_up_ne (by decide)]; exact q1.2
          · rw [k1.2 (o * 40 + t) (by omega) (by omega), g1.1 52 (by decide) (by decide) (by decide) (by decide), kp_up_ne (by decide)]; exact q2 t t0 t1
        have hao : ∀ o, 0 ≤ o → o < A.1 0 → ¬ o = n → kz_ao A.1 (kz_plc A n y).1 o := fun o o0 o1 hne => ⟨es _ (by omega) (by omega), es _ (by omega) (by omega), es _ (by omega) (by omega), es _ (by omega) (by omega)⟩
        have hS11 : kz_Sn (kz_plc A n y) 0 0 σ11 := by
          refine ⟨?_, fun o o0 o1 => ?_, fun o o0 o1 t t0 t1 => ?_⟩
          · unfold kz_Wm; rw [k1.1 49 (by decide)]; exact w10
          · rw [e0] at o1
            by_cases h : o = n
            · subst h; exact z_SrF (k1.1 50 (by decide)) (k1.1 51 (by decide)) (k1.1 53 (by decide)) r1
            · obtain ⟨b1, b2, b3⟩ := (oth o o0 o1 h).1
              refine ⟨fun t t0 t1 => ?_, b2, fun t t0 t1 => ?_⟩
              · show _ = kz_gr (kz_plc A n y).1 o t A.2 ∧ _ = kz_ho (kz_plc A n y).1 o t A.2
                rw [(z_agcl (hao o o0 o1 h) t A.2).1, (z_agcl (hao o o0 o1 h) t A.2).2.1]; exact b1 t t0 t1
              · show _ = !(kz_an (kz_plc A n y).1 o t A.2)
                rw [(z_agcl (hao o o0 o1 h) t A.2).2.2]; exact b3 t t0 t1
          · rw [e0] at o1
            by_cases h : o = n
            · subst h; exact v1 t t0 t1
            · have ek : kz_kn (kz_plc A n y) 0 0 o t = kz_kn A 0 0 o t := z_agkn (s := A.1) (s' := (kz_plc A n y).1) (cls := A.2) hs4 hag (hao o o0 o1 h) (by decide) t1
              rw [ek]; exact (oth o o0 o1 h).2 t t0 t1
        have M11 : kz_Mv A n σ σ11 := by
          refine ⟨fun a a0 a1 a2 a3 a4 a5 a6 a7 a8 => ?_, fun j hj => ?_, fun j hj => ?_, fun t t0 t1 => ?_, oth⟩
          · rw [k1.1 a a5, g1.1 a a3 a4 a6 a7, kp_up_ne a1]; exact m1 a a0 a1 a2 a3 a4 a5 a6 a7 a8
          · rw [k1.1 0 (by decide), g1.1 0 (by decide) (by decide) (by decide) (by decide), kp_up_ne (by decide)]; exact m2 j hj
          · rw [k1.1 13 (by decide), g1.1 13 (by decide) (by decide) (by decide) (by decide), kp_up_eq, if_neg hj]; exact m3 j hj
          · rw [k1.1 49 (by decide), g1.1 49 (by decide) (by decide) (by decide) (by decide), kp_up_ne (by decide)]; exact m4 t t0 t1
        refine k_e (c_heardInDayOf hP hH11 hS11 hnP d) (k_lt ?_)
        have hd := hdr y h0 hy
        have next : (y = 0 ∨ kz_dn (kz_plc A n y) 0 0 0 n p < x) → kp_ok (kl_X9_moved_65 n p m y (kz_dn (kz_plc A n y) 0 0 0 n p) (y + 1) σ11 (fun (x4_2 : Int) (σ_6 : kp_W) => kp_ck (0 ≤ n ∧ n < 10) (kp_lt (kp_up σ_6 13 (Int.toNat n) (σ 13 (Int.toNat n))) (fun σ_7 => kp_lt (kp_up σ_7 0 6 0) (fun σ_8 => some (x4_2, σ_8)))))) (fun r σ' => r = (kz_mo (fun k => kz_dn (kz_plc A n k) 0 0 0 n p) 10).1 ∧ kz_Fk σ σ' ∧ kz_E A σ') := by
          intro hh
          refine ih _ _ _ _ (by omega) (by omega) (by omega) ?_ M11
          rw [h1', ← hx1, if_pos hh]
        refine k_jn (k_eq ⟨by omega, by omega⟩ (by decide) (fun u => k_lt (k_lt (k_lt (next (Or.inl u))))) (fun u => k_ls ⟨by omega, by omega⟩ ⟨by omega, by omega⟩ (fun v => k_lt (k_lt (k_lt (next (Or.inr v))))) (fun v => k_lt (ih _ _ _ _ (by omega) (by omega) (by omega) ?_ M11))))
        rw [h1', ← hx1, if_neg (fun z => z.elim u v)]; exact hx
      · have : y = 10 := by omega
        rw [hb1, this]
      · refine z_FkR ⟨fun a a0 a1 a2 a3 a4 a5 a6 a7 => ?_, fun j hj => ?_⟩
        · by_cases h : a = 13
          · subst h
            funext j
            rw [kp_up_eq]
            by_cases h2 : j = Int.toNat n
            · rw [if_pos h2, h2]
            · rw [if_neg h2]; exact m3 j h2
          · rw [kp_up_ne h]; exact m1 a a0 h a1 a2 a3 a4 a5 a6 a7
        · rw [kp_up_ne (by decide)]; exact m2 j hj
      · refine z_ER (z_RhF (fun a q1 q2 => ?_) hE.1) rfl
        by_cases h : a = 13
        · subst h
          funext j
          rw [kp_up_eq]
          by_cases h2 : j = Int.toNat n
          · rw [if_pos h2, h2]
          · rw [if_neg h2]; exact m3 j h2
        · rw [kp_up_ne h]; exact m1 a (by omega) h (by omega) (by omega) (by omega) (by omega) (by omega) (by omega) (by omega)
  exact loop kp_fu 0 0 0 σ1 (by decide) (by decide) (kp_fu_big (by decide)) rfl M0
end QF
