-- by program (wip/whole/gen/drive.py)
def kl_X6_mark_3 (a1 : Int) (a2 : Int) (a3 : Int) (a4 : Int) : Nat → Int → kp_W → (kp_W → kp_R) → kp_R
  | 0, _, _, _ => none
  | n + 1, x7_1, σ_1, k => kp_ls x7_1 40 (kp_lt (0 : Int) (fun x8_0 => kp_ck (kp_inL a2 ∧ 0 ≤ x7_1 ∧ x7_1 < 64) (kp_ck (kp_inL (kp_andL (a2 / 2 ^ (Int.toNat x7_1)) 1) ∧ kp_inL 0) (kp_jn (fun (x8_1 : Int) => kp_ck (kp_inL a4 ∧ 0 ≤ x7_1 ∧ x7_1 < 64) (kp_ck (kp_inL (kp_andL (a4 / 2 ^ (Int.toNat x7_1)) 1) ∧ kp_inL 0) (kp_jn (fun (x8_2 : Int) => kp_ck (0 ≤ ((a1 * 40) + x7_1) ∧ ((a1 * 40) + x7_1) < 400) (kp_lt (kp_up σ_1 52 (Int.toNat ((a1 * 40) + x7_1)) x8_2) (fun σ_3 => kp_lt (x7_1 + 1) (fun x7_2 => kl_X6_mark_3 a1 a2 a3 a4 n x7_2 σ_3 k)))) (fun j46 => kp_eq (kp_cmp (kp_andL (a4 / 2 ^ (Int.toNat x7_1)) 1) 0) 0 (j46 x8_1) (kp_lt (x8_1 + 1) (fun x8_3 => j46 x8_3)))))) (fun j31 => kp_eq (kp_cmp (kp_andL (a2 / 2 ^ (Int.toNat x7_1)) 1) 0) 0 (j31 x8_0) (kp_lt ((x8_0 + a3) : Int) (fun x8_4 => j31 x8_4))))))) (k σ_1)
def kf_X6_mark  (a1 : Int) (a2 : Int) (a3 : Int) (a4 : Int) (σ_0 : kp_W) : kp_R :=
  kp_lt (0 : Int) (fun x7_0 => kl_X6_mark_3 a1 a2 a3 a4 kp_fu x7_0 σ_0 (fun (σ_2 : kp_W) => some (0, σ_2)))
set_option maxRecDepth 100000 in
set_option maxHeartbeats 4000000 in
theorem kc_X6_mark {l : Launch} {X : kp_X} {a1 : Int} {a2 : Int} {a3 : Int} {a4 : Int}  {σ_0 σ' : kp_W} {r : Int}   (hF : (kf_X6_mark a1 a2 a3 a4 σ_0) = some (r, σ')) : kp_Met l yX6_mark cX6_mark 9 none 0 X kp_lK 55 σ_0 [.ref (kp_ad X 48), kp_iv a1, kp_jv a2, kp_iv a3, kp_jv a4] (kp_Qv X kp_lK 55 σ') := by
  refine kp_body pnX6 (Nat.le_of_ble_eq_true rfl) ?_
  intro p e s m args below meth c ls C hr hlk G h hl
  unfold kf_X6_mark at hF
  have hl : lv_has ls 9 [(0, .ref (kp_ad X 48)), (1, kp_iv a1), (2, kp_jv a2), (4, kp_iv a3), (5, kp_jv a4)] := hl
  refine kp_iconst C dX6_mark_0 ?_
  refine kp_istore (lv' := fun x7_0 => [(7, kp_iv x7_0), (0, .ref (kp_ad X 48)), (1, kp_iv a1), (2, kp_jv a2), (4, kp_iv a3), (5, kp_jv a4)]) C dX6_mark_1 hl (by decide) (fun _ => rfl) hF (fun x7_0 ls hl hF => ?_)
  have L3 : ∀ (n : Nat) (x7_1 : Int) (σ_1 : kp_W) (k : kp_W → kp_R) (H : Heap) (locs : List Loc) (ls : Array Slot), kp_H X kp_lK 55 s σ_1 H locs → lv_has ls 9 [(0, .ref (kp_ad X 48)), (1, kp_iv a1), (2, kp_jv a2), (4, kp_iv a3), (5, kp_jv a4), (7, kp_iv x7_1)] → (∀ (σ_2 : kp_W) (H : Heap) (locs : List Loc) (ls : Array Slot), kp_H X kp_lK 55 s σ_2 H locs → lv_has ls 9 [] → k σ_2 = some (r, σ') → W p l e (kp_rm 0) s m args below meth c H locs 0 0 (MQ below (kp_Qv X kp_lK 55 σ') args s 0 0 (kp_A X 55)) (F0 m 66 ls [])) → kl_X6_mark_3 a1 a2 a3 a4 n x7_1 σ_1 k = some (r, σ') → W p l e (kp_rm 0) s m args below meth c H locs 0 0 (MQ below (kp_Qv X kp_lK 55 σ') args s 0 0 (kp_A X 55)) (F0 m 3 ls []) := by
    intro n
    induction n with
    | zero =>
      intro x7_1 σ_1 k H locs ls h hl K hF
      rw [kl_X6_mark_3] at hF
      cases hF
    | succ n ih =>
      intro x7_1 σ_1 k H locs ls h hl K hF
      rw [kl_X6_mark_3] at hF
      refine kp_iload C dX6_mark_3 (lv_at hl 5 rfl) ?_
      refine kp_bipush C dX6_mark_5 rfl ?_
      refine kp_icmp_ge (tgt := 66) C dX6_mark_7 (by decide) hF (fun hF => ?_) (fun hF => ?_)
      · exact K _ _ _ _ h (lv_sub hl [] rfl) hF
      · refine kp_iconst C dX6_mark_10 ?_
        refine kp_istore (lv' := fun x8_0 => [(8, kp_iv x8_0), (0, .ref (kp_ad X 48)), (1, kp_iv a1), (2, kp_jv a2), (4, kp_iv a3), (5, kp_jv a4), (7, kp_iv x7_1)]) C dX6_mark_11 hl (by decide) (fun _ => rfl) hF (fun x8_0 ls hl hF => ?_)
        refine kp_lload_n C dX6_mark_13 rfl (lv_at hl 3 rfl) ?_
        refine kp_iload C dX6_mark_14 (lv_at hl 6 rfl) ?_
        refine kp_xlshr C dX6_mark_16 hF (fun hF => ?_)
        refine kp_lconst (v := 1) C dX6_mark_17 rfl ?_
        refine kp_xland C dX6_mark_18 ?_
        refine kp_lconst (v := 0) C dX6_mark_19 rfl ?_
        refine kp_xlcmp C dX6_mark_20 hF (fun hF => ?_)
        obtain ⟨j31, ej31, hF⟩ := kp_jn_s hF
        have J31 : ∀ (x8_1 : Int), ∀ (H : Heap) (locs : List Loc) (ls : Array Slot), kp_H X kp_lK 55 s σ_1 H locs → lv_has ls 9 [(0, .ref (kp_ad X 48)), (1, kp_iv a1), (2, kp_jv a2), (4, kp_iv a3), (5, kp_jv a4), (7, kp_iv x7_1), (8, kp_iv x8_1)] → j31 x8_1 = some (r, σ') → W p l e (kp_rm 0) s m args below meth c H locs 0 0 (MQ below (kp_Qv X kp_lK 55 σ') args s 0 0 (kp_A X 55)) (F0 m 31 ls []) := by
          intro x8_1 H locs ls h hl hF
          rw [ej31] at hF
          refine kp_lload C dX6_mark_31 (lv_at hl 4 rfl) ?_
          refine kp_iload C dX6_mark_33 (lv_at hl 5 rfl) ?_
          refine kp_xlshr C dX6_mark_35 hF (fun hF => ?_)
          refine kp_lconst (v := 1) C dX6_mark_36 rfl ?_
          refine kp_xland C dX6_mark_37 ?_
          refine kp_lconst (v := 0) C dX6_mark_38 rfl ?_
          refine kp_xlcmp C dX6_mark_39 hF (fun hF => ?_)
          obtain ⟨j46, ej46, hF⟩ := kp_jn_s hF
          have J46 : ∀ (x8_2 : Int), ∀ (H : Heap) (locs : List Loc) (ls : Array Slot), kp_H X kp_lK 55 s σ_1 H locs → lv_has ls 9 [(0, .ref (kp_ad X 48)), (1, kp_iv a1), (2, kp_jv a2), (4, kp_iv a3), (5, kp_jv a4), (7, kp_iv x7_1), (8, kp_iv x8_2)] → j46 x8_2 = some (r, σ') → W p l e (kp_rm 0) s m args below meth c H locs 0 0 (MQ below (kp_Qv X kp_lK 55 σ') args s 0 0 (kp_A X 55)) (F0 m 46 ls []) := by
            intro x8_2 H locs ls h hl hF
            rw [ej46] at hF
            refine kp_aload_n C dX6_mark_46 rfl (lv_at hl 0 rfl) ?_
            refine kp_getr C G h kp_lK48 rfl inWX6 (j := 3) (by decide) q1_212 rfl dX6_mark_47 ?_
            refine kp_iload_n C dX6_mark_50 rfl (lv_at hl 1 rfl) ?_
            refine kp_bipush C dX6_mark_51 rfl ?_
            refine kp_imul C dX6_mark_53 ?_
            refine kp_iload C dX6_mark_54 (lv_at hl 5 rfl) ?_
            refine kp_iadd C dX6_mark_56 ?_
            refine kp_iload C dX6_mark_57 (lv_at hl 6 rfl) ?_
            refine kp_iast C G h (n := 400) kp_lK52 (by decide) dX6_mark_59 hF (fun σ_3 H locs h hF => ?_)
            refine kp_iinc (k := 5) (lv' := fun x7_2 => [(7, kp_iv x7_2), (0, .ref (kp_ad X 48)), (1, kp_iv a1), (2, kp_jv a2), (4, kp_iv a3), (5, kp_jv a4), (8, kp_iv x8_2)]) C dX6_mark_60 hl rfl (by decide) (fun _ => rfl) hF (fun x7_2 ls hl hF => ?_)
            refine kp_goto (tgt := 3) C dX6_mark_63 (by decide) ?_
            exact ih _ _ k _ _ _ h (lv_sub hl [1, 2, 3, 4, 5, 0] rfl) K hF
          clear ej46
          refine kp_if_eq (tgt := 46) C dX6_mark_40 (by decide) hF (fun hF => ?_) (fun hF => ?_)
          · exact J46 _ _ _ _ h (lv_sub hl [0, 1, 2, 3, 4, 5, 6] rfl) hF
          · refine kp_iinc (k := 6) (lv' := fun x8_3 => [(8, kp_iv x8_3), (0, .ref (kp_ad X 48)), (1, kp_iv a1), (2, kp_jv a2), (4, kp_iv a3), (5, kp_jv a4), (7, kp_iv x7_1)]) C dX6_mark_43 hl rfl (by decide) (fun _ => rfl) hF (fun x8_3 ls hl hF => ?_)
            exact J46 _ _ _ _ h (lv_sub hl [1, 2, 3, 4, 5, 6, 0] rfl) hF
        clear ej31
        refine kp_if_eq (tgt := 31) C dX6_mark_21 (by decide) hF (fun hF => ?_) (fun hF => ?_)
        · exact J31 _ _ _ _ h (lv_sub hl [1, 2, 3, 4, 5, 6, 0] rfl) hF
        · refine kp_iload C dX6_mark_24 (lv_at hl 0 rfl) ?_
          refine kp_iload C dX6_mark_26 (lv_at hl 4 rfl) ?_
          refine kp_iadd C dX6_mark_28 ?_
          refine kp_istore (lv' := fun x8_4 => [(8, kp_iv x8_4), (0, .ref (kp_ad X 48)), (1, kp_iv a1), (2, kp_jv a2), (4, kp_iv a3), (5, kp_jv a4), (7, kp_iv x7_1)]) C dX6_mark_29 hl (by decide) (fun _ => rfl) hF (fun x8_4 ls hl hF => ?_)
          exact J31 _ _ _ _ h (lv_sub hl [1, 2, 3, 4, 5, 6, 0] rfl) hF
  refine L3 kp_fu _ _ _ _ _ _ h (lv_sub hl [1, 2, 3, 4, 5, 0] rfl) (fun σ_2 H locs ls h hl hF => ?_) hF
  clear L3
  exact kp_retv (v := 0) C hr hlk G h dX6_mark_66 hF
def kl_X6_lasting_5 (a1 : Int) (a2 : Int) : Nat → Int → Int → (Int → kp_R) → kp_R
  | 0, _, _, _ => none
  | n + 1, x3_1, x5_1, k => kp_ls x5_1 a2 (kp_ls x5_1 40 (kp_ck (0 ≤ x5_1 ∧ x5_1 < 64) (kp_lt ((kp_andL x3_1 (a1 * 2 ^ (Int.toNat x5_1))) : Int) (fun x3_3 => kp_lt (x5_1 + 1) (fun x5_2 => kl_X6_lasting_5 a1 a2 n x3_3 x5_2 k)))) (k x3_1)) (k x3_1)
def kf_X6_lasting  (a1 : Int) (a2 : Int) (σ_0 : kp_W) : kp_R :=
  kp_lt (a1 : Int) (fun x3_0 => kp_lt (1 : Int) (fun x5_0 => kl_X6_lasting_5 a1 a2 kp_fu x3_0 x5_0 (fun (x3_2 : Int) => some (x3_2, σ_0))))
set_option maxRecDepth 100000 in
set_option maxHeartbeats 4000000 in
theorem kc_X6_lasting {l : Launch} {X : kp_X} {a1 : Int} {a2 : Int}  {σ_0 σ' : kp_W} {r : Int}   (hF : (kf_X6_lasting a1 a2 σ_0) = some (r, σ')) : kp_Met l yX6_lasting cX6_lasting 6 (some .long) 0 X kp_lK 55 σ_0 [kp_jv a1, kp_iv a2] (kp_Ql X kp_lK 55 σ' r) := by
  refine kp_body pnX6 (Nat.le_of_ble_eq_true rfl) ?_
  intro p e s m args below meth c ls C hr hlk G h hl
  unfold kf_X6_lasting at hF
  have hl : lv_has ls 6 [(0, kp_jv a1), (2, kp_iv a2)] := hl
  refine kp_lload_n C dX6_lasting_0 rfl (lv_at hl 0 rfl) ?_
  refine kp_lstore_n (lv' := fun x3_0 => [(3, kp_jv x3_0), (0, kp_jv a1), (2, kp_iv a2)]) C dX6_lasting_1 rfl hl (by decide) (fun _ => rfl) hF (fun x3_0 ls hl hF => ?_)
  refine kp_iconst C dX6_lasting_2 ?_
  refine kp_istore (lv' := fun x5_0 => [(5, kp_iv x5_0), (3, kp_jv x3_0), (0, kp_jv a1), (2, kp_iv a2)]) C dX6_lasting_3 hl (by decide) (fun _ => rfl) hF (fun x5_0 ls hl hF => ?_)
  have L5 : ∀ (n : Nat) (x3_1 : Int) (x5_1 : Int) (k : Int → kp_R) (H : Heap) (locs : List Loc) (ls : Array Slot), kp_H X kp_lK 55 s σ_0 H locs → lv_has ls 6 [(0, kp_jv a1), (2, kp_iv a2), (3, kp_jv x3_1), (5, kp_iv x5_1)] → (∀ (x3_2 : Int) (H : Heap) (locs : List Loc) (ls : Array Slot), kp_H X kp_lK 55 s σ_0 H locs → lv_has ls 6 [(3, kp_jv x3_2)] → k x3_2 = some (r, σ') → W p l e (kp_rm 0) s m args below meth c H locs 0 0 (MQ below (kp_Ql X kp_lK 55 σ' r) args s 0 0 (kp_A X 55)) (F0 m 31 ls [])) → kl_X6_lasting_5 a1 a2 n x3_1 x5_1 k = some (r, σ') → W p l e (kp_rm 0) s m args below meth c H locs 0 0 (MQ below (kp_Ql X kp_lK 55 σ' r) args s 0 0 (kp_A X 55)) (F0 m 5 ls []) := by
    intro n
    induction n with
    | zero =>
      intro x3_1 x5_1 k H locs ls h hl K hF
      rw [kl_X6_lasting_5] at hF
      cases hF
    | succ n ih =>
      intro x3_1 x5_1 k H locs ls h hl K hF
      rw [kl_X6_lasting_5] at hF
      refine kp_iload C dX6_lasting_5 (lv_at hl 3 rfl) ?_
      refine kp_iload_n C dX6_lasting_7 rfl (lv_at hl 1 rfl) ?_
      refine kp_icmp_ge (tgt := 31) C dX6_lasting_8 (by decide) hF (fun hF => ?_) (fun hF => ?_)
      · exact K _ _ _ _ h (lv_sub hl [2] rfl) hF
      · refine kp_iload C dX6_lasting_11 (lv_at hl 3 rfl) ?_
        refine kp_bipush C dX6_lasting_13 rfl ?_
        refine kp_icmp_ge (tgt := 31) C dX6_lasting_15 (by decide) hF (fun hF => ?_) (fun hF => ?_)
        · exact K _ _ _ _ h (lv_sub hl [2] rfl) hF
        · refine kp_lload_n C dX6_lasting_18 rfl (lv_at hl 2 rfl) ?_
          refine kp_lload_n C dX6_lasting_19 rfl (lv_at hl 0 rfl) ?_
          refine kp_iload C dX6_lasting_20 (lv_at hl 3 rfl) ?_
          refine kp_xlshl C dX6_lasting_22 hF (fun hF => ?_)
          refine kp_xland C dX6_lasting_23 ?_
          refine kp_lstore_n (lv' := fun x3_3 => [(3, kp_jv x3_3), (0, kp_jv a1), (2, kp_iv a2), (5, kp_iv x5_1)]) C dX6_lasting_24 rfl hl (by decide) (fun _ => rfl) hF (fun x3_3 ls hl hF => ?_)
          refine kp_iinc (k := 3) (lv' := fun x5_2 => [(5, kp_iv x5_2), (3, kp_jv x3_3), (0, kp_jv a1), (2, kp_iv a2)]) C dX6_lasting_25 hl rfl (by decide) (fun _ => rfl) hF (fun x5_2 ls hl hF => ?_)
          refine kp_goto (tgt := 5) C dX6_lasting_28 (by decide) ?_
          exact ih _ _ k _ _ _ h (lv_sub hl [2, 3, 1, 0] rfl) K hF
  refine L5 kp_fu _ _ _ _ _ _ h (lv_sub hl [2, 3, 1, 0] rfl) (fun x3_2 H locs ls h hl hF => ?_) hF
  clear L5
  refine kp_lload_n C dX6_lasting_31 rfl (lv_at hl 0 rfl) ?_
  exact kp_retl C hr hlk G h dX6_lasting_32 hF
def kf_X6_knock  (a2 : Int) (a3 : Int) (a4 : Int) (σ_0 : kp_W) : kp_R :=
  kp_ck (0 ≤ a2 ∧ a2 < 10) (kp_lt ((σ_0 14 (Int.toNat a2)) : Int) (fun x7_0 => kp_ck (0 ≤ (1 : Int) ∧ (1 : Int) < 64) (kp_lt ((kp_andL (kp_andL (a3 * 2 ^ (Int.toNat 1)) (kp_xorL a3 (-1))) 1099511627775) : Int) (fun x8_0 => kp_ck (0 ≤ (1 : Int) ∧ (1 : Int) < 64) (kp_lt ((kp_andL a3 (kp_xorL (a3 * 2 ^ (Int.toNat 1)) (-1))) : Int) (fun x10_0 => kp_ck (0 ≤ a2 ∧ a2 < 10) (kp_eq (σ_0 12 (Int.toNat a2)) 1 (kp_bd (kf_X6_tick a2 0 σ_0) (fun r_0 σ_1 => some (0, σ_1))) (kp_eq (σ_0 12 (Int.toNat a2)) 2 (kp_bd (kf_X6_mark a2 x8_0 x7_0 0 σ_0) (fun r_1 σ_2 => some (0, σ_2))) (kp_eq (σ_0 12 (Int.toNat a2)) 3 (kp_bd (kf_X6_lasting a4 x7_0 σ_0) (fun r_2 σ_3 => kp_bd (kf_X6_mark a2 0 0 r_2 σ_3) (fun r_3 σ_4 => some (0, σ_4)))) (kp_eq (σ_0 12 (Int.toNat a2)) 4 (kp_bd (kf_X6_tick a2 1 σ_0) (fun r_4 σ_5 => some (0, σ_5))) (kp_eq (σ_0 12 (Int.toNat a2)) 5 (kp_bd (kf_X6_mark a2 x8_0 x7_0 x10_0 σ_0) (fun r_5 σ_6 => some (0, σ_6))) (kp_eq (σ_0 12 (Int.toNat a2)) 6 (kp_bd (kf_X6_lasting (kp_andL (kp_xorL a4 (-1)) 1099511627775) x7_0 σ_0) (fun r_6 σ_7 => kp_bd (kf_X6_mark a2 0 0 r_6 σ_7) (fun r_7 σ_8 => some (0, σ_8)))) (kp_ck (0 ≤ a2 ∧ a2 < 10) (kp_ck (0 ≤ x7_0 ∧ x7_0 < 64) (kp_bd (kf_X6_mark a2 0 0 (kp_andL (σ_0 53 (Int.toNat a2)) (1074791425 * 2 ^ (Int.toNat x7_0))) σ_0) (fun r_8 σ_9 => some (0, σ_9)))))))))))))))))
set_option maxRecDepth 100000 in
set_option maxHeartbeats 4000000 in
theorem kc_X6_knock {l : Launch} {X : kp_X} {a2 : Int} {a3 : Int} {a4 : Int}  {σ_0 σ' : kp_W} {r : Int}   (hF : (kf_X6_knock a2 a3 a4 σ_0) = some (r, σ')) : kp_Met l yX6_knock cX6_knock 12 none 3 X kp_lK 55 σ_0 [.ref (kp_ad X 48), .ref (kp_ad X 11), kp_iv a2, kp_jv a3, kp_jv a4] (kp_Qv X kp_lK 55 σ') := by
  refine kp_body pnX6 (Nat.le_of_ble_eq_true rfl) ?_
  intro p e s m args below meth c ls C hr hlk G h hl
  unfold kf_X6_knock at hF
  have hl : lv_has ls 12 [(0, .ref (kp_ad X 48)), (1, .ref (kp_ad X 11)), (2, kp_iv a2), (3, kp_jv a3), (5, kp_jv a4)] := hl
  refine kp_aload_n C dX6_knock_0 rfl (lv_at hl 1 rfl) ?_
  refine kp_getr C G h kp_lK11 rfl inWX3 (j := 2) (by decide) q1_112 rfl dX6_knock_1 ?_
  refine kp_iload_n C dX6_knock_4 rfl (lv_at hl 2 rfl) ?_
  refine kp_iald C G h (n := 10) kp_lK14 (by decide) dX6_knock_5 hF (fun hF => ?_)
  refine kp_istore (lv' := fun x7_0 => [(7, kp_iv x7_0), (0, .ref (kp_ad X 48)), (1, .ref (kp_ad X 11)), (2, kp_iv a2), (3, kp_jv a3), (5, kp_jv a4)]) C dX6_knock_6 hl (by decide) (fun _ => rfl) hF (fun x7_0 ls hl hF => ?_)
  refine kp_lload_n C dX6_knock_8 rfl (lv_at hl 4 rfl) ?_
  refine kp_iconst C dX6_knock_9 ?_
  refine kp_xlshl C dX6_knock_10 hF (fun hF => ?_)
  refine kp_lload_n C dX6_knock_11 rfl (lv_at hl 4 rfl) ?_
  refine kp_ldc2 (n := (-1)) C q2_217 rfl dX6_knock_12 ?_
  refine kp_xlxor C dX6_knock_15 ?_
  refine kp_xland C dX6_knock_16 ?_
  refine kp_ldc2 (n := 1099511627775) C q2_192 rfl dX6_knock_17 ?_
  refine kp_xland C dX6_knock_20 ?_
  refine kp_lstore (lv' := fun x8_0 => [(8, kp_jv x8_0), (7, kp_iv x7_0), (0, .ref (kp_ad X 48)), (1, .ref (kp_ad X 11)), (2, kp_iv a2), (3, kp_jv a3), (5, kp_jv a4)]) C dX6_knock_21 hl (by decide) (fun _ => rfl) hF (fun x8_0 ls hl hF => ?_)
  refine kp_lload_n C dX6_knock_23 rfl (lv_at hl 5 rfl) ?_
  refine kp_lload_n C dX6_knock_24 rfl (lv_at hl 5 rfl) ?_
  refine kp_iconst C dX6_knock_25 ?_
  refine kp_xlshl C dX6_knock_26 hF (fun hF => ?_)
  refine kp_ldc2 (n := (-1)) C q2_217 rfl dX6_knock_27 ?_
  refine kp_xlxor C dX6_knock_30 ?_
  refine kp_xland C dX6_knock_31 ?_
  refine kp_lstore (lv' := fun x10_0 => [(10, kp_jv x10_0), (8, kp_jv x8_0), (7, kp_iv x7_0), (0, .ref (kp_ad X 48)), (1, .ref (kp_ad X 11)), (2, kp_iv a2), (3, kp_jv a3), (5, kp_jv a4)]) C dX6_knock_32 hl (by decide) (fun _ => rfl) hF (fun x10_0 ls hl hF => ?_)
  refine kp_aload_n C dX6_knock_34 rfl (lv_at hl 4 rfl) ?_
  refine kp_getr C G h kp_lK11 rfl inWX3 (j := 0) (by decide) q1_105 rfl dX6_knock_35 ?_
  refine kp_iload_n C dX6_knock_38 rfl (lv_at hl 5 rfl) ?_
  refine kp_iald C G h (n := 10) kp_lK12 (by decide) dX6_knock_39 hF (fun hF => ?_)
  obtain ⟨hx, -, ha, hb⟩ := kp_eq_s hF
  by_cases q0 : (σ_0 12 (Int.toNat a2)) = 1
  · have hF := ha q0
    clear ha hb
    refine kp_tabIn (v := 1) (tgt := 80) C dX6_knock_40 q0 (by decide) rfl (by decide) ?_
    refine kp_aload_n C dX6_knock_80 rfl (lv_at hl 3 rfl) ?_
    refine kp_iload_n C dX6_knock_81 rfl (lv_at hl 5 rfl) ?_
    refine kp_iconst C dX6_knock_82 ?_
    obtain ⟨r_0, σ_1, hc, hF⟩ := kp_bd_s hF
    refine kp_cv h (kp_rV (k := 48) (As := [kp_iv a2, kp_iv 0]) (rest := []) C G h (kc_X6_tick  hc) q3_3 q3_5 q0_1_12 q1_9 q3_6 ⟨rfl, hd_X6_tick⟩ (by decide) kp_lK48 rfl rfl hl.1 rfl (Nat.le_of_ble_eq_true rfl) dX6_knock_83) (fun H locs h => ?_)
    refine kp_goto (tgt := 187) C dX6_knock_86 (by decide) ?_
    exact kp_retv (v := 0) C hr hlk G h dX6_knock_187 hF
  · have hF := hb q0
    clear ha hb
    obtain ⟨hx, -, ha, hb⟩ := kp_eq_s hF
    by_cases q1 : (σ_0 12 (Int.toNat a2)) = 2
    · have hF := ha q1
      clear ha hb
      refine kp_tabIn (v := 2) (tgt := 98) C dX6_knock_40 q1 (by decide) rfl (by decide) ?_
      refine kp_aload_n C dX6_knock_98 rfl (lv_at hl 3 rfl) ?_
      refine kp_iload_n C dX6_knock_99 rfl (lv_at hl 5 rfl) ?_
      refine kp_lload C dX6_knock_100 (lv_at hl 1 rfl) ?_
      refine kp_iload C dX6_knock_102 (lv_at hl 2 rfl) ?_
      refine kp_lconst (v := 0) C dX6_knock_104 rfl ?_
      obtain ⟨r_1, σ_2, hc, hF⟩ := kp_bd_s hF
      refine kp_cv h (kp_rV (k := 48) (As := [kp_iv a2, kp_jv x8_0, kp_iv x7_0, kp_jv 0]) (rest := []) C G h (kc_X6_mark  hc) q3_18 q3_20 q0_1_13 q1_9 q3_21 ⟨rfl, hd_X6_mark⟩ (by decide) kp_lK48 rfl rfl hl.1 rfl (Nat.le_of_ble_eq_true rfl) dX6_knock_105) (fun H locs h => ?_)
      refine kp_goto (tgt := 187) C dX6_knock_108 (by decide) ?_
      exact kp_retv (v := 0) C hr hlk G h dX6_knock_187 hF
    · have hF := hb q1
      clear ha hb
      obtain ⟨hx, -, ha, hb⟩ := kp_eq_s hF
      by_cases q2 : (σ_0 12 (Int.toNat a2)) = 3
      · have hF := ha q2
        clear ha hb
        refine kp_tabIn (v := 3) (tgt := 125) C dX6_knock_40 q2 (by decide) rfl (by decide) ?_
        refine kp_aload_n C dX6_knock_125 rfl (lv_at hl 3 rfl) ?_
        refine kp_iload_n C dX6_knock_126 rfl (lv_at hl 5 rfl) ?_
        refine kp_lconst (v := 0) C dX6_knock_127 rfl ?_
        refine kp_iconst C dX6_knock_128 ?_
        refine kp_lload C dX6_knock_129 (lv_at hl 7 rfl) ?_
        refine kp_iload C dX6_knock_131 (lv_at hl 2 rfl) ?_
        obtain ⟨r_2, σ_3, hc, hF⟩ := kp_bd_s hF
        refine kp_cl' h (kp_rS (As := [kp_jv a4, kp_iv x7_0]) (rest := [kp_iv 0, kp_jv 0, kp_iv a2, .ref (kp_ad X 48)]) C G h (kc_X6_lasting  hc) q3_22 q3_23 q1_9 q3_24 hd_X6_lasting (by decide) rfl hl.1 rfl (Nat.le_of_ble_eq_true rfl) dX6_knock_133) (fun H locs h => ?_)
        obtain ⟨r_3, σ_4, hc, hF⟩ := kp_bd_s hF
        refine kp_cv h (kp_rV (k := 48) (As := [kp_iv a2, kp_jv 0, kp_iv 0, kp_jv r_2]) (rest := []) C G h (kc_X6_mark  hc) q3_18 q3_20 q0_1_13 q1_9 q3_21 ⟨rfl, hd_X6_mark⟩ (by decide) kp_lK48 rfl rfl hl.1 rfl (Nat.le_of_ble_eq_true rfl) dX6_knock_136) (fun H locs h => ?_)
        refine kp_goto (tgt := 187) C dX6_knock_139 (by decide) ?_
        exact kp_retv (v := 0) C hr hlk G h dX6_knock_187 hF
      · have hF := hb q2
        clear ha hb
        obtain ⟨hx, -, ha, hb⟩ := kp_eq_s hF
        by_cases q3 : (σ_0 12 (Int.toNat a2)) = 4
        · have hF := ha q3
          clear ha hb
          refine kp_tabIn (v := 4) (tgt := 89) C dX6_knock_40 q3 (by decide) rfl (by decide) ?_
          refine kp_aload_n C dX6_knock_89 rfl (lv_at hl 3 rfl) ?_
          refine kp_iload_n C dX6_knock_90 rfl (lv_at hl 5 rfl) ?_
          refine kp_iconst C dX6_knock_91 ?_
          obtain ⟨r_4, σ_5, hc, hF⟩ := kp_bd_s hF
          refine kp_cv h (kp_rV (k := 48) (As := [kp_iv a2, kp_iv 1]) (rest := []) C G h (kc_X6_tick  hc) q3_3 q3_5 q0_1_12 q1_9 q3_6 ⟨rfl, hd_X6_tick⟩ (by decide) kp_lK48 rfl rfl hl.1 rfl (Nat.le_of_ble_eq_true rfl) dX6_knock_92) (fun H locs h => ?_)
          refine kp_goto (tgt := 187) C dX6_knock_95 (by decide) ?_
          exact kp_retv (v := 0) C hr hlk G h dX6_knock_187 hF
        · have hF := hb q3
          clear ha hb
          obtain ⟨hx, -, ha, hb⟩ := kp_eq_s hF
          by_cases q4 : (σ_0 12 (Int.toNat a2)) = 5
          · have hF := ha q4
            clear ha hb
            refine kp_tabIn (v := 5) (tgt := 111) C dX6_knock_40 q4 (by decide) rfl (by decide) ?_
            refine kp_aload_n C dX6_knock_111 rfl (lv_at hl 3 rfl) ?_
            refine kp_iload_n C dX6_knock_112 rfl (lv_at hl 5 rfl) ?_
            refine kp_lload C dX6_knock_113 (lv_at hl 1 rfl) ?_
            refine kp_iload C dX6_knock_115 (lv_at hl 2 rfl) ?_
            refine kp_lload C dX6_knock_117 (lv_at hl 0 rfl) ?_
            obtain ⟨r_5, σ_6, hc, hF⟩ := kp_bd_s hF
            refine kp_cv h (kp_rV (k := 48) (As := [kp_iv a2, kp_jv x8_0, kp_iv x7_0, kp_jv x10_0]) (rest := []) C G h (kc_X6_mark  hc) q3_18 q3_20 q0_1_13 q1_9 q3_21 ⟨rfl, hd_X6_mark⟩ (by decide) kp_lK48 rfl rfl hl.1 rfl (Nat.le_of_ble_eq_true rfl) dX6_knock_119) (fun H locs h => ?_)
            refine kp_goto (tgt := 187) C dX6_knock_122 (by decide) ?_
            exact kp_retv (v := 0) C hr hlk G h dX6_knock_187 hF
          · have hF := hb q4
            clear ha hb
            obtain ⟨hx, -, ha, hb⟩ := kp_eq_s hF
            by_cases q5 : (σ_0 12 (Int.toNat a2)) = 6
            · have hF := ha q5
              clear ha hb
              refine kp_tabIn (v := 6) (tgt := 142) C dX6_knock_40 q5 (by decide) rfl (by decide) ?_
              refine kp_aload_n C dX6_knock_142 rfl (lv_at hl 3 rfl) ?_
              refine kp_iload_n C dX6_knock_143 rfl (lv_at hl 5 rfl) ?_
              refine kp_lconst (v := 0) C dX6_knock_144 rfl ?_
              refine kp_iconst C dX6_knock_145 ?_
              refine kp_lload C dX6_knock_146 (lv_at hl 7 rfl) ?_
              refine kp_ldc2 (n := (-1)) C q2_217 rfl dX6_knock_148 ?_
              refine kp_xlxor C dX6_knock_151 ?_
              refine kp_ldc2 (n := 1099511627775) C q2_192 rfl dX6_knock_152 ?_
              refine kp_xland C dX6_knock_155 ?_
              refine kp_iload C dX6_knock_156 (lv_at hl 2 rfl) ?_
              obtain ⟨r_6, σ_7, hc, hF⟩ := kp_bd_s hF
              refine kp_cl' h (kp_rS (As := [kp_jv (kp_andL (kp_xorL a4 (-1)) 1099511627775), kp_iv x7_0]) (rest := [kp_iv 0, kp_jv 0, kp_iv a2, .ref (kp_ad X 48)]) C G h (kc_X6_lasting  hc) q3_22 q3_23 q1_9 q3_24 hd_X6_lasting (by decide) rfl hl.1 rfl (Nat.le_of_ble_eq_true rfl) dX6_knock_158) (fun H locs h => ?_)
              obtain ⟨r_7, σ_8, hc, hF⟩ := kp_bd_s hF
              refine kp_cv h (kp_rV (k := 48) (As := [kp_iv a2, kp_jv 0, kp_iv 0, kp_jv r_6]) (rest := []) C G h (kc_X6_mark  hc) q3_18 q3_20 q0_1_13 q1_9 q3_21 ⟨rfl, hd_X6_mark⟩ (by decide) kp_lK48 rfl rfl hl.1 rfl (Nat.le_of_ble_eq_true rfl) dX6_knock_161) (fun H locs h => ?_)
              refine kp_goto (tgt := 187) C dX6_knock_164 (by decide) ?_
              exact kp_retv (v := 0) C hr hlk G h dX6_knock_187 hF
            · have hF := hb q5
              clear ha hb
              refine kp_tabOut (tgt := 167) C dX6_knock_40 hx (by omega) (by decide) ?_
              refine kp_aload_n C dX6_knock_167 rfl (lv_at hl 3 rfl) ?_
              refine kp_iload_n C dX6_knock_168 rfl (lv_at hl 5 rfl) ?_
              refine kp_lconst (v := 0) C dX6_knock_169 rfl ?_
              refine kp_iconst C dX6_knock_170 ?_
              refine kp_aload_n C dX6_knock_171 rfl (lv_at hl 3 rfl) ?_
              refine kp_getr C G h kp_lK48 rfl inWX6 (j := 4) (by decide) q1_213 rfl dX6_knock_172 ?_
              refine kp_iload_n C dX6_knock_175 rfl (lv_at hl 5 rfl) ?_
              refine kp_lald C G h (n := 10) kp_lK53 (by decide) dX6_knock_176 hF (fun hF => ?_)
              refine kp_ldc2 (n := 1074791425) C q3_25 rfl dX6_knock_177 ?_
              refine kp_iload C dX6_knock_180 (lv_at hl 2 rfl) ?_
              refine kp_xlshl C dX6_knock_182 hF (fun hF => ?_)
              refine kp_xland C dX6_knock_183 ?_
              obtain ⟨r_8, σ_9, hc, hF⟩ := kp_bd_s hF
              refine kp_cv h (kp_rV (k := 48) (As := [kp_iv a2, kp_jv 0, kp_iv 0, kp_jv (kp_andL (σ_0 53 (Int.toNat a2)) (1074791425 * 2 ^ (Int.toNat x7_0)))]) (rest := []) C G h (kc_X6_mark  hc) q3_18 q3_20 q0_1_13 q1_9 q3_21 ⟨rfl, hd_X6_mark⟩ (by decide) kp_lK48 rfl rfl hl.1 rfl (Nat.le_of_ble_eq_true rfl) dX6_knock_184) (fun H locs h => ?_)
              exact kp_retv (v := 0) C hr hlk G h dX6_knock_187 hF
def kf_X7_add  (a1 : Int) (σ_0 : kp_W) : kp_R :=
  kp_ls (σ_0 3 1) 0 (some (0, σ_0)) (kp_ls (σ_0 3 1) 120 (kp_ck (0 ≤ (σ_0 3 1) ∧ (σ_0 3 1) < 120) (kp_lt (kp_up σ_0 4 (Int.toNat (σ_0 3 1)) a1) (fun σ_1 => kp_lt (kp_up σ_1 3 1 ((σ_1 3 1) + 1)) (fun σ_2 => some (0, σ_2))))) (some (0, σ_0)))
set_option maxRecDepth 100000 in
set_option maxHeartbeats 4000000 in
theorem kc_X7_add {l : Launch} {X : kp_X} {a1 : Int}  {σ_0 σ' : kp_W} {r : Int}   (hF : (kf_X7_add a1 σ_0) = some (r, σ')) : kp_Met l yX7_add cX7_add 2 none 0 X kp_lK 55 σ_0 [.ref (kp_ad X 3), kp_iv a1] (kp_Qv X kp_lK 55 σ') := by
  refine kp_body pnX7 (Nat.le_of_ble_eq_true rfl) ?_
  intro p e s m args below meth c ls C hr hlk G h hl
  unfold kf_X7_add at hF
  have hl : lv_has ls 2 [(0, .ref (kp_ad X 3)), (1, kp_iv a1)] := hl
  refine kp_aload_n C dX7_add_0 rfl (lv_at hl 0 rfl) ?_
  refine kp_geti C G h kp_lK3 rfl inWX7 (j := 1) (by decide) q1_42 rfl dX7_add_1 ?_
  refine kp_if_lt (tgt := 19) C dX7_add_4 (by decide) hF (fun hF => ?_) (fun hF => ?_)
  · exact kp_retv (v := 0) C hr hlk G h dX7_add_19 hF
  · refine kp_aload_n C dX7_add_7 rfl (lv_at hl 0 rfl) ?_
    refine kp_geti C G h kp_lK3 rfl inWX7 (j := 1) (by decide) q1_42 rfl dX7_add_8 ?_
    refine kp_aload_n C dX7_add_11 rfl (lv_at hl 0 rfl) ?_
    refine kp_getr C G h kp_lK3 rfl inWX7 (j := 0) (by decide) q1_40 rfl dX7_add_12 ?_
    refine kp_alen C G h (n := 120) kp_lK4 (by decide) dX7_add_15 ?_
    refine kp_icmp_lt (tgt := 20) C dX7_add_16 (by decide) hF (fun hF => ?_) (fun hF => ?_)
    · refine kp_aload_n C dX7_add_20 rfl (lv_at hl 0 rfl) ?_
      refine kp_getr C G h kp_lK3 rfl inWX7 (j := 0) (by decide) q1_40 rfl dX7_add_21 ?_
      refine kp_aload_n C dX7_add_24 rfl (lv_at hl 0 rfl) ?_
      refine kp_geti C G h kp_lK3 rfl inWX7 (j := 1) (by decide) q1_42 rfl dX7_add_25 ?_
      refine kp_iload_n C dX7_add_28 rfl (lv_at hl 1 rfl) ?_
      refine kp_iast C G h (n := 120) kp_lK4 (by decide) dX7_add_29 hF (fun σ_1 H locs h hF => ?_)
      refine kp_aload_n C dX7_add_30 rfl (lv_at hl 0 rfl) ?_
      refine kp_dup C dX7_add_31 rfl ?_
      refine kp_geti C G h kp_lK3 rfl inWX7 (j := 1) (by decide) q1_42 rfl dX7_add_32 ?_
      refine kp_iconst C dX7_add_35 ?_
      refine kp_iadd C dX7_add_36 ?_
      refine kp_puti C G h kp_lK3 rfl inWX7 tyX7 tyX7_ok nmX7 (j := 1) (by decide) q1_42 rfl rfl (by decide +kernel) dX7_add_37 hF (fun σ_2 H locs h hF => ?_)
      exact kp_retv (v := 0) C hr hlk G h dX7_add_40 hF
    · exact kp_retv (v := 0) C hr hlk G h dX7_add_19 hF
def kf_X9_day  (a1 : Int) (a2 : Int) (σ_0 : kp_W) : kp_R :=
  kp_ls a1 0 (some ((-1), σ_0)) (kp_ls a1 3 (kp_ck (kp_inL a2 ∧ kp_inL 0) (kp_ls (kp_cmp a2 0) 0 (some ((-2), σ_0)) (kp_ck (kp_inL a2 ∧ kp_inL 1099511627775) (kp_ls 0 (kp_cmp a2 1099511627775) (some ((-2), σ_0)) (kp_ck (0 ≤ a1 ∧ a1 < 3) (kp_lt ((kp_bcL (σ_0 2 (Int.toNat a1))) : Int) (fun x4_0 => kp_ck (0 ≤ a1 ∧ a1 < 3) (kp_lt (kp_up σ_0 2 (Int.toNat a1) a2) (fun σ_1 => kp_lt (kp_up σ_1 0 6 0) (fun σ_2 => some (x4_0, σ_2))))))))))) (some ((-1), σ_0)))
set_option maxRecDepth 100000 in
set_option maxHeartbeats 4000000 in
theorem kc_X9_day {l : Launch} {X : kp_X} {a1 : Int} {a2 : Int}  {σ_0 σ' : kp_W} {r : Int}   (hF : (kf_X9_day a1 a2 σ_0) = some (r, σ')) : kp_Met l yX9_day cX9_day 5 (some .int) 1 X kp_lK 55 σ_0 [.ref (kp_ad X 0), kp_iv a1, kp_jv a2] (kp_Qi X kp_lK 55 σ' r) := by
  refine kp_body pnX9 (Nat.le_of_ble_eq_true rfl) ?_
  intro p e s m args below meth c ls C hr hlk G h hl
  unfold kf_X9_day at hF
  have hl : lv_has ls 5 [(0, .ref (kp_ad X 0)), (1, kp_iv a1), (2, kp_jv a2)] := hl
  refine kp_iload_n C dX9_day_0 rfl (lv_at hl 1 rfl) ?_
  refine kp_if_lt (tgt := 9) C dX9_day_1 (by decide) hF (fun hF => ?_) (fun hF => ?_)
  · refine kp_iconst C dX9_day_9 ?_
    exact kp_reti C hr hlk G h dX9_day_10 hF
  · refine kp_iload_n C dX9_day_4 rfl (lv_at hl 1 rfl) ?_
    refine kp_iconst C dX9_day_5 ?_
    refine kp_icmp_lt (tgt := 11) C dX9_day_6 (by decide) hF (fun hF => ?_) (fun hF => ?_)
    · refine kp_lload_n C dX9_day_11 rfl (lv_at hl 2 rfl) ?_
      refine kp_lconst (v := 0) C dX9_day_12 rfl ?_
      refine kp_xlcmp C dX9_day_13 hF (fun hF => ?_)
      refine kp_if_lt (tgt := 25) C dX9_day_14 (by decide) hF (fun hF => ?_) (fun hF => ?_)
      · refine kp_bipush C dX9_day_25 rfl ?_
        exact kp_reti C hr hlk G h dX9_day_27 hF
      · refine kp_lload_n C dX9_day_17 rfl (lv_at hl 2 rfl) ?_
        refine kp_ldc2 (n := 1099511627775) C q2_41 rfl dX9_day_18 ?_
        refine kp_xlcmp C dX9_day_21 hF (fun hF => ?_)
        refine kp_if_le (tgt := 28) C dX9_day_22 (by decide) hF (fun hF => ?_) (fun hF => ?_)
        · refine kp_aload_n C dX9_day_28 rfl (lv_at hl 0 rfl) ?_
          refine kp_getr C G h kp_lK0 rfl inWX9 (j := 0) (by decide) q2_12 rfl dX9_day_29 ?_
          refine kp_getr C G h kp_lK1 rfl inWX1 (j := 0) (by decide) q1_156 rfl dX9_day_32 ?_
          refine kp_iload_n C dX9_day_35 rfl (lv_at hl 1 rfl) ?_
          refine kp_lald C G h (n := 3) kp_lK2 (by decide) dX9_day_36 hF (fun hF => ?_)
          refine kp_ci h (kp_rS (As := [kp_jv (σ_0 2 (Int.toNat a1))]) (rest := []) C G h (kc_bitCountL (x := (σ_0 2 (Int.toNat a1)))) q2_42 q2_43 q1_12 q2_44 hd_J13_bitCount_95d88 (by decide) rfl hl.1 rfl (Nat.le_of_ble_eq_true rfl) dX9_day_37) (fun H locs h => ?_)
          refine kp_istore (lv' := fun x4_0 => [(4, kp_iv x4_0), (0, .ref (kp_ad X 0)), (1, kp_iv a1), (2, kp_jv a2)]) C dX9_day_40 hl (by decide) (fun _ => rfl) hF (fun x4_0 ls hl hF => ?_)
          refine kp_aload_n C dX9_day_42 rfl (lv_at hl 1 rfl) ?_
          refine kp_getr C G h kp_lK0 rfl inWX9 (j := 0) (by decide) q2_12 rfl dX9_day_43 ?_
          refine kp_getr C G h kp_lK1 rfl inWX1 (j := 0) (by decide) q1_156 rfl dX9_day_46 ?_
          refine kp_iload_n C dX9_day_49 rfl (lv_at hl 2 rfl) ?_
          refine kp_lload_n C dX9_day_50 rfl (lv_at hl 3 rfl) ?_
          refine kp_last C G h (n := 3) kp_lK2 (by decide) dX9_day_51 hF (fun σ_1 H locs h hF => ?_)
          refine kp_aload_n C dX9_day_52 rfl (lv_at hl 1 rfl) ?_
          refine kp_iconst C dX9_day_53 ?_
          have hF := kp_ck_i (c := (0 : Int) = 0 ∨ (0 : Int) = 1) (by decide) hF
          refine kp_putz C G h kp_lK0 rfl inWX9 tyX9 tyX9_ok nmX9 (j := 6) (by decide) q2_18 rfl rfl (by decide +kernel) dX9_day_54 hF (fun σ_2 H locs h hF => ?_)
          refine kp_iload C dX9_day_57 (lv_at hl 0 rfl) ?_
          exact kp_reti C hr hlk G h dX9_day_59 hF
        · refine kp_bipush C dX9_day_25 rfl ?_
          exact kp_reti C hr hlk G h dX9_day_27 hF
    · refine kp_iconst C dX9_day_9 ?_
      exact kp_reti C hr hlk G h dX9_day_10 hF
def kl_X9_feed_39 (a1 : Int) : Nat → Int → kp_W → (kp_W → kp_R) → kp_R
  | 0, _, _, _ => none
  | n + 1, x4_1, σ_1, k => kp_ls x4_1 0 (k σ_1) (kp_ck (kp_inL a1 ∧ 0 ≤ (8 * x4_1) ∧ (8 * x4_1) < 64) (kp_bd (kf_X7_add (kp_and (a1 / 2 ^ (Int.toNat (8 * x4_1))) 255) σ_1) (fun r_0 σ_3 => kp_lt (x4_1 + (-1)) (fun x4_2 => kl_X9_feed_39 a1 n x4_2 σ_3 k))))
def kf_X9_feed  (a1 : Int) (a2 : Int) (σ_0 : kp_W) : kp_R :=
  kp_ls a2 1 (some ((-2), σ_0)) (kp_ls 8 a2 (some ((-2), σ_0)) (kp_ls 120 ((σ_0 3 1) + a2) (some ((-4), σ_0)) (kp_lt ((a2 - 1) : Int) (fun x4_0 => kl_X9_feed_39 a1 kp_fu x4_0 σ_0 (fun (σ_2 : kp_W) => some ((σ_2 3 1), σ_2))))))
set_option maxRecDepth 100000 in
set_option maxHeartbeats 4000000 in
theorem kc_X9_feed {l : Launch} {X : kp_X} {a1 : Int} {a2 : Int}  {σ_0 σ' : kp_W} {r : Int}   (hF : (kf_X9_feed a1 a2 σ_0) = some (r, σ')) : kp_Met l yX9_feed cX9_feed 5 (some .int) 1 X kp_lK 55 σ_0 [.ref (kp_ad X 0), kp_jv a1, kp_iv a2] (kp_Qi X kp_lK 55 σ' r) := by
  refine kp_body pnX9 (Nat.le_of_ble_eq_true rfl) ?_
  intro p e s m args below meth c ls C hr hlk G h hl
  unfold kf_X9_feed at hF
  have hl : lv_has ls 5 [(0, .ref (kp_ad X 0)), (1, kp_jv a1), (3, kp_iv a2)] := hl
  refine kp_iload_n C dX9_feed_0 rfl (lv_at hl 2 rfl) ?_
  refine kp_iconst C dX9_feed_1 ?_
  refine kp_icmp_lt (tgt := 11) C dX9_feed_2 (by decide) hF (fun hF => ?_) (fun hF => ?_)
  · refine kp_bipush C dX9_feed_11 rfl ?_
    exact kp_reti C hr hlk G h dX9_feed_13 hF
  · refine kp_iload_n C dX9_feed_5 rfl (lv_at hl 2 rfl) ?_
    refine kp_bipush C dX9_feed_6 rfl ?_
    refine kp_icmp_le (tgt := 14) C dX9_feed_8 (by decide) hF (fun hF => ?_) (fun hF => ?_)
    · refine kp_aload_n C dX9_feed_14 rfl (lv_at hl 0 rfl) ?_
      refine kp_getr C G h kp_lK0 rfl inWX9 (j := 0) (by decide) q2_12 rfl dX9_feed_15 ?_
      refine kp_getr C G h kp_lK1 rfl inWX1 (j := 1) (by decide) q1_158 rfl dX9_feed_18 ?_
      refine kp_geti C G h kp_lK3 rfl inWX7 (j := 1) (by decide) q1_44 rfl dX9_feed_21 ?_
      refine kp_iload_n C dX9_feed_24 rfl (lv_at hl 2 rfl) ?_
      refine kp_iadd C dX9_feed_25 ?_
      refine kp_bipush C dX9_feed_26 rfl ?_
      refine kp_icmp_le (tgt := 34) C dX9_feed_28 (by decide) hF (fun hF => ?_) (fun hF => ?_)
      · refine kp_iload_n C dX9_feed_34 rfl (lv_at hl 2 rfl) ?_
        refine kp_iconst C dX9_feed_35 ?_
        refine kp_isub C dX9_feed_36 ?_
        refine kp_istore (lv' := fun x4_0 => [(4, kp_iv x4_0), (0, .ref (kp_ad X 0)), (1, kp_jv a1), (3, kp_iv a2)]) C dX9_feed_37 hl (by decide) (fun _ => rfl) hF (fun x4_0 ls hl hF => ?_)
        have L39 : ∀ (n : Nat) (x4_1 : Int) (σ_1 : kp_W) (k : kp_W → kp_R) (H : Heap) (locs : List Loc) (ls : Array Slot), kp_H X kp_lK 55 s σ_1 H locs → lv_has ls 5 [(0, .ref (kp_ad X 0)), (1, kp_jv a1), (4, kp_iv x4_1)] → (∀ (σ_2 : kp_W) (H : Heap) (locs : List Loc) (ls : Array Slot), kp_H X kp_lK 55 s σ_2 H locs → lv_has ls 5 [(0, .ref (kp_ad X 0))] → k σ_2 = some (r, σ') → W p l e (kp_rm 1) s m args below meth c H locs 0 0 (MQ below (kp_Qi X kp_lK 55 σ' r) args s 0 0 (kp_A X 55)) (F0 m 72 ls [])) → kl_X9_feed_39 a1 n x4_1 σ_1 k = some (r, σ') → W p l e (kp_rm 1) s m args below meth c H locs 0 0 (MQ below (kp_Qi X kp_lK 55 σ' r) args s 0 0 (kp_A X 55)) (F0 m 39 ls []) := by
          intro n
          induction n with
          | zero =>
            intro x4_1 σ_1 k H locs ls h hl K hF
            rw [kl_X9_feed_39] at hF
            cases hF
          | succ n ih =>
            intro x4_1 σ_1 k H locs ls h hl K hF
            rw [kl_X9_feed_39] at hF
            refine kp_iload C dX9_feed_39 (lv_at hl 2 rfl) ?_
            refine kp_if_lt (tgt := 72) C dX9_feed_41 (by decide) hF (fun hF => ?_) (fun hF => ?_)
            · exact K _ _ _ _ h (lv_sub hl [0] rfl) hF
            · refine kp_aload_n C dX9_feed_44 rfl (lv_at hl 0 rfl) ?_
              refine kp_getr C G h kp_lK0 rfl inWX9 (j := 0) (by decide) q2_12 rfl dX9_feed_45 ?_
              refine kp_getr C G h kp_lK1 rfl inWX1 (j := 1) (by decide) q1_158 rfl dX9_feed_48 ?_
              refine kp_lload_n C dX9_feed_51 rfl (lv_at hl 1 rfl) ?_
              refine kp_bipush C dX9_feed_52 rfl ?_
              refine kp_iload C dX9_feed_54 (lv_at hl 2 rfl) ?_
              refine kp_imul C dX9_feed_56 ?_
              refine kp_xlshr C dX9_feed_57 hF (fun hF => ?_)
              refine kp_xl2i C dX9_feed_58 ?_
              refine kp_sipush C dX9_feed_59 rfl ?_
              refine kp_xiand C dX9_feed_62 ?_
              obtain ⟨r_0, σ_3, hc, hF⟩ := kp_bd_s hF
              refine kp_cv h (kp_rV (k := 3) (As := [kp_iv (kp_and (a1 / 2 ^ (Int.toNat (8 * x4_1))) 255)]) (rest := []) C G h (kc_X7_add  hc) q2_52 q2_53 q2_54 q1_3 q2_55 ⟨rfl, hd_X7_add⟩ (by decide) kp_lK3 rfl rfl hl.1 rfl (Nat.le_of_ble_eq_true rfl) dX9_feed_63) (fun H locs h => ?_)
              refine kp_iinc (k := 2) (lv' := fun x4_2 => [(4, kp_iv x4_2), (0, .ref (kp_ad X 0)), (1, kp_jv a1)]) C dX9_feed_66 hl rfl (by decide) (fun _ => rfl) hF (fun x4_2 ls hl hF => ?_)
              refine kp_goto (tgt := 39) C dX9_feed_69 (by decide) ?_
              exact ih _ _ k _ _ _ h (lv_sub hl [1, 2, 0] rfl) K hF
        refine L39 kp_fu _ _ _ _ _ _ h (lv_sub hl [1, 2, 0] rfl) (fun σ_2 H locs ls h hl hF => ?_) hF
        clear L39
        refine kp_aload_n C dX9_feed_72 rfl (lv_at hl 0 rfl) ?_
        refine kp_getr C G h kp_lK0 rfl inWX9 (j := 0) (by decide) q2_12 rfl dX9_feed_73 ?_
        refine kp_getr C G h kp_lK1 rfl inWX1 (j := 1) (by decide) q1_158 rfl dX9_feed_76 ?_
        refine kp_geti C G h kp_lK3 rfl inWX7 (j := 1) (by decide) q1_44 rfl dX9_feed_79 ?_
        exact kp_reti C hr hlk G h dX9_feed_82 hF
      · refine kp_bipush C dX9_feed_31 rfl ?_
        exact kp_reti C hr hlk G h dX9_feed_33 hF
    · refine kp_bipush C dX9_feed_11 rfl ?_
      exact kp_reti C hr hlk G h dX9_feed_13 hF
def kf_X9_house   (σ_0 : kp_W) : kp_R :=
  kp_ls (σ_0 1 5) 5 (kp_bd (kf_X5_reads σ_0) (fun r_0 σ_1 => kp_lt (r_0 : Int) (fun x1_0 => kp_lt (kp_up σ_1 3 1 0) (fun σ_2 => kp_eq x1_0 0 (some (((-10) - (σ_2 39 2)), σ_2)) (kp_bd (kf_X2_copy_5_40 σ_2) (fun r_1 σ_3 => kp_lt (kp_up σ_3 0 6 0) (fun σ_4 => kp_lt (kp_up σ_4 1 5 ((σ_4 1 5) + 1)) (fun σ_5 => some ((σ_4 1 5), σ_5))))))))) (some ((-4), σ_0))
set_option maxRecDepth 100000 in
set_option maxHeartbeats 4000000 in
theorem kc_X9_house {l : Launch} {X : kp_X}  {σ_0 σ' : kp_W} {r : Int}   (hF : (kf_X9_house σ_0) = some (r, σ')) : kp_Met l yX9_house cX9_house 2 (some .int) 53 X kp_lK 55 σ_0 [.ref (kp_ad X 0)] (kp_Qi X kp_lK 55 σ' r) := by
  refine kp_body pnX9 (Nat.le_of_ble_eq_true rfl) ?_
  intro p e s m args below meth c ls C hr hlk G h hl
  unfold kf_X9_house at hF
  have hl : lv_has ls 2 [(0, .ref (kp_ad X 0))] := hl
  refine kp_aload_n C dX9_house_0 rfl (lv_at hl 0 rfl) ?_
  refine kp_getr C G h kp_lK0 rfl inWX9 (j := 0) (by decide) q2_12 rfl dX9_house_1 ?_
  refine kp_geti C G h kp_lK1 rfl inWX1 (j := 5) (by decide) q1_166 rfl dX9_house_4 ?_
  refine kp_iconst C dX9_house_7 ?_
  refine kp_icmp_lt (tgt := 14) C dX9_house_8 (by decide) hF (fun hF => ?_) (fun hF => ?_)
  · refine kp_aload_n C dX9_house_14 rfl (lv_at hl 0 rfl) ?_
    refine kp_getr C G h kp_lK0 rfl inWX9 (j := 3) (by decide) q2_15 rfl dX9_house_15 ?_
    refine kp_aload_n C dX9_house_18 rfl (lv_at hl 0 rfl) ?_
    refine kp_getr C G h kp_lK0 rfl inWX9 (j := 0) (by decide) q2_12 rfl dX9_house_19 ?_
    refine kp_getr C G h kp_lK1 rfl inWX1 (j := 1) (by decide) q1_158 rfl dX9_house_22 ?_
    obtain ⟨r_0, σ_1, hc, hF⟩ := kp_bd_s hF
    refine kp_ci h (kp_rV (k := 39) (As := [.ref (kp_ad X 3)]) (rest := []) C G h (kc_X5_reads  hc) q2_60 q2_61 q2_62 q1_8 q2_63 ⟨rfl, hd_X5_reads⟩ (by decide) kp_lK39 rfl rfl hl.1 rfl (Nat.le_of_ble_eq_true rfl) dX9_house_25) (fun H locs h => ?_)
    refine kp_istore_n (lv' := fun x1_0 => [(1, kp_iv x1_0), (0, .ref (kp_ad X 0))]) C dX9_house_28 rfl hl (by decide) (fun _ => rfl) hF (fun x1_0 ls hl hF => ?_)
    refine kp_aload_n C dX9_house_29 rfl (lv_at hl 1 rfl) ?_
    refine kp_getr C G h kp_lK0 rfl inWX9 (j := 0) (by decide) q2_12 rfl dX9_house_30 ?_
    refine kp_getr C G h kp_lK1 rfl inWX1 (j := 1) (by decide) q1_158 rfl dX9_house_33 ?_
    refine kp_iconst C dX9_house_36 ?_
    refine kp_puti C G h kp_lK3 rfl inWX7 tyX7 tyX7_ok nmX7 (j := 1) (by decide) q1_44 rfl rfl (by decide +kernel) dX9_house_37 hF (fun σ_2 H locs h hF => ?_)
    refine kp_iload_n C dX9_house_40 rfl (lv_at hl 0 rfl) ?_
    refine kp_if_ne (tgt := 55) C dX9_house_41 (by decide) hF (fun hF => ?_) (fun hF => ?_)
    · refine kp_aload_n C dX9_house_55 rfl (lv_at hl 1 rfl) ?_
      refine kp_getr C G h kp_lK0 rfl inWX9 (j := 0) (by decide) q2_12 rfl dX9_house_56 ?_
      refine kp_getr C G h kp_lK1 rfl inWX1 (j := 2) (by decide) q1_160 rfl dX9_house_59 ?_
      refine kp_aload_n C dX9_house_62 rfl (lv_at hl 1 rfl) ?_
      refine kp_getr C G h kp_lK0 rfl inWX9 (j := 3) (by decide) q2_15 rfl dX9_house_63 ?_
      refine kp_getr C G h kp_lK39 rfl inWX5 (j := 0) (by decide) q1_191 rfl dX9_house_66 ?_
      obtain ⟨r_1, σ_3, hc, hF⟩ := kp_bd_s hF
      refine kp_cv h (kp_rV (k := 5) (As := [.ref (kp_ad X 40)]) (rest := []) C G h (kc_X2_copy_5_40  hc) q2_168 q2_169 q2_170 q1_4 q2_171 ⟨rfl, hd_X2_copy⟩ (by decide) kp_lK5 rfl rfl hl.1 rfl (Nat.le_of_ble_eq_true rfl) dX9_house_69) (fun H locs h => ?_)
      refine kp_aload_n C dX9_house_72 rfl (lv_at hl 1 rfl) ?_
      refine kp_iconst C dX9_house_73 ?_
      have hF := kp_ck_i (c := (0 : Int) = 0 ∨ (0 : Int) = 1) (by decide) hF
      refine kp_putz C G h kp_lK0 rfl inWX9 tyX9 tyX9_ok nmX9 (j := 6) (by decide) q2_18 rfl rfl (by decide +kernel) dX9_house_74 hF (fun σ_4 H locs h hF => ?_)
      refine kp_aload_n C dX9_house_77 rfl (lv_at hl 1 rfl) ?_
      refine kp_getr C G h kp_lK0 rfl inWX9 (j := 0) (by decide) q2_12 rfl dX9_house_78 ?_
      refine kp_dup C dX9_house_81 rfl ?_
      refine kp_geti C G h kp_lK1 rfl inWX1 (j := 5) (by decide) q1_166 rfl dX9_house_82 ?_
      refine kp_dup_x1 C dX9_house_85 rfl rfl ?_
      refine kp_iconst C dX9_house_86 ?_
      refine kp_iadd C dX9_house_87 ?_
      refine kp_puti C G h kp_lK1 rfl inWX1 tyX1 tyX1_ok nmX1 (j := 5) (by decide) q1_166 rfl rfl (by decide +kernel) dX9_house_88 hF (fun σ_5 H locs h hF => ?_)
      exact kp_reti C hr hlk G h dX9_house_91 hF
    · refine kp_bipush C dX9_house_44 rfl ?_
      refine kp_aload_n C dX9_house_46 rfl (lv_at hl 1 rfl) ?_
      refine kp_getr C G h kp_lK0 rfl inWX9 (j := 3) (by decide) q2_15 rfl dX9_house_47 ?_
      refine kp_geti C G h kp_lK39 rfl inWX5 (j := 2) (by decide) q1_194 rfl dX9_house_50 ?_
      refine kp_isub C dX9_house_53 ?_
      exact kp_reti C hr hlk G h dX9_house_54 hF
  · refine kp_bipush C dX9_house_11 rfl ?_
    exact kp_reti C hr hlk G h dX9_house_13 hF
def kf_X9_told  (a1 : Int) (σ_0 : kp_W) : kp_R :=
  kp_ls a1 0 (some ((-1), σ_0)) (kp_ls a1 5 (kp_ck (0 ≤ a1 ∧ a1 < 5) (some ((σ_0 6 (Int.toNat a1)), σ_0))) (some ((-1), σ_0)))
set_option maxRecDepth 100000 in
set_option maxHeartbeats 4000000 in
theorem kc_X9_told {l : Launch} {X : kp_X} {a1 : Int}  {σ_0 σ' : kp_W} {r : Int}   (hF : (kf_X9_told a1 σ_0) = some (r, σ')) : kp_Met l yX9_told cX9_told 2 (some .int) 0 X kp_lK 55 σ_0 [.ref (kp_ad X 0), kp_iv a1] (kp_Qi X kp_lK 55 σ' r) := by
  refine kp_body pnX9 (Nat.le_of_ble_eq_true rfl) ?_
  intro p e s m args below meth c ls C hr hlk G h hl
  unfold kf_X9_told at hF
  have hl : lv_has ls 2 [(0, .ref (kp_ad X 0)), (1, kp_iv a1)] := hl
  refine kp_iload_n C dX9_told_0 rfl (lv_at hl 1 rfl) ?_
  refine kp_if_lt (tgt := 9) C dX9_told_1 (by decide) hF (fun hF => ?_) (fun hF => ?_)
  · refine kp_iconst C dX9_told_9 ?_
    exact kp_reti C hr hlk G h dX9_told_10 hF
  · refine kp_iload_n C dX9_told_4 rfl (lv_at hl 1 rfl) ?_
    refine kp_iconst C dX9_told_5 ?_
    refine kp_icmp_lt (tgt := 11) C dX9_told_6 (by decide) hF (fun hF => ?_) (fun hF => ?_)
    · refine kp_aload_n C dX9_told_11 rfl (lv_at hl 0 rfl) ?_
      refine kp_getr C G h kp_lK0 rfl inWX9 (j := 0) (by decide) q2_12 rfl dX9_told_12 ?_
      refine kp_getr C G h kp_lK1 rfl inWX1 (j := 2) (by decide) q1_160 rfl dX9_told_15 ?_
      refine kp_getr C G h kp_lK5 rfl inWX2 (j := 0) (by decide) q1_68 rfl dX9_told_18 ?_
      refine kp_iload_n C dX9_told_21 rfl (lv_at hl 1 rfl) ?_
      refine kp_iald C G h (n := 5) kp_lK6 (by decide) dX9_told_22 hF (fun hF => ?_)
      exact kp_reti C hr hlk G h dX9_told_23 hF
    · refine kp_iconst C dX9_told_9 ?_
      exact kp_reti C hr hlk G h dX9_told_10 hF
def kf_X9_isMinute  (a1 : Int) (σ_0 : kp_W) : kp_R :=
  kp_ls a1 0 (some (0, σ_0)) (kp_ls a1 40 (some (1, σ_0)) (some (0, σ_0)))
set_option maxRecDepth 100000 in
set_option maxHeartbeats 4000000 in
theorem kc_X9_isMinute {l : Launch} {X : kp_X} {a1 : Int}  {σ_0 σ' : kp_W} {r : Int}   (hF : (kf_X9_isMinute a1 σ_0) = some (r, σ')) : kp_Met l yX9_isMinute cX9_isMinute 1 (some .boolean) 0 X kp_lK 55 σ_0 [kp_iv a1] (kp_Qi X kp_lK 55 σ' r) := by
  refine kp_body pnX9 (Nat.le_of_ble_eq_true rfl) ?_
  intro p e s m args below meth c ls C hr hlk G h hl
  unfold kf_X9_isMinute at hF
  have hl : lv_has ls 1 [(0, kp_iv a1)] := hl
  refine kp_iload_n C dX9_isMinute_0 rfl (lv_at hl 0 rfl) ?_
  refine kp_if_lt (tgt := 14) C dX9_isMinute_1 (by decide) hF (fun hF => ?_) (fun hF => ?_)
  · refine kp_iconst C dX9_isMinute_14 ?_
    exact kp_retz C hr hlk G h dX9_isMinute_15 (kp_ck_i (by decide) hF)
  · refine kp_iload_n C dX9_isMinute_4 rfl (lv_at hl 0 rfl) ?_
    refine kp_bipush C dX9_isMinute_5 rfl ?_
    refine kp_icmp_ge (tgt := 14) C dX9_isMinute_7 (by decide) hF (fun hF => ?_) (fun hF => ?_)
    · refine kp_iconst C dX9_isMinute_14 ?_
      exact kp_retz C hr hlk G h dX9_isMinute_15 (kp_ck_i (by decide) hF)
    · refine kp_iconst C dX9_isMinute_10 ?_
      refine kp_goto (tgt := 15) C dX9_isMinute_11 (by decide) ?_
      exact kp_retz C hr hlk G h dX9_isMinute_15 (kp_ck_i (by decide) hF)
def kl_X9_ring_18 (a2 : Int) (a3 : Int) : Nat → Int → kp_W → (kp_W → kp_R) → kp_R
  | 0, _, _, _ => none
  | n + 1, x7_1, σ_2, k => kp_ls x7_1 (σ_2 11 5) (kp_bd (kf_X6_knock x7_1 a2 a3 σ_2) (fun r_1 σ_4 => kp_lt (x7_1 + 1) (fun x7_2 => kl_X9_ring_18 a2 a3 n x7_2 σ_4 k))) (k σ_2)
def kf_X9_ring  (a1 : Int) (a2 : Int) (a3 : Int) (σ_0 : kp_W) : kp_R :=
  kp_bd (kf_X6_warm a1 σ_0) (fun r_0 σ_1 => kp_lt (0 : Int) (fun x7_0 => kl_X9_ring_18 a2 a3 kp_fu x7_0 σ_1 (fun (σ_3 : kp_W) => some (0, σ_3))))
set_option maxRecDepth 100000 in
set_option maxHeartbeats 4000000 in
theorem kc_X9_ring {l : Launch} {X : kp_X} {a1 : Int} {a2 : Int} {a3 : Int}  {σ_0 σ' : kp_W} {r : Int}   (hF : (kf_X9_ring a1 a2 a3 σ_0) = some (r, σ')) : kp_Met l yX9_ring cX9_ring 8 none 4 X kp_lK 55 σ_0 [.ref (kp_ad X 0), kp_jv a1, kp_jv a2, kp_jv a3] (kp_Qv X kp_lK 55 σ') := by
  refine kp_body pnX9 (Nat.le_of_ble_eq_true rfl) ?_
  intro p e s m args below meth c ls C hr hlk G h hl
  unfold kf_X9_ring at hF
  have hl : lv_has ls 8 [(0, .ref (kp_ad X 0)), (1, kp_jv a1), (3, kp_jv a2), (5, kp_jv a3)] := hl
  refine kp_aload_n C dX9_ring_0 rfl (lv_at hl 0 rfl) ?_
  refine kp_getr C G h kp_lK0 rfl inWX9 (j := 4) (by decide) q2_16 rfl dX9_ring_1 ?_
  refine kp_aload_n C dX9_ring_4 rfl (lv_at hl 0 rfl) ?_
  refine kp_getr C G h kp_lK0 rfl inWX9 (j := 0) (by decide) q2_12 rfl dX9_ring_5 ?_
  refine kp_getr C G h kp_lK1 rfl inWX1 (j := 2) (by decide) q1_160 rfl dX9_ring_8 ?_
  refine kp_lload_n C dX9_ring_11 rfl (lv_at hl 1 rfl) ?_
  obtain ⟨r_0, σ_1, hc, hF⟩ := kp_bd_s hF
  refine kp_cv h (kp_rV (k := 48) (As := [.ref (kp_ad X 5), kp_jv a1]) (rest := []) C G h (kc_X6_warm  hc) q2_229 q2_230 q2_231 q1_9 q2_232 ⟨rfl, hd_X6_warm⟩ (by decide) kp_lK48 rfl rfl hl.1 rfl (Nat.le_of_ble_eq_true rfl) dX9_ring_12) (fun H locs h => ?_)
  refine kp_iconst C dX9_ring_15 ?_
  refine kp_istore (lv' := fun x7_0 => [(7, kp_iv x7_0), (0, .ref (kp_ad X 0)), (1, kp_jv a1), (3, kp_jv a2), (5, kp_jv a3)]) C dX9_ring_16 hl (by decide) (fun _ => rfl) hF (fun x7_0 ls hl hF => ?_)
  have L18 : ∀ (n : Nat) (x7_1 : Int) (σ_2 : kp_W) (k : kp_W → kp_R) (H : Heap) (locs : List Loc) (ls : Array Slot), kp_H X kp_lK 55 s σ_2 H locs → lv_has ls 8 [(0, .ref (kp_ad X 0)), (3, kp_jv a2), (5, kp_jv a3), (7, kp_iv x7_1)] → (∀ (σ_3 : kp_W) (H : Heap) (locs : List Loc) (ls : Array Slot), kp_H X kp_lK 55 s σ_3 H locs → lv_has ls 8 [] → k σ_3 = some (r, σ') → W p l e (kp_rm 4) s m args below meth c H locs 0 0 (MQ below (kp_Qv X kp_lK 55 σ') args s 0 0 (kp_A X 55)) (F0 m 58 ls [])) → kl_X9_ring_18 a2 a3 n x7_1 σ_2 k = some (r, σ') → W p l e (kp_rm 4) s m args below meth c H locs 0 0 (MQ below (kp_Qv X kp_lK 55 σ') args s 0 0 (kp_A X 55)) (F0 m 18 ls []) := by
    intro n
    induction n with
    | zero =>
      intro x7_1 σ_2 k H locs ls h hl K hF
      rw [kl_X9_ring_18] at hF
      cases hF
    | succ n ih =>
      intro x7_1 σ_2 k H locs ls h hl K hF
      rw [kl_X9_ring_18] at hF
      refine kp_iload C dX9_ring_18 (lv_at hl 3 rfl) ?_
      refine kp_aload_n C dX9_ring_20 rfl (lv_at hl 0 rfl) ?_
      refine kp_getr C G h kp_lK0 rfl inWX9 (j := 0) (by decide) q2_12 rfl dX9_ring_21 ?_
      refine kp_getr C G h kp_lK1 rfl inWX1 (j := 3) (by decide) q1_162 rfl dX9_ring_24 ?_
      refine kp_geti C G h kp_lK11 rfl inWX3 (j := 5) (by decide) q1_118 rfl dX9_ring_27 ?_
      refine kp_icmp_ge (tgt := 58) C dX9_ring_30 (by decide) hF (fun hF => ?_) (fun hF => ?_)
      · exact K _ _ _ _ h (lv_sub hl [] rfl) hF
      · refine kp_aload_n C dX9_ring_33 rfl (lv_at hl 0 rfl) ?_
        refine kp_getr C G h kp_lK0 rfl inWX9 (j := 4) (by decide) q2_16 rfl dX9_ring_34 ?_
        refine kp_aload_n C dX9_ring_37 rfl (lv_at hl 0 rfl) ?_
        refine kp_getr C G h kp_lK0 rfl inWX9 (j := 0) (by decide) q2_12 rfl dX9_ring_38 ?_
        refine kp_getr C G h kp_lK1 rfl inWX1 (j := 3) (by decide) q1_162 rfl dX9_ring_41 ?_
        refine kp_iload C dX9_ring_44 (lv_at hl 3 rfl) ?_
        refine kp_lload_n C dX9_ring_46 rfl (lv_at hl 1 rfl) ?_
        refine kp_lload C dX9_ring_47 (lv_at hl 2 rfl) ?_
        obtain ⟨r_1, σ_4, hc, hF⟩ := kp_bd_s hF
        refine kp_cv h (kp_rV (k := 48) (As := [.ref (kp_ad X 11), kp_iv x7_1, kp_jv a2, kp_jv a3]) (rest := []) C G h (kc_X6_knock  hc) q2_239 q3_0 q3_1 q1_9 q3_2 ⟨rfl, hd_X6_knock⟩ (by decide) kp_lK48 rfl rfl hl.1 rfl (Nat.le_of_ble_eq_true rfl) dX9_ring_49) (fun H locs h => ?_)
        refine kp_iinc (k := 3) (lv' := fun x7_2 => [(7, kp_iv x7_2), (0, .ref (kp_ad X 0)), (3, kp_jv a2), (5, kp_jv a3)]) C dX9_ring_52 hl rfl (by decide) (fun _ => rfl) hF (fun x7_2 ls hl hF => ?_)
        refine kp_goto (tgt := 18) C dX9_ring_55 (by decide) ?_
        exact ih _ _ k _ _ _ h (lv_sub hl [1, 2, 3, 0] rfl) K hF
  refine L18 kp_fu _ _ _ _ _ _ h (lv_sub hl [1, 3, 4, 0] rfl) (fun σ_3 H locs ls h hl hF => ?_) hF
  clear L18
  exact kp_retv (v := 0) C hr hlk G h dX9_ring_58 hF
def kl_X9_settle_10  : Nat → Int → kp_W → (kp_W → kp_R) → kp_R
  | 0, _, _, _ => none
  | n + 1, x1_1, σ_1, k => kp_ls x1_1 (σ_1 11 5) (kp_bd (kf_X6_read x1_1 σ_1) (fun r_1 σ_5 => kp_lt (x1_1 + 1) (fun x1_2 => kl_X9_settle_10 n x1_2 σ_5 k))) (k σ_1)
def kf_X9_settle   (σ_0 : kp_W) : kp_R :=
  kp_eq (σ_0 0 6) 0 (kp_lt (0 : Int) (fun x1_0 => kl_X9_settle_10 kp_fu x1_0 σ_0 (fun (σ_2 : kp_W) => kp_bd (kf_X9_ring (σ_2 2 0) (σ_2 2 1) (σ_2 2 2) σ_2) (fun r_0 σ_3 => kp_lt (kp_up σ_3 0 6 1) (fun σ_4 => some (0, σ_4)))))) (some (0, σ_0))
set_option maxRecDepth 100000 in
set_option maxHeartbeats 4000000 in
theorem kc_X9_settle {l : Launch} {X : kp_X}  {σ_0 σ' : kp_W} {r : Int}   (hF : (kf_X9_settle σ_0) = some (r, σ')) : kp_Met l yX9_settle cX9_settle 2 none 5 X kp_lK 55 σ_0 [.ref (kp_ad X 0)] (kp_Qv X kp_lK 55 σ') := by
  refine kp_body pnX9 (Nat.le_of_ble_eq_true rfl) ?_
  intro p e s m args below meth c ls C hr hlk G h hl
  unfold kf_X9_settle at hF
  have hl : lv_has ls 2 [(0, .ref (kp_ad X 0))] := hl
  refine kp_aload_n C dX9_settle_0 rfl (lv_at hl 0 rfl) ?_
  refine kp_geti C G h kp_lK0 rfl inWX9 (j := 6) (by decide) q2_18 rfl dX9_settle_1 ?_
  refine kp_if_eq (tgt := 8) C dX9_settle_4 (by decide) hF (fun hF => ?_) (fun hF => ?_)
  · refine kp_iconst C dX9_settle_8 ?_
    refine kp_istore_n (lv' := fun x1_0 => [(1, kp_iv x1_0), (0, .ref (kp_ad X 0))]) C dX9_settle_9 rfl hl (by decide) (fun _ => rfl) hF (fun x1_0 ls hl hF => ?_)
    have L10 : ∀ (n : Nat) (x1_1 : Int) (σ_1 : kp_W) (k : kp_W → kp_R) (H : Heap) (locs : List Loc) (ls : Array Slot), kp_H X kp_lK 55 s σ_1 H locs → lv_has ls 2 [(0, .ref (kp_ad X 0)), (1, kp_iv x1_1)] → (∀ (σ_2 : kp_W) (H : Heap) (locs : List Loc) (ls : Array Slot), kp_H X kp_lK 55 s σ_2 H locs → lv_has ls 2 [(0, .ref (kp_ad X 0))] → k σ_2 = some (r, σ') → W p l e (kp_rm 5) s m args below meth c H locs 0 0 (MQ below (kp_Qv X kp_lK 55 σ') args s 0 0 (kp_A X 55)) (F0 m 52 ls [])) → kl_X9_settle_10 n x1_1 σ_1 k = some (r, σ') → W p l e (kp_rm 5) s m args below meth c H locs 0 0 (MQ below (kp_Qv X kp_lK 55 σ') args s 0 0 (kp_A X 55)) (F0 m 10 ls []) := by
      intro n
      induction n with
      | zero =>
        intro x1_1 σ_1 k H locs ls h hl K hF
        rw [kl_X9_settle_10] at hF
        cases hF
      | succ n ih =>
        intro x1_1 σ_1 k H locs ls h hl K hF
        rw [kl_X9_settle_10] at hF
        refine kp_iload_n C dX9_settle_10 rfl (lv_at hl 1 rfl) ?_
        refine kp_aload_n C dX9_settle_11 rfl (lv_at hl 0 rfl) ?_
        refine kp_getr C G h kp_lK0 rfl inWX9 (j := 0) (by decide) q2_12 rfl dX9_settle_12 ?_
        refine kp_getr C G h kp_lK1 rfl inWX1 (j := 3) (by decide) q1_162 rfl dX9_settle_15 ?_
        refine kp_geti C G h kp_lK11 rfl inWX3 (j := 5) (by decide) q1_118 rfl dX9_settle_18 ?_
        refine kp_icmp_ge (tgt := 52) C dX9_settle_21 (by decide) hF (fun hF => ?_) (fun hF => ?_)
        · exact K _ _ _ _ h (lv_sub hl [0] rfl) hF
        · refine kp_aload_n C dX9_settle_24 rfl (lv_at hl 0 rfl) ?_
          refine kp_getr C G h kp_lK0 rfl inWX9 (j := 4) (by decide) q2_16 rfl dX9_settle_25 ?_
          refine kp_aload_n C dX9_settle_28 rfl (lv_at hl 0 rfl) ?_
          refine kp_getr C G h kp_lK0 rfl inWX9 (j := 0) (by decide) q2_12 rfl dX9_settle_29 ?_
          refine kp_getr C G h kp_lK1 rfl inWX1 (j := 2) (by decide) q1_160 rfl dX9_settle_32 ?_
          refine kp_aload_n C dX9_settle_35 rfl (lv_at hl 0 rfl) ?_
          refine kp_getr C G h kp_lK0 rfl inWX9 (j := 0) (by decide) q2_12 rfl dX9_settle_36 ?_
          refine kp_getr C G h kp_lK1 rfl inWX1 (j := 3) (by decide) q1_162 rfl dX9_settle_39 ?_
          refine kp_iload_n C dX9_settle_42 rfl (lv_at hl 1 rfl) ?_
          obtain ⟨r_1, σ_5, hc, hF⟩ := kp_bd_s hF
          refine kp_cv h (kp_rV (k := 48) (As := [.ref (kp_ad X 5), .ref (kp_ad X 11), kp_iv x1_1]) (rest := []) C G h (kc_X6_read  hc) q2_188 q2_189 q2_190 q1_9 q2_191 ⟨rfl, hd_X6_read⟩ (by decide) kp_lK48 rfl rfl hl.1 rfl (Nat.le_of_ble_eq_true rfl) dX9_settle_43) (fun H locs h => ?_)
          refine kp_iinc (k := 1) (lv' := fun x1_2 => [(1, kp_iv x1_2), (0, .ref (kp_ad X 0))]) C dX9_settle_46 hl rfl (by decide) (fun _ => rfl) hF (fun x1_2 ls hl hF => ?_)
          refine kp_goto (tgt := 10) C dX9_settle_49 (by decide) ?_
          exact ih _ _ k _ _ _ h (lv_sub hl [1, 0] rfl) K hF
    refine L10 kp_fu _ _ _ _ _ _ h (lv_sub hl [1, 0] rfl) (fun σ_2 H locs ls h hl hF => ?_) hF
    clear L10
    refine kp_aload_n C dX9_settle_52 rfl (lv_at hl 0 rfl) ?_
    refine kp_aload_n C dX9_settle_53 rfl (lv_at hl 0 rfl) ?_
    refine kp_getr C G h kp_lK0 rfl inWX9 (j := 0) (by decide) q2_12 rfl dX9_settle_54 ?_
    refine kp_getr C G h kp_lK1 rfl inWX1 (j := 0) (by decide) q1_156 rfl dX9_settle_57 ?_
    refine kp_iconst C dX9_settle_60 ?_
    refine kp_lald0 C G h (i := 0) (n := 3) kp_lK2 (by decide) (by decide) dX9_settle_61 ?_
    refine kp_aload_n C dX9_settle_62 rfl (lv_at hl 0 rfl) ?_
    refine kp_getr C G h kp_lK0 rfl inWX9 (j := 0) (by decide) q2_12 rfl dX9_settle_63 ?_
    refine kp_getr C G h kp_lK1 rfl inWX1 (j := 0) (by decide) q1_156 rfl dX9_settle_66 ?_
    refine kp_iconst C dX9_settle_69 ?_
    refine kp_lald0 C G h (i := 1) (n := 3) kp_lK2 (by decide) (by decide) dX9_settle_70 ?_
    refine kp_aload_n C dX9_settle_71 rfl (lv_at hl 0 rfl) ?_
    refine kp_getr C G h kp_lK0 rfl inWX9 (j := 0) (by decide) q2_12 rfl dX9_settle_72 ?_
    refine kp_getr C G h kp_lK1 rfl inWX1 (j := 0) (by decide) q1_156 rfl dX9_settle_75 ?_
    refine kp_iconst C dX9_settle_78 ?_
    refine kp_lald0 C G h (i := 2) (n := 3) kp_lK2 (by decide) (by decide) dX9_settle_79 ?_
    obtain ⟨r_0, σ_3, hc, hF⟩ := kp_bd_s hF
    refine kp_cv h (kp_rV (k := 0) (As := [kp_jv (σ_2 2 0), kp_jv (σ_2 2 1), kp_jv (σ_2 2 2)]) (rest := []) C G h (kc_X9_ring  hc) q2_225 q2_227 q0_1_11 q1_1 q2_228 ⟨rfl, hd_X9_ring⟩ (by decide) kp_lK0 rfl rfl hl.1 rfl (Nat.le_of_ble_eq_true rfl) dX9_settle_80) (fun H locs h => ?_)
    refine kp_aload_n C dX9_settle_83 rfl (lv_at hl 0 rfl) ?_
    refine kp_iconst C dX9_settle_84 ?_
    have hF := kp_ck_i (c := (1 : Int) = 0 ∨ (1 : Int) = 1) (by decide) hF
    refine kp_putz C G h kp_lK0 rfl inWX9 tyX9 tyX9_ok nmX9 (j := 6) (by decide) q2_18 rfl rfl (by decide +kernel) dX9_settle_85 hF (fun σ_4 H locs h hF => ?_)
    exact kp_retv (v := 0) C hr hlk G h dX9_settle_88 hF
  · exact kp_retv (v := 0) C hr hlk G h dX9_settle_7 hF
def kf_X9_warmth  (a1 : Int) (σ_0 : kp_W) : kp_R :=
  kp_bd (kf_X9_isMinute a1 σ_0) (fun r_0 σ_1 => kp_eq r_0 0 (some ((-1), σ_1)) (kp_bd (kf_X9_settle σ_1) (fun r_1 σ_2 => kp_ck (0 ≤ a1 ∧ a1 < 40) (some ((σ_2 49 (Int.toNat a1)), σ_2)))))
set_option maxRecDepth 100000 in
set_option maxHeartbeats 4000000 in
theorem kc_X9_warmth {l : Launch} {X : kp_X} {a1 : Int}  {σ_0 σ' : kp_W} {r : Int}   (hF : (kf_X9_warmth a1 σ_0) = some (r, σ')) : kp_Met l yX9_warmth cX9_warmth 2 (some .int) 6 X kp_lK 55 σ_0 [.ref (kp_ad X 0), kp_iv a1] (kp_Qi X kp_lK 55 σ' r) := by
  refine kp_body pnX9 (Nat.le_of_ble_eq_true rfl) ?_
  intro p e s m args below meth c ls C hr hlk G h hl
  unfold kf_X9_warmth at hF
  have hl : lv_has ls 2 [(0, .ref (kp_ad X 0)), (1, kp_iv a1)] := hl
  refine kp_iload_n C dX9_warmth_0 rfl (lv_at hl 1 rfl) ?_
  obtain ⟨r_0, σ_1, hc, hF⟩ := kp_bd_s hF
  refine kp_ci h (kp_rS (As := [kp_iv a1]) (rest := []) C G h (kc_X9_isMinute  hc) q2_181 q2_182 q1_1 q2_183 hd_X9_isMinute (by decide) rfl hl.1 rfl (Nat.le_of_ble_eq_true rfl) dX9_warmth_1) (fun H locs h => ?_)
  refine kp_if_ne (tgt := 9) C dX9_warmth_4 (by decide) hF (fun hF => ?_) (fun hF => ?_)
  · refine kp_aload_n C dX9_warmth_9 rfl (lv_at hl 0 rfl) ?_
    obtain ⟨r_1, σ_2, hc, hF⟩ := kp_bd_s hF
    refine kp_cv h (kp_rV (k := 0) (As := []) (rest := []) C G h (kc_X9_settle  hc) q2_184 q2_186 q0_1_9 q1_1 q2_187 ⟨rfl, hd_X9_settle⟩ (by decide) kp_lK0 rfl rfl hl.1 rfl (Nat.le_of_ble_eq_true rfl) dX9_warmth_10) (fun H locs h => ?_)
    refine kp_aload_n C dX9_warmth_13 rfl (lv_at hl 0 rfl) ?_
    refine kp_getr C G h kp_lK0 rfl inWX9 (j := 4) (by decide) q2_16 rfl dX9_warmth_14 ?_
    refine kp_getr C G h kp_lK48 rfl inWX6 (j := 0) (by decide) q1_209 rfl dX9_warmth_17 ?_
    refine kp_iload_n C dX9_warmth_20 rfl (lv_at hl 1 rfl) ?_
    refine kp_iald C G h (n := 40) kp_lK49 (by decide) dX9_warmth_21 hF (fun hF => ?_)
    exact kp_reti C hr hlk G h dX9_warmth_22 hF
  · refine kp_iconst C dX9_warmth_7 ?_
    exact kp_reti C hr hlk G h dX9_warmth_8 hF
def kf_X9_isPlace  (a1 : Int) (σ_0 : kp_W) : kp_R :=
  kp_ls a1 0 (some (0, σ_0)) (kp_ls a1 10 (some (1, σ_0)) (some (0, σ_0)))
set_option maxRecDepth 100000 in
set_option maxHeartbeats 4000000 in
theorem kc_X9_isPlace {l : Launch} {X : kp_X} {a1 : Int}  {σ_0 σ' : kp_W} {r : Int}   (hF : (kf_X9_isPlace a1 σ_0) = some (r, σ')) : kp_Met l yX9_isPlace cX9_isPlace 1 (some .boolean) 0 X kp_lK 55 σ_0 [kp_iv a1] (kp_Qi X kp_lK 55 σ' r) := by
  refine kp_body pnX9 (Nat.le_of_ble_eq_true rfl) ?_
  intro p e s m args below meth c ls C hr hlk G h hl
  unfold kf_X9_isPlace at hF
  have hl : lv_has ls 1 [(0, kp_iv a1)] := hl
  refine kp_iload_n C dX9_isPlace_0 rfl (lv_at hl 0 rfl) ?_
  refine kp_if_lt (tgt := 14) C dX9_isPlace_1 (by decide) hF (fun hF => ?_) (fun hF => ?_)
  · refine kp_iconst C dX9_isPlace_14 ?_
    exact kp_retz C hr hlk G h dX9_isPlace_15 (kp_ck_i (by decide) hF)
  · refine kp_iload_n C dX9_isPlace_4 rfl (lv_at hl 0 rfl) ?_
    refine kp_bipush C dX9_isPlace_5 rfl ?_
    refine kp_icmp_ge (tgt := 14) C dX9_isPlace_7 (by decide) hF (fun hF => ?_) (fun hF => ?_)
    · refine kp_iconst C dX9_isPlace_14 ?_
      exact kp_retz C hr hlk G h dX9_isPlace_15 (kp_ck_i (by decide) hF)
    · refine kp_iconst C dX9_isPlace_10 ?_
      refine kp_goto (tgt := 15) C dX9_isPlace_11 (by decide) ?_
      exact kp_retz C hr hlk G h dX9_isPlace_15 (kp_ck_i (by decide) hF)
def kf_X9_noise  (a1 : Int) (a2 : Int) (a3 : Int) (a4 : Int) (σ_0 : kp_W) : kp_R :=
  kp_bd (kf_X9_isKind a1 σ_0) (fun r_0 σ_1 => kp_eq r_0 0 (some ((-1), σ_1)) (kp_bd (kf_X9_isPlace a2 σ_1) (fun r_1 σ_2 => kp_eq r_1 0 (some ((-1), σ_2)) (kp_ls a3 0 (some ((-2), σ_2)) (kp_ls 9 a3 (some ((-2), σ_2)) (kp_ls a4 1 (some ((-2), σ_2)) (kp_ls 40 a4 (some ((-2), σ_2)) (kp_ls (σ_2 11 5) 10 (kp_lt (kp_up σ_2 0 6 0) (fun σ_3 => kp_bd (kf_X3_add a1 a2 a3 a4 σ_3) (fun r_2 σ_4 => some (r_2, σ_4)))) (some ((-4), σ_2))))))))))
set_option maxRecDepth 100000 in
set_option maxHeartbeats 4000000 in
theorem kc_X9_noise {l : Launch} {X : kp_X} {a1 : Int} {a2 : Int} {a3 : Int} {a4 : Int}  {σ_0 σ' : kp_W} {r : Int}   (hF : (kf_X9_noise a1 a2 a3 a4 σ_0) = some (r, σ')) : kp_Met l yX9_noise cX9_noise 5 (some .int) 1 X kp_lK 55 σ_0 [.ref (kp_ad X 0), kp_iv a1, kp_iv a2, kp_iv a3, kp_iv a4] (kp_Qi X kp_lK 55 σ' r) := by
  refine kp_body pnX9 (Nat.le_of_ble_eq_true rfl) ?_
  intro p e s m args below meth c ls C hr hlk G h hl
  unfold kf_X9_noise at hF
  have hl : lv_has ls 5 [(0, .ref (kp_ad X 0)), (1, kp_iv a1), (2, kp_iv a2), (3, kp_iv a3), (4, kp_iv a4)] := hl
  refine kp_iload_n C dX9_noise_0 rfl (lv_at hl 1 rfl) ?_
  obtain ⟨r_0, σ_1, hc, hF⟩ := kp_bd_s hF
  refine kp_ci h (kp_rS (As := [kp_iv a1]) (rest := []) C G h (kc_X9_isKind  hc) q3_30 q3_31 q1_1 q3_32 hd_X9_isKind (by decide) rfl hl.1 rfl (Nat.le_of_ble_eq_true rfl) dX9_noise_1) (fun H locs h => ?_)
  refine kp_if_eq (tgt := 14) C dX9_noise_4 (by decide) hF (fun hF => ?_) (fun hF => ?_)
  · refine kp_iconst C dX9_noise_14 ?_
    exact kp_reti C hr hlk G h dX9_noise_15 hF
  · refine kp_iload_n C dX9_noise_7 rfl (lv_at hl 2 rfl) ?_
    obtain ⟨r_1, σ_2, hc, hF⟩ := kp_bd_s hF
    refine kp_ci h (kp_rS (As := [kp_iv a2]) (rest := []) C G h (kc_X9_isPlace  hc) q3_33 q3_34 q1_1 q3_35 hd_X9_isPlace (by decide) rfl hl.1 rfl (Nat.le_of_ble_eq_true rfl) dX9_noise_8) (fun H locs h => ?_)
    refine kp_if_ne (tgt := 16) C dX9_noise_11 (by decide) hF (fun hF => ?_) (fun hF => ?_)
    · refine kp_iload_n C dX9_noise_16 rfl (lv_at hl 3 rfl) ?_
      refine kp_if_lt (tgt := 39) C dX9_noise_17 (by decide) hF (fun hF => ?_) (fun hF => ?_)
      · refine kp_bipush C dX9_noise_39 rfl ?_
        exact kp_reti C hr hlk G h dX9_noise_41 hF
      · refine kp_iload_n C dX9_noise_20 rfl (lv_at hl 3 rfl) ?_
        refine kp_bipush C dX9_noise_21 rfl ?_
        refine kp_icmp_gt (tgt := 39) C dX9_noise_23 (by decide) hF (fun hF => ?_) (fun hF => ?_)
        · refine kp_bipush C dX9_noise_39 rfl ?_
          exact kp_reti C hr hlk G h dX9_noise_41 hF
        · refine kp_iload C dX9_noise_26 (lv_at hl 4 rfl) ?_
          refine kp_iconst C dX9_noise_28 ?_
          refine kp_icmp_lt (tgt := 39) C dX9_noise_29 (by decide) hF (fun hF => ?_) (fun hF => ?_)
          · refine kp_bipush C dX9_noise_39 rfl ?_
            exact kp_reti C hr hlk G h dX9_noise_41 hF
          · refine kp_iload C dX9_noise_32 (lv_at hl 4 rfl) ?_
            refine kp_bipush C dX9_noise_34 rfl ?_
            refine kp_icmp_le (tgt := 42) C dX9_noise_36 (by decide) hF (fun hF => ?_) (fun hF => ?_)
            · refine kp_aload_n C dX9_noise_42 rfl (lv_at hl 0 rfl) ?_
              refine kp_getr C G h kp_lK0 rfl inWX9 (j := 0) (by decide) q2_12 rfl dX9_noise_43 ?_
              refine kp_getr C G h kp_lK1 rfl inWX1 (j := 3) (by decide) q1_162 rfl dX9_noise_46 ?_
              refine kp_geti C G h kp_lK11 rfl inWX3 (j := 5) (by decide) q1_118 rfl dX9_noise_49 ?_
              refine kp_bipush C dX9_noise_52 rfl ?_
              refine kp_icmp_lt (tgt := 60) C dX9_noise_54 (by decide) hF (fun hF => ?_) (fun hF => ?_)
              · refine kp_aload_n C dX9_noise_60 rfl (lv_at hl 0 rfl) ?_
                refine kp_iconst C dX9_noise_61 ?_
                have hF := kp_ck_i (c := (0 : Int) = 0 ∨ (0 : Int) = 1) (by decide) hF
                refine kp_putz C G h kp_lK0 rfl inWX9 tyX9 tyX9_ok nmX9 (j := 6) (by decide) q2_18 rfl rfl (by decide +kernel) dX9_noise_62 hF (fun σ_3 H locs h hF => ?_)
                refine kp_aload_n C dX9_noise_65 rfl (lv_at hl 0 rfl) ?_
                refine kp_getr C G h kp_lK0 rfl inWX9 (j := 0) (by decide) q2_12 rfl dX9_noise_66 ?_
                refine kp_getr C G h kp_lK1 rfl inWX1 (j := 3) (by decide) q1_162 rfl dX9_noise_69 ?_
                refine kp_iload_n C dX9_noise_72 rfl (lv_at hl 1 rfl) ?_
                refine kp_iload_n C dX9_noise_73 rfl (lv_at hl 2 rfl) ?_
                refine kp_iload_n C dX9_noise_74 rfl (lv_at hl 3 rfl) ?_
                refine kp_iload C dX9_noise_75 (lv_at hl 4 rfl) ?_
                obtain ⟨r_2, σ_4, hc, hF⟩ := kp_bd_s hF
                refine kp_ci h (kp_rV (k := 11) (As := [kp_iv a1, kp_iv a2, kp_iv a3, kp_iv a4]) (rest := []) C G h (kc_X3_add  hc) q3_36 q3_37 q3_38 q1_6 q3_39 ⟨rfl, hd_X3_add⟩ (by decide) kp_lK11 rfl rfl hl.1 rfl (Nat.le_of_ble_eq_true rfl) dX9_noise_77) (fun H locs h => ?_)
                exact kp_reti C hr hlk G h dX9_noise_80 hF
              · refine kp_bipush C dX9_noise_57 rfl ?_
                exact kp_reti C hr hlk G h dX9_noise_59 hF
            · refine kp_bipush C dX9_noise_39 rfl ?_
              exact kp_reti C hr hlk G h dX9_noise_41 hF
    · refine kp_iconst C dX9_noise_14 ?_
      exact kp_reti C hr hlk G h dX9_noise_15 hF
