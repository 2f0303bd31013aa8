-- by program (wip/whole/gen/drive.py)
def kf_X9_parted  (a1 : Int) (a2 : Int) (σ_0 : kp_W) : kp_R :=
  kp_bd (kf_X3_has a1 σ_0) (fun r_0 σ_1 => kp_eq r_0 0 (some ((-9223372036854775808), σ_1)) (kp_bd (kf_X3_has a2 σ_1) (fun r_1 σ_2 => kp_eq r_1 0 (some ((-9223372036854775808), σ_2)) (kp_eq a1 a2 (some ((-9223372036854775808), σ_2)) (kp_bd (kf_X9_settle σ_2) (fun r_2 σ_3 => kp_bd (kf_X6_knockingOf a1 σ_3) (fun r_3 σ_4 => kp_bd (kf_X6_knockingOf a2 σ_4) (fun r_4 σ_5 => some ((kp_xorL r_3 r_4), σ_5)))))))))
set_option maxRecDepth 100000 in
set_option maxHeartbeats 4000000 in
theorem kc_X9_parted {l : Launch} {X : kp_X} {a1 : Int} {a2 : Int}  {σ_0 σ' : kp_W} {r : Int}   (hF : (kf_X9_parted a1 a2 σ_0) = some (r, σ')) : kp_Met l yX9_parted cX9_parted 3 (some .long) 6 X kp_lK 55 σ_0 [.ref (kp_ad X 0), kp_iv a1, kp_iv a2] (kp_Ql X kp_lK 55 σ' r) := by
  refine kp_body pnX9 (Nat.le_of_ble_eq_true rfl) ?_
  intro p e s m args below meth c ls C hr hlk G h hl
  unfold kf_X9_parted at hF
  have hl : lv_has ls 3 [(0, .ref (kp_ad X 0)), (1, kp_iv a1), (2, kp_iv a2)] := hl
  refine kp_aload_n C dX9_parted_0 rfl (lv_at hl 0 rfl) ?_
  refine kp_getr C G h kp_lK0 rfl inWX9 (j := 0) (by decide) q2_12 rfl dX9_parted_1 ?_
  refine kp_getr C G h kp_lK1 rfl inWX1 (j := 3) (by decide) q1_162 rfl dX9_parted_4 ?_
  refine kp_iload_n C dX9_parted_7 rfl (lv_at hl 1 rfl) ?_
  obtain ⟨r_0, σ_1, hc, hF⟩ := kp_bd_s hF
  refine kp_ci h (kp_rV (k := 11) (As := [kp_iv a1]) (rest := []) C G h (kc_X3_has  hc) q3_44 q3_45 q3_46 q1_6 q3_47 ⟨rfl, hd_X3_has⟩ (by decide) kp_lK11 rfl rfl hl.1 rfl (Nat.le_of_ble_eq_true rfl) dX9_parted_8) (fun H locs h => ?_)
  refine kp_if_eq (tgt := 33) C dX9_parted_11 (by decide) hF (fun hF => ?_) (fun hF => ?_)
  · refine kp_ldc2 (n := (-9223372036854775808)) C q3_195 rfl dX9_parted_33 ?_
    exact kp_retl C hr hlk G h dX9_parted_36 hF
  · refine kp_aload_n C dX9_parted_14 rfl (lv_at hl 0 rfl) ?_
    refine kp_getr C G h kp_lK0 rfl inWX9 (j := 0) (by decide) q2_12 rfl dX9_parted_15 ?_
    refine kp_getr C G h kp_lK1 rfl inWX1 (j := 3) (by decide) q1_162 rfl dX9_parted_18 ?_
    refine kp_iload_n C dX9_parted_21 rfl (lv_at hl 2 rfl) ?_
    obtain ⟨r_1, σ_2, hc, hF⟩ := kp_bd_s hF
    refine kp_ci h (kp_rV (k := 11) (As := [kp_iv a2]) (rest := []) C G h (kc_X3_has  hc) q3_44 q3_45 q3_46 q1_6 q3_47 ⟨rfl, hd_X3_has⟩ (by decide) kp_lK11 rfl rfl hl.1 rfl (Nat.le_of_ble_eq_true rfl) dX9_parted_22) (fun H locs h => ?_)
    refine kp_if_eq (tgt := 33) C dX9_parted_25 (by decide) hF (fun hF => ?_) (fun hF => ?_)
    · refine kp_ldc2 (n := (-9223372036854775808)) C q3_195 rfl dX9_parted_33 ?_
      exact kp_retl C hr hlk G h dX9_parted_36 hF
    · refine kp_iload_n C dX9_parted_28 rfl (lv_at hl 1 rfl) ?_
      refine kp_iload_n C dX9_parted_29 rfl (lv_at hl 2 rfl) ?_
      refine kp_icmp_ne (tgt := 37) C dX9_parted_30 (by decide) hF (fun hF => ?_) (fun hF => ?_)
      · refine kp_aload_n C dX9_parted_37 rfl (lv_at hl 0 rfl) ?_
        obtain ⟨r_2, σ_3, hc, hF⟩ := kp_bd_s hF
        refine kp_cv h (kp_rV (k := 0) (As := []) (rest := []) C G h (kc_X9_settle  hc) q2_184 q2_186 q0_1_9 q1_1 q2_187 ⟨rfl, hd_X9_settle⟩ (by decide) kp_lK0 rfl rfl hl.1 rfl (Nat.le_of_ble_eq_true rfl) dX9_parted_38) (fun H locs h => ?_)
        refine kp_aload_n C dX9_parted_41 rfl (lv_at hl 0 rfl) ?_
        refine kp_getr C G h kp_lK0 rfl inWX9 (j := 4) (by decide) q2_16 rfl dX9_parted_42 ?_
        refine kp_iload_n C dX9_parted_45 rfl (lv_at hl 1 rfl) ?_
        obtain ⟨r_3, σ_4, hc, hF⟩ := kp_bd_s hF
        refine kp_cl' h (kp_rV (k := 48) (As := [kp_iv a1]) (rest := []) C G h (kc_X6_knockingOf  hc) q3_196 q3_197 q3_198 q1_9 q3_199 ⟨rfl, hd_X6_knockingOf⟩ (by decide) kp_lK48 rfl rfl hl.1 rfl (Nat.le_of_ble_eq_true rfl) dX9_parted_46) (fun H locs h => ?_)
        refine kp_aload_n C dX9_parted_49 rfl (lv_at hl 0 rfl) ?_
        refine kp_getr C G h kp_lK0 rfl inWX9 (j := 4) (by decide) q2_16 rfl dX9_parted_50 ?_
        refine kp_iload_n C dX9_parted_53 rfl (lv_at hl 2 rfl) ?_
        obtain ⟨r_4, σ_5, hc, hF⟩ := kp_bd_s hF
        refine kp_cl' h (kp_rV (k := 48) (As := [kp_iv a2]) (rest := [kp_jv r_3]) C G h (kc_X6_knockingOf  hc) q3_196 q3_197 q3_198 q1_9 q3_199 ⟨rfl, hd_X6_knockingOf⟩ (by decide) kp_lK48 rfl rfl hl.1 rfl (Nat.le_of_ble_eq_true rfl) dX9_parted_54) (fun H locs h => ?_)
        refine kp_xlxor C dX9_parted_57 ?_
        exact kp_retl C hr hlk G h dX9_parted_58 hF
      · refine kp_ldc2 (n := (-9223372036854775808)) C q3_195 rfl dX9_parted_33 ?_
        exact kp_retl C hr hlk G h dX9_parted_36 hF
def kl_X9_quiet_26  : Nat → Int → Int → kp_W → (Int → kp_W → kp_R) → kp_R
  | 0, _, _, _, _ => none
  | n + 1, x2_1, x3_1, σ_3, k => kp_ls x3_1 (σ_3 11 5) (kp_bd (kf_X3_isLoose x3_1 σ_3) (fun r_2 σ_6 => kp_eq r_2 0 (kp_lt (x3_1 + 1) (fun x3_2 => kl_X9_quiet_26 n x2_1 x3_2 σ_6 k)) (kp_bd (kf_X6_knockingOf x3_1 σ_6) (fun r_3 σ_7 => kp_ck (kp_inL r_3 ∧ kp_inL 0) (kp_eq (kp_cmp r_3 0) 0 (kp_lt (x3_1 + 1) (fun x3_3 => kl_X9_quiet_26 n x2_1 x3_3 σ_7 k)) (kp_ck (0 ≤ x3_1 ∧ x3_1 < 32) (kp_lt ((kp_or x2_1 (1 * 2 ^ (Int.toNat x3_1))) : Int) (fun x2_3 => kp_lt (x3_1 + 1) (fun x3_4 => kl_X9_quiet_26 n x2_3 x3_4 σ_7 k))))))))) (k x2_1 σ_3)
def kf_X9_quiet  (a1 : Int) (σ_0 : kp_W) : kp_R :=
  kp_ls a1 0 (some ((-1), σ_0)) (kp_ls 1 a1 (some ((-1), σ_0)) (kp_bd (kf_X9_settle σ_0) (fun r_0 σ_1 => kp_bd (kf_X9_ring 0 0 0 σ_1) (fun r_1 σ_2 => kp_lt (0 : Int) (fun x2_0 => kp_lt (0 : Int) (fun x3_0 => kl_X9_quiet_26 kp_fu x2_0 x3_0 σ_2 (fun (x2_2 : Int) (σ_4 : kp_W) => kp_lt (kp_up σ_4 0 6 0) (fun σ_5 => kp_eq a1 1 (some (x2_2, σ_5)) (kp_eq x2_2 0 (some (1, σ_5)) (some (0, σ_5)))))))))))
set_option maxRecDepth 100000 in
set_option maxHeartbeats 4000000 in
theorem kc_X9_quiet {l : Launch} {X : kp_X} {a1 : Int}  {σ_0 σ' : kp_W} {r : Int}   (hF : (kf_X9_quiet a1 σ_0) = some (r, σ')) : kp_Met l yX9_quiet cX9_quiet 4 (some .int) 6 X kp_lK 55 σ_0 [.ref (kp_ad X 0), kp_iv a1] (kp_Qi X kp_lK 55 σ' r) := by
  refine kp_body pnX9 (Nat.le_of_ble_eq_true rfl) ?_
  intro p e s m args below meth c ls C hr hlk G h hl
  unfold kf_X9_quiet at hF
  have hl : lv_has ls 4 [(0, .ref (kp_ad X 0)), (1, kp_iv a1)] := hl
  refine kp_iload_n C dX9_quiet_0 rfl (lv_at hl 1 rfl) ?_
  refine kp_if_lt (tgt := 9) C dX9_quiet_1 (by decide) hF (fun hF => ?_) (fun hF => ?_)
  · refine kp_iconst C dX9_quiet_9 ?_
    exact kp_reti C hr hlk G h dX9_quiet_10 hF
  · refine kp_iload_n C dX9_quiet_4 rfl (lv_at hl 1 rfl) ?_
    refine kp_iconst C dX9_quiet_5 ?_
    refine kp_icmp_le (tgt := 11) C dX9_quiet_6 (by decide) hF (fun hF => ?_) (fun hF => ?_)
    · refine kp_aload_n C dX9_quiet_11 rfl (lv_at hl 0 rfl) ?_
      obtain ⟨r_0, σ_1, hc, hF⟩ := kp_bd_s hF
      refine kp_cv h (kp_rV (k := 0) (As := []) (rest := []) C G h (kc_X9_settle  hc) q2_184 q2_186 q0_1_9 q1_1 q2_187 ⟨rfl, hd_X9_settle⟩ (by decide) kp_lK0 rfl rfl hl.1 rfl (Nat.le_of_ble_eq_true rfl) dX9_quiet_12) (fun H locs h => ?_)
      refine kp_aload_n C dX9_quiet_15 rfl (lv_at hl 0 rfl) ?_
      refine kp_lconst (v := 0) C dX9_quiet_16 rfl ?_
      refine kp_lconst (v := 0) C dX9_quiet_17 rfl ?_
      refine kp_lconst (v := 0) C dX9_quiet_18 rfl ?_
      obtain ⟨r_1, σ_2, hc, hF⟩ := kp_bd_s hF
      refine kp_cv h (kp_rV (k := 0) (As := [kp_jv 0, kp_jv 0, kp_jv 0]) (rest := []) C G h (kc_X9_ring  hc) q2_225 q2_227 q0_1_11 q1_1 q2_228 ⟨rfl, hd_X9_ring⟩ (by decide) kp_lK0 rfl rfl hl.1 rfl (Nat.le_of_ble_eq_true rfl) dX9_quiet_19) (fun H locs h => ?_)
      refine kp_iconst C dX9_quiet_22 ?_
      refine kp_istore_n (lv' := fun x2_0 => [(2, kp_iv x2_0), (0, .ref (kp_ad X 0)), (1, kp_iv a1)]) C dX9_quiet_23 rfl hl (by decide) (fun _ => rfl) hF (fun x2_0 ls hl hF => ?_)
      refine kp_iconst C dX9_quiet_24 ?_
      refine kp_istore_n (lv' := fun x3_0 => [(3, kp_iv x3_0), (2, kp_iv x2_0), (0, .ref (kp_ad X 0)), (1, kp_iv a1)]) C dX9_quiet_25 rfl hl (by decide) (fun _ => rfl) hF (fun x3_0 ls hl hF => ?_)
      have L26 : ∀ (n : Nat) (x2_1 : Int) (x3_1 : Int) (σ_3 : kp_W) (k : Int → kp_W → kp_R) (H : Heap) (locs : List Loc) (ls : Array Slot), kp_H X kp_lK 55 s σ_3 H locs → lv_has ls 4 [(0, .ref (kp_ad X 0)), (1, kp_iv a1), (2, kp_iv x2_1), (3, kp_iv x3_1)] → (∀ (x2_2 : Int) (σ_4 : kp_W) (H : Heap) (locs : List Loc) (ls : Array Slot), kp_H X kp_lK 55 s σ_4 H locs → lv_has ls 4 [(0, .ref (kp_ad X 0)), (1, kp_iv a1), (2, kp_iv x2_2)] → k x2_2 σ_4 = some (r, σ') → W p l e (kp_rm 6) s m args below meth c H locs 0 0 (MQ below (kp_Qi X kp_lK 55 σ' r) args s 0 0 (kp_A X 55)) (F0 m 79 ls [])) → kl_X9_quiet_26 n x2_1 x3_1 σ_3 k = some (r, σ') → W p l e (kp_rm 6) s m args below meth c H locs 0 0 (MQ below (kp_Qi X kp_lK 55 σ' r) args s 0 0 (kp_A X 55)) (F0 m 26 ls []) := by
        intro n
        induction n with
        | zero =>
          intro x2_1 x3_1 σ_3 k H locs ls h hl K hF
          rw [kl_X9_quiet_26] at hF
          cases hF
        | succ n ih =>
          intro x2_1 x3_1 σ_3 k H locs ls h hl K hF
          rw [kl_X9_quiet_26] at hF
          refine kp_iload_n C dX9_quiet_26 rfl (lv_at hl 3 rfl) ?_
          refine kp_aload_n C dX9_quiet_27 rfl (lv_at hl 0 rfl) ?_
          refine kp_getr C G h kp_lK0 rfl inWX9 (j := 0) (by decide) q2_12 rfl dX9_quiet_28 ?_
          refine kp_getr C G h kp_lK1 rfl inWX1 (j := 3) (by decide) q1_162 rfl dX9_quiet_31 ?_
          refine kp_geti C G h kp_lK11 rfl inWX3 (j := 5) (by decide) q1_118 rfl dX9_quiet_34 ?_
          refine kp_icmp_ge (tgt := 79) C dX9_quiet_37 (by decide) hF (fun hF => ?_) (fun hF => ?_)
          · exact K _ _ _ _ _ h (lv_sub hl [0, 1, 2] rfl) hF
          · refine kp_aload_n C dX9_quiet_40 rfl (lv_at hl 0 rfl) ?_
            refine kp_getr C G h kp_lK0 rfl inWX9 (j := 0) (by decide) q2_12 rfl dX9_quiet_41 ?_
            refine kp_getr C G h kp_lK1 rfl inWX1 (j := 3) (by decide) q1_162 rfl dX9_quiet_44 ?_
            refine kp_iload_n C dX9_quiet_47 rfl (lv_at hl 3 rfl) ?_
            obtain ⟨r_2, σ_6, hc, hF⟩ := kp_bd_s hF
            refine kp_ci h (kp_rV (k := 11) (As := [kp_iv x3_1]) (rest := []) C G h (kc_X3_isLoose  hc) q3_58 q3_59 q3_60 q1_6 q3_61 ⟨rfl, hd_X3_isLoose⟩ (by decide) kp_lK11 rfl rfl hl.1 rfl (Nat.le_of_ble_eq_true rfl) dX9_quiet_48) (fun H locs h => ?_)
            refine kp_if_eq (tgt := 73) C dX9_quiet_51 (by decide) hF (fun hF => ?_) (fun hF => ?_)
            · refine kp_iinc (k := 3) (lv' := fun x3_2 => [(3, kp_iv x3_2), (0, .ref (kp_ad X 0)), (1, kp_iv a1), (2, kp_iv x2_1)]) C dX9_quiet_73 hl rfl (by decide) (fun _ => rfl) hF (fun x3_2 ls hl hF => ?_)
              refine kp_goto (tgt := 26) C dX9_quiet_76 (by decide) ?_
              exact ih _ _ _ k _ _ _ h (lv_sub hl [1, 2, 3, 0] rfl) K hF
            · refine kp_aload_n C dX9_quiet_54 rfl (lv_at hl 0 rfl) ?_
              refine kp_getr C G h kp_lK0 rfl inWX9 (j := 4) (by decide) q2_16 rfl dX9_quiet_55 ?_
              refine kp_iload_n C dX9_quiet_58 rfl (lv_at hl 3 rfl) ?_
              obtain ⟨r_3, σ_7, hc, hF⟩ := kp_bd_s hF
              refine kp_cl' h (kp_rV (k := 48) (As := [kp_iv x3_1]) (rest := []) C G h (kc_X6_knockingOf  hc) q3_196 q3_197 q3_198 q1_9 q3_199 ⟨rfl, hd_X6_knockingOf⟩ (by decide) kp_lK48 rfl rfl hl.1 rfl (Nat.le_of_ble_eq_true rfl) dX9_quiet_59) (fun H locs h => ?_)
              refine kp_lconst (v := 0) C dX9_quiet_62 rfl ?_
              refine kp_xlcmp C dX9_quiet_63 hF (fun hF => ?_)
              refine kp_if_eq (tgt := 73) C dX9_quiet_64 (by decide) hF (fun hF => ?_) (fun hF => ?_)
              · refine kp_iinc (k := 3) (lv' := fun x3_3 => [(3, kp_iv x3_3), (0, .ref (kp_ad X 0)), (1, kp_iv a1), (2, kp_iv x2_1)]) C dX9_quiet_73 hl rfl (by decide) (fun _ => rfl) hF (fun x3_3 ls hl hF => ?_)
                refine kp_goto (tgt := 26) C dX9_quiet_76 (by decide) ?_
                exact ih _ _ _ k _ _ _ h (lv_sub hl [1, 2, 3, 0] rfl) K hF
              · refine kp_iload_n C dX9_quiet_67 rfl (lv_at hl 2 rfl) ?_
                refine kp_iconst C dX9_quiet_68 ?_
                refine kp_iload_n C dX9_quiet_69 rfl (lv_at hl 3 rfl) ?_
                refine kp_xishl C dX9_quiet_70 hF (fun hF => ?_)
                refine kp_xior C dX9_quiet_71 ?_
                refine kp_istore_n (lv' := fun x2_3 => [(2, kp_iv x2_3), (0, .ref (kp_ad X 0)), (1, kp_iv a1), (3, kp_iv x3_1)]) C dX9_quiet_72 rfl hl (by decide) (fun _ => rfl) hF (fun x2_3 ls hl hF => ?_)
                refine kp_iinc (k := 3) (lv' := fun x3_4 => [(3, kp_iv x3_4), (2, kp_iv x2_3), (0, .ref (kp_ad X 0)), (1, kp_iv a1)]) C dX9_quiet_73 hl rfl (by decide) (fun _ => rfl) hF (fun x3_4 ls hl hF => ?_)
                refine kp_goto (tgt := 26) C dX9_quiet_76 (by decide) ?_
                exact ih _ _ _ k _ _ _ h (lv_sub hl [2, 3, 1, 0] rfl) K hF
      refine L26 kp_fu _ _ _ _ _ _ _ h (lv_sub hl [2, 3, 1, 0] rfl) (fun x2_2 σ_4 H locs ls h hl hF => ?_) hF
      clear L26
      refine kp_aload_n C dX9_quiet_79 rfl (lv_at hl 0 rfl) ?_
      refine kp_iconst C dX9_quiet_80 ?_
      have hF := kp_ck_i (c := (0 : Int) = 0 ∨ (0 : Int) = 1) (by decide) hF
      refine kp_putz C G h kp_lK0 rfl inWX9 tyX9 tyX9_ok nmX9 (j := 6) (by decide) q2_18 rfl rfl (by decide +kernel) dX9_quiet_81 hF (fun σ_5 H locs h hF => ?_)
      refine kp_iload_n C dX9_quiet_84 rfl (lv_at hl 1 rfl) ?_
      refine kp_iconst C dX9_quiet_85 ?_
      refine kp_icmp_ne (tgt := 91) C dX9_quiet_86 (by decide) hF (fun hF => ?_) (fun hF => ?_)
      · refine kp_iload_n C dX9_quiet_91 rfl (lv_at hl 2 rfl) ?_
        refine kp_if_ne (tgt := 99) C dX9_quiet_92 (by decide) hF (fun hF => ?_) (fun hF => ?_)
        · refine kp_iconst C dX9_quiet_99 ?_
          exact kp_reti C hr hlk G h dX9_quiet_100 hF
        · refine kp_iconst C dX9_quiet_95 ?_
          refine kp_goto (tgt := 100) C dX9_quiet_96 (by decide) ?_
          exact kp_reti C hr hlk G h dX9_quiet_100 hF
      · refine kp_iload_n C dX9_quiet_89 rfl (lv_at hl 2 rfl) ?_
        exact kp_reti C hr hlk G h dX9_quiet_90 hF
    · refine kp_iconst C dX9_quiet_9 ?_
      exact kp_reti C hr hlk G h dX9_quiet_10 hF
def kl_X9_moved_65 (a1 : Int) (a2 : Int) : Nat → Int → Int → Int → kp_W → (Int → kp_W → kp_R) → kp_R
  | 0, _, _, _, _, _ => none
  | n + 1, x4_1, x5_1, x6_1, σ_5, k => kp_ls x6_1 10 (kp_ck (0 ≤ a1 ∧ a1 < 10) (kp_lt (kp_up σ_5 13 (Int.toNat a1) x6_1) (fun σ_9 => kp_bd (kf_X6_read a1 σ_9) (fun r_4 σ_10 => kp_bd (kf_X6_knock a1 (σ_10 2 1) (σ_10 2 2) σ_10) (fun r_5 σ_11 => kp_bd (kf_X9_heardInDayOf a1 a2 σ_11) (fun r_6 σ_12 => kp_lt (r_6 : Int) (fun x7_0 => kp_jn (fun (x6_2 : Int) => kp_lt (x7_0 : Int) (fun x5_2 => kp_lt (x6_2 : Int) (fun x4_3 => kp_lt (x6_2 + 1) (fun x6_3 => kl_X9_moved_65 a1 a2 n x4_3 x5_2 x6_3 σ_12 k)))) (fun j161 => kp_eq x6_1 0 (j161 x6_1) (kp_ls x7_0 x5_1 (j161 x6_1) (kp_lt (x6_1 + 1) (fun x6_4 => kl_X9_moved_65 a1 a2 n x4_1 x5_1 x6_4 σ_12 k))))))))))) (k x4_1 σ_5)
def kf_X9_moved  (a1 : Int) (a2 : Int) (σ_0 : kp_W) : kp_R :=
  kp_bd (kf_X3_has a1 σ_0) (fun r_0 σ_1 => kp_eq r_0 0 (some ((-1), σ_1)) (kp_bd (kf_X9_isPlace a2 σ_1) (fun r_1 σ_2 => kp_eq r_1 0 (some ((-1), σ_2)) (kp_bd (kf_X3_isLoose a1 σ_2) (fun r_2 σ_3 => kp_eq r_2 0 (some (0, σ_3)) (kp_bd (kf_X9_settle σ_3) (fun r_3 σ_4 => kp_ck (0 ≤ a1 ∧ a1 < 10) (kp_lt ((σ_4 13 (Int.toNat a1)) : Int) (fun x3_0 => kp_lt (0 : Int) (fun x4_0 => kp_lt (0 : Int) (fun x5_0 => kp_lt (0 : Int) (fun x6_0 => kl_X9_moved_65 a1 a2 kp_fu x4_0 x5_0 x6_0 σ_4 (fun (x4_2 : Int) (σ_6 : kp_W) => kp_ck (0 ≤ a1 ∧ a1 < 10) (kp_lt (kp_up σ_6 13 (Int.toNat a1) x3_0) (fun σ_7 => kp_lt (kp_up σ_7 0 6 0) (fun σ_8 => some (x4_2, σ_8)))))))))))))))))
set_option maxRecDepth 100000 in
set_option maxHeartbeats 4000000 in
theorem kc_X9_moved {l : Launch} {X : kp_X} {a1 : Int} {a2 : Int}  {σ_0 σ' : kp_W} {r : Int}   (hF : (kf_X9_moved a1 a2 σ_0) = some (r, σ')) : kp_Met l yX9_moved cX9_moved 8 (some .int) 6 X kp_lK 55 σ_0 [.ref (kp_ad X 0), kp_iv a1, kp_iv a2] (kp_Qi X kp_lK 55 σ' r) := by
  refine kp_body pnX9 (Nat.le_of_ble_eq_true rfl) ?_
  intro p e s m args below meth c ls C hr hlk G h hl
  unfold kf_X9_moved at hF
  have hl : lv_has ls 8 [(0, .ref (kp_ad X 0)), (1, kp_iv a1), (2, kp_iv a2)] := hl
  refine kp_aload_n C dX9_moved_0 rfl (lv_at hl 0 rfl) ?_
  refine kp_getr C G h kp_lK0 rfl inWX9 (j := 0) (by decide) q2_12 rfl dX9_moved_1 ?_
  refine kp_getr C G h kp_lK1 rfl inWX1 (j := 3) (by decide) q1_162 rfl dX9_moved_4 ?_
  refine kp_iload_n C dX9_moved_7 rfl (lv_at hl 1 rfl) ?_
  obtain ⟨r_0, σ_1, hc, hF⟩ := kp_bd_s hF
  refine kp_ci h (kp_rV (k := 11) (As := [kp_iv a1]) (rest := []) C G h (kc_X3_has  hc) q3_44 q3_45 q3_46 q1_6 q3_47 ⟨rfl, hd_X3_has⟩ (by decide) kp_lK11 rfl rfl hl.1 rfl (Nat.le_of_ble_eq_true rfl) dX9_moved_8) (fun H locs h => ?_)
  refine kp_if_eq (tgt := 21) C dX9_moved_11 (by decide) hF (fun hF => ?_) (fun hF => ?_)
  · refine kp_iconst C dX9_moved_21 ?_
    exact kp_reti C hr hlk G h dX9_moved_22 hF
  · refine kp_iload_n C dX9_moved_14 rfl (lv_at hl 2 rfl) ?_
    obtain ⟨r_1, σ_2, hc, hF⟩ := kp_bd_s hF
    refine kp_ci h (kp_rS (As := [kp_iv a2]) (rest := []) C G h (kc_X9_isPlace  hc) q3_33 q3_34 q1_1 q3_35 hd_X9_isPlace (by decide) rfl hl.1 rfl (Nat.le_of_ble_eq_true rfl) dX9_moved_15) (fun H locs h => ?_)
    refine kp_if_ne (tgt := 23) C dX9_moved_18 (by decide) hF (fun hF => ?_) (fun hF => ?_)
    · refine kp_aload_n C dX9_moved_23 rfl (lv_at hl 0 rfl) ?_
      refine kp_getr C G h kp_lK0 rfl inWX9 (j := 0) (by decide) q2_12 rfl dX9_moved_24 ?_
      refine kp_getr C G h kp_lK1 rfl inWX1 (j := 3) (by decide) q1_162 rfl dX9_moved_27 ?_
      refine kp_iload_n C dX9_moved_30 rfl (lv_at hl 1 rfl) ?_
      obtain ⟨r_2, σ_3, hc, hF⟩ := kp_bd_s hF
      refine kp_ci h (kp_rV (k := 11) (As := [kp_iv a1]) (rest := []) C G h (kc_X3_isLoose  hc) q3_58 q3_59 q3_60 q1_6 q3_61 ⟨rfl, hd_X3_isLoose⟩ (by decide) kp_lK11 rfl rfl hl.1 rfl (Nat.le_of_ble_eq_true rfl) dX9_moved_31) (fun H locs h => ?_)
      refine kp_if_ne (tgt := 39) C dX9_moved_34 (by decide) hF (fun hF => ?_) (fun hF => ?_)
      · refine kp_aload_n C dX9_moved_39 rfl (lv_at hl 0 rfl) ?_
        obtain ⟨r_3, σ_4, hc, hF⟩ := kp_bd_s hF
        refine kp_cv h (kp_rV (k := 0) (As := []) (rest := []) C G h (kc_X9_settle  hc) q2_184 q2_186 q0_1_9 q1_1 q2_187 ⟨rfl, hd_X9_settle⟩ (by decide) kp_lK0 rfl rfl hl.1 rfl (Nat.le_of_ble_eq_true rfl) dX9_moved_40) (fun H locs h => ?_)
        refine kp_aload_n C dX9_moved_43 rfl (lv_at hl 0 rfl) ?_
        refine kp_getr C G h kp_lK0 rfl inWX9 (j := 0) (by decide) q2_12 rfl dX9_moved_44 ?_
        refine kp_getr C G h kp_lK1 rfl inWX1 (j := 3) (by decide) q1_162 rfl dX9_moved_47 ?_
        refine kp_getr C G h kp_lK11 rfl inWX3 (j := 1) (by decide) q1_107 rfl dX9_moved_50 ?_
        refine kp_iload_n C dX9_moved_53 rfl (lv_at hl 1 rfl) ?_
        refine kp_iald C G h (n := 10) kp_lK13 (by decide) dX9_moved_54 hF (fun hF => ?_)
        refine kp_istore_n (lv' := fun x3_0 => [(3, kp_iv x3_0), (0, .ref (kp_ad X 0)), (1, kp_iv a1), (2, kp_iv a2)]) C dX9_moved_55 rfl hl (by decide) (fun _ => rfl) hF (fun x3_0 ls hl hF => ?_)
        refine kp_iconst C dX9_moved_56 ?_
        refine kp_istore (lv' := fun x4_0 => [(4, kp_iv x4_0), (3, kp_iv x3_0), (0, .ref (kp_ad X 0)), (1, kp_iv a1), (2, kp_iv a2)]) C dX9_moved_57 hl (by decide) (fun _ => rfl) hF (fun x4_0 ls hl hF => ?_)
        refine kp_iconst C dX9_moved_59 ?_
        refine kp_istore (lv' := fun x5_0 => [(5, kp_iv x5_0), (4, kp_iv x4_0), (3, kp_iv x3_0), (0, .ref (kp_ad X 0)), (1, kp_iv a1), (2, kp_iv a2)]) C dX9_moved_60 hl (by decide) (fun _ => rfl) hF (fun x5_0 ls hl hF => ?_)
        refine kp_iconst C dX9_moved_62 ?_
        refine kp_istore (lv' := fun x6_0 => [(6, kp_iv x6_0), (5, kp_iv x5_0), (4, kp_iv x4_0), (3, kp_iv x3_0), (0, .ref (kp_ad X 0)), (1, kp_iv a1), (2, kp_iv a2)]) C dX9_moved_63 hl (by decide) (fun _ => rfl) hF (fun x6_0 ls hl hF => ?_)
        have L65 : ∀ (n : Nat) (x4_1 : Int) (x5_1 : Int) (x6_1 : Int) (σ_5 : kp_W) (k : Int → kp_W → kp_R) (H : Heap) (locs : List Loc) (ls : Array Slot), kp_H X kp_lK 55 s σ_5 H locs → lv_has ls 8 [(0, .ref (kp_ad X 0)), (1, kp_iv a1), (2, kp_iv a2), (3, kp_iv x3_0), (4, kp_iv x4_1), (5, kp_iv x5_1), (6, kp_iv x6_1)] → (∀ (x4_2 : Int) (σ_6 : kp_W) (H : Heap) (locs : List Loc) (ls : Array Slot), kp_H X kp_lK 55 s σ_6 H locs → lv_has ls 8 [(0, .ref (kp_ad X 0)), (1, kp_iv a1), (3, kp_iv x3_0), (4, kp_iv x4_2)] → k x4_2 σ_6 = some (r, σ') → W p l e (kp_rm 6) s m args below meth c H locs 0 0 (MQ below (kp_Qi X kp_lK 55 σ' r) args s 0 0 (kp_A X 55)) (F0 m 175 ls [])) → kl_X9_moved_65 a1 a2 n x4_1 x5_1 x6_1 σ_5 k = some (r, σ') → W p l e (kp_rm 6) s m args below meth c H locs 0 0 (MQ below (kp_Qi X kp_lK 55 σ' r) args s 0 0 (kp_A X 55)) (F0 m 65 ls []) := by
          intro n
          induction n with
          | zero =>
            intro x4_1 x5_1 x6_1 σ_5 k H locs ls h hl K hF
            rw [kl_X9_moved_65] at hF
            cases hF
          | succ n ih =>
            intro x4_1 x5_1 x6_1 σ_5 k H locs ls h hl K hF
            rw [kl_X9_moved_65] at hF
            refine kp_iload C dX9_moved_65 (lv_at hl 6 rfl) ?_
            refine kp_bipush C dX9_moved_67 rfl ?_
            refine kp_icmp_ge (tgt := 175) C dX9_moved_69 (by decide) hF (fun hF => ?_) (fun hF => ?_)
            · exact K _ _ _ _ _ h (lv_sub hl [0, 1, 3, 4] rfl) hF
            · refine kp_aload_n C dX9_moved_72 rfl (lv_at hl 0 rfl) ?_
              refine kp_getr C G h kp_lK0 rfl inWX9 (j := 0) (by decide) q2_12 rfl dX9_moved_73 ?_
              refine kp_getr C G h kp_lK1 rfl inWX1 (j := 3) (by decide) q1_162 rfl dX9_moved_76 ?_
              refine kp_getr C G h kp_lK11 rfl inWX3 (j := 1) (by decide) q1_107 rfl dX9_moved_79 ?_
              refine kp_iload_n C dX9_moved_82 rfl (lv_at hl 1 rfl) ?_
              refine kp_iload C dX9_moved_83 (lv_at hl 6 rfl) ?_
              refine kp_iast C G h (n := 10) kp_lK13 (by decide) dX9_moved_85 hF (fun σ_9 H locs h hF => ?_)
              refine kp_aload_n C dX9_moved_86 rfl (lv_at hl 0 rfl) ?_
              refine kp_getr C G h kp_lK0 rfl inWX9 (j := 4) (by decide) q2_16 rfl dX9_moved_87 ?_
              refine kp_aload_n C dX9_moved_90 rfl (lv_at hl 0 rfl) ?_
              refine kp_getr C G h kp_lK0 rfl inWX9 (j := 0) (by decide) q2_12 rfl dX9_moved_91 ?_
              refine kp_getr C G h kp_lK1 rfl inWX1 (j := 2) (by decide) q1_160 rfl dX9_moved_94 ?_
              refine kp_aload_n C dX9_moved_97 rfl (lv_at hl 0 rfl) ?_
              refine kp_getr C G h kp_lK0 rfl inWX9 (j := 0) (by decide) q2_12 rfl dX9_moved_98 ?_
              refine kp_getr C G h kp_lK1 rfl inWX1 (j := 3) (by decide) q1_162 rfl dX9_moved_101 ?_
              refine kp_iload_n C dX9_moved_104 rfl (lv_at hl 1 rfl) ?_
              obtain ⟨r_4, σ_10, hc, hF⟩ := kp_bd_s hF
              refine kp_cv h (kp_rV (k := 48) (As := [.ref (kp_ad X 5), .ref (kp_ad X 11), kp_iv a1]) (rest := []) C G h (kc_X6_read  hc) q2_188 q2_189 q2_190 q1_9 q2_191 ⟨rfl, hd_X6_read⟩ (by decide) kp_lK48 rfl rfl hl.1 rfl (Nat.le_of_ble_eq_true rfl) dX9_moved_105) (fun H locs h => ?_)
              refine kp_aload_n C dX9_moved_108 rfl (lv_at hl 0 rfl) ?_
              refine kp_getr C G h kp_lK0 rfl inWX9 (j := 4) (by decide) q2_16 rfl dX9_moved_109 ?_
              refine kp_aload_n C dX9_moved_112 rfl (lv_at hl 0 rfl) ?_
              refine kp_getr C G h kp_lK0 rfl inWX9 (j := 0) (by decide) q2_12 rfl dX9_moved_113 ?_
              refine kp_getr C G h kp_lK1 rfl inWX1 (j := 3) (by decide) q1_162 rfl dX9_moved_116 ?_
              refine kp_iload_n C dX9_moved_119 rfl (lv_at hl 1 rfl) ?_
              refine kp_aload_n C dX9_moved_120 rfl (lv_at hl 0 rfl) ?_
              refine kp_getr C G h kp_lK0 rfl inWX9 (j := 0) (by decide) q2_12 rfl dX9_moved_121 ?_
              refine kp_getr C G h kp_lK1 rfl inWX1 (j := 0) (by decide) q1_156 rfl dX9_moved_124 ?_
              refine kp_iconst C dX9_moved_127 ?_
              refine kp_lald0 C G h (i := 1) (n := 3) kp_lK2 (by decide) (by decide) dX9_moved_128 ?_
              refine kp_aload_n C dX9_moved_129 rfl (lv_at hl 0 rfl) ?_
              refine kp_getr C G h kp_lK0 rfl inWX9 (j := 0) (by decide) q2_12 rfl dX9_moved_130 ?_
              refine kp_getr C G h kp_lK1 rfl inWX1 (j := 0) (by decide) q1_156 rfl dX9_moved_133 ?_
              refine kp_iconst C dX9_moved_136 ?_
              refine kp_lald0 C G h (i := 2) (n := 3) kp_lK2 (by decide) (by decide) dX9_moved_137 ?_
              obtain ⟨r_5, σ_11, hc, hF⟩ := kp_bd_s hF
              refine kp_cv h (kp_rV (k := 48) (As := [.ref (kp_ad X 11), kp_iv a1, kp_jv (σ_10 2 1), kp_jv (σ_10 2 2)]) (rest := []) C G h (kc_X6_knock  hc) q2_239 q3_0 q3_1 q1_9 q3_2 ⟨rfl, hd_X6_knock⟩ (by decide) kp_lK48 rfl rfl hl.1 rfl (Nat.le_of_ble_eq_true rfl) dX9_moved_138) (fun H locs h => ?_)
              refine kp_aload_n C dX9_moved_141 rfl (lv_at hl 0 rfl) ?_
              refine kp_iload_n C dX9_moved_142 rfl (lv_at hl 1 rfl) ?_
              refine kp_iload_n C dX9_moved_143 rfl (lv_at hl 2 rfl) ?_
              obtain ⟨r_6, σ_12, hc, hF⟩ := kp_bd_s hF
              refine kp_ci h (kp_rV (k := 0) (As := [kp_iv a1, kp_iv a2]) (rest := []) C G h (kc_X9_heardInDayOf  hc) q3_183 q3_185 q0_2_11 q1_1 q3_186 ⟨rfl, hd_X9_heardInDayOf⟩ (by decide) kp_lK0 rfl rfl hl.1 rfl (Nat.le_of_ble_eq_true rfl) dX9_moved_144) (fun H locs h => ?_)
              refine kp_istore (lv' := fun x7_0 => [(7, kp_iv x7_0), (0, .ref (kp_ad X 0)), (1, kp_iv a1), (2, kp_iv a2), (3, kp_iv x3_0), (4, kp_iv x4_1), (5, kp_iv x5_1), (6, kp_iv x6_1)]) C dX9_moved_147 hl (by decide) (fun _ => rfl) hF (fun x7_0 ls hl hF => ?_)
              refine kp_iload C dX9_moved_149 (lv_at hl 7 rfl) ?_
              obtain ⟨j161, ej161, hF⟩ := kp_jn_s hF
              have J161 : ∀ (x6_2 : Int), ∀ (H : Heap) (locs : List Loc) (ls : Array Slot), kp_H X kp_lK 55 s σ_12 H locs → lv_has ls 8 [(0, .ref (kp_ad X 0)), (1, kp_iv a1), (2, kp_iv a2), (3, kp_iv x3_0), (6, kp_iv x6_2), (7, kp_iv x7_0)] → j161 x6_2 = some (r, σ') → W p l e (kp_rm 6) s m args below meth c H locs 0 0 (MQ below (kp_Qi X kp_lK 55 σ' r) args s 0 0 (kp_A X 55)) (F0 m 161 ls []) := by
                intro x6_2 H locs ls h hl hF
                rw [ej161] at hF
                refine kp_iload C dX9_moved_161 (lv_at hl 5 rfl) ?_
                refine kp_istore (lv' := fun x5_2 => [(5, kp_iv x5_2), (0, .ref (kp_ad X 0)), (1, kp_iv a1), (2, kp_iv a2), (3, kp_iv x3_0), (6, kp_iv x6_2), (7, kp_iv x7_0)]) C dX9_moved_163 hl (by decide) (fun _ => rfl) hF (fun x5_2 ls hl hF => ?_)
                refine kp_iload C dX9_moved_165 (lv_at hl 5 rfl) ?_
                refine kp_istore (lv' := fun x4_3 => [(4, kp_iv x4_3), (5, kp_iv x5_2), (0, .ref (kp_ad X 0)), (1, kp_iv a1), (2, kp_iv a2), (3, kp_iv x3_0), (6, kp_iv x6_2), (7, kp_iv x7_0)]) C dX9_moved_167 hl (by decide) (fun _ => rfl) hF (fun x4_3 ls hl hF => ?_)
                refine kp_iinc (k := 6) (lv' := fun x6_3 => [(6, kp_iv x6_3), (4, kp_iv x4_3), (5, kp_iv x5_2), (0, .ref (kp_ad X 0)), (1, kp_iv a1), (2, kp_iv a2), (3, kp_iv x3_0), (7, kp_iv x7_0)]) C dX9_moved_169 hl rfl (by decide) (fun _ => rfl) hF (fun x6_3 ls hl hF => ?_)
                refine kp_goto (tgt := 65) C dX9_moved_172 (by decide) ?_
                exact ih _ _ _ _ k _ _ _ h (lv_sub hl [3, 4, 5, 6, 1, 2, 0] rfl) K hF
              clear ej161
              refine kp_if_eq (tgt := 161) C dX9_moved_151 (by decide) hF (fun hF => ?_) (fun hF => ?_)
              · exact J161 _ _ _ _ h (lv_sub hl [1, 2, 3, 4, 7, 0] rfl) hF
              · refine kp_iload C dX9_moved_154 (lv_at hl 0 rfl) ?_
                refine kp_iload C dX9_moved_156 (lv_at hl 6 rfl) ?_
                refine kp_icmp_ge (tgt := 169) C dX9_moved_158 (by decide) hF (fun hF => ?_) (fun hF => ?_)
                · refine kp_iinc (k := 7) (lv' := fun x6_4 => [(6, kp_iv x6_4), (7, kp_iv x7_0), (0, .ref (kp_ad X 0)), (1, kp_iv a1), (2, kp_iv a2), (3, kp_iv x3_0), (4, kp_iv x4_1), (5, kp_iv x5_1)]) C dX9_moved_169 hl rfl (by decide) (fun _ => rfl) hF (fun x6_4 ls hl hF => ?_)
                  refine kp_goto (tgt := 65) C dX9_moved_172 (by decide) ?_
                  exact ih _ _ _ _ k _ _ _ h (lv_sub hl [2, 3, 4, 5, 6, 7, 0] rfl) K hF
                · exact J161 _ _ _ _ h (lv_sub hl [1, 2, 3, 4, 7, 0] rfl) hF
        refine L65 kp_fu _ _ _ _ _ _ _ _ h (lv_sub hl [4, 5, 6, 3, 2, 1, 0] rfl) (fun x4_2 σ_6 H locs ls h hl hF => ?_) hF
        clear L65
        refine kp_aload_n C dX9_moved_175 rfl (lv_at hl 0 rfl) ?_
        refine kp_getr C G h kp_lK0 rfl inWX9 (j := 0) (by decide) q2_12 rfl dX9_moved_176 ?_
        refine kp_getr C G h kp_lK1 rfl inWX1 (j := 3) (by decide) q1_162 rfl dX9_moved_179 ?_
        refine kp_getr C G h kp_lK11 rfl inWX3 (j := 1) (by decide) q1_107 rfl dX9_moved_182 ?_
        refine kp_iload_n C dX9_moved_185 rfl (lv_at hl 1 rfl) ?_
        refine kp_iload_n C dX9_moved_186 rfl (lv_at hl 2 rfl) ?_
        refine kp_iast C G h (n := 10) kp_lK13 (by decide) dX9_moved_187 hF (fun σ_7 H locs h hF => ?_)
        refine kp_aload_n C dX9_moved_188 rfl (lv_at hl 0 rfl) ?_
        refine kp_iconst C dX9_moved_189 ?_
        have hF := kp_ck_i (c := (0 : Int) = 0 ∨ (0 : Int) = 1) (by decide) hF
        refine kp_putz C G h kp_lK0 rfl inWX9 tyX9 tyX9_ok nmX9 (j := 6) (by decide) q2_18 rfl rfl (by decide +kernel) dX9_moved_190 hF (fun σ_8 H locs h hF => ?_)
        refine kp_iload C dX9_moved_193 (lv_at hl 3 rfl) ?_
        exact kp_reti C hr hlk G h dX9_moved_195 hF
      · refine kp_iconst C dX9_moved_37 ?_
        exact kp_reti C hr hlk G h dX9_moved_38 hF
    · refine kp_iconst C dX9_moved_21 ?_
      exact kp_reti C hr hlk G h dX9_moved_22 hF
def kl_X9_rowsHeard_4  : Nat → Int → Int → kp_W → (Int → kp_W → kp_R) → kp_R
  | 0, _, _, _, _ => none
  | n + 1, x1_1, x2_1, σ_1, k => kp_ls x2_1 (σ_1 16 3) (kp_ck (0 ≤ x2_1 ∧ x2_1 < 12) (kp_ck (0 ≤ x2_1 ∧ x2_1 < 12) (kp_bd (kf_X9_heardAt (σ_1 17 (Int.toNat x2_1)) (σ_1 18 (Int.toNat x2_1)) σ_1) (fun r_0 σ_3 => kp_ck (0 ≤ x2_1 ∧ x2_1 < 12) (kp_eq r_0 (σ_3 19 (Int.toNat x2_1)) (kp_lt (x1_1 + 1) (fun x1_3 => kp_lt (x2_1 + 1) (fun x2_3 => kl_X9_rowsHeard_4 n x1_3 x2_3 σ_3 k))) (kp_lt (x2_1 + 1) (fun x2_2 => kl_X9_rowsHeard_4 n x1_1 x2_2 σ_3 k))))))) (k x1_1 σ_1)
def kf_X9_rowsHeard   (σ_0 : kp_W) : kp_R :=
  kp_lt (0 : Int) (fun x1_0 => kp_lt (0 : Int) (fun x2_0 => kl_X9_rowsHeard_4 kp_fu x1_0 x2_0 σ_0 (fun (x1_2 : Int) (σ_2 : kp_W) => some (x1_2, σ_2))))
set_option maxRecDepth 100000 in
set_option maxHeartbeats 4000000 in
theorem kc_X9_rowsHeard {l : Launch} {X : kp_X}  {σ_0 σ' : kp_W} {r : Int}   (hF : (kf_X9_rowsHeard σ_0) = some (r, σ')) : kp_Met l yX9_rowsHeard cX9_rowsHeard 3 (some .int) 5 X kp_lK 55 σ_0 [.ref (kp_ad X 0)] (kp_Qi X kp_lK 55 σ' r) := by
  refine kp_body pnX9 (Nat.le_of_ble_eq_true rfl) ?_
  intro p e s m args below meth c ls C hr hlk G h hl
  unfold kf_X9_rowsHeard at hF
  have hl : lv_has ls 3 [(0, .ref (kp_ad X 0))] := hl
  refine kp_iconst C dX9_rowsHeard_0 ?_
  refine kp_istore_n (lv' := fun x1_0 => [(1, kp_iv x1_0), (0, .ref (kp_ad X 0))]) C dX9_rowsHeard_1 rfl hl (by decide) (fun _ => rfl) hF (fun x1_0 ls hl hF => ?_)
  refine kp_iconst C dX9_rowsHeard_2 ?_
  refine kp_istore_n (lv' := fun x2_0 => [(2, kp_iv x2_0), (1, kp_iv x1_0), (0, .ref (kp_ad X 0))]) C dX9_rowsHeard_3 rfl hl (by decide) (fun _ => rfl) hF (fun x2_0 ls hl hF => ?_)
  have L4 : ∀ (n : Nat) (x1_1 : Int) (x2_1 : Int) (σ_1 : kp_W) (k : Int → kp_W → kp_R) (H : Heap) (locs : List Loc) (ls : Array Slot), kp_H X kp_lK 55 s σ_1 H locs → lv_has ls 3 [(0, .ref (kp_ad X 0)), (1, kp_iv x1_1), (2, kp_iv x2_1)] → (∀ (x1_2 : Int) (σ_2 : kp_W) (H : Heap) (locs : List Loc) (ls : Array Slot), kp_H X kp_lK 55 s σ_2 H locs → lv_has ls 3 [(1, kp_iv x1_2)] → k x1_2 σ_2 = some (r, σ') → W p l e (kp_rm 5) s m args below meth c H locs 0 0 (MQ below (kp_Qi X kp_lK 55 σ' r) args s 0 0 (kp_A X 55)) (F0 m 70 ls [])) → kl_X9_rowsHeard_4 n x1_1 x2_1 σ_1 k = some (r, σ') → W p l e (kp_rm 5) s m args below meth c H locs 0 0 (MQ below (kp_Qi X kp_lK 55 σ' r) args s 0 0 (kp_A X 55)) (F0 m 4 ls []) := by
    intro n
    induction n with
    | zero =>
      intro x1_1 x2_1 σ_1 k H locs ls h hl K hF
      rw [kl_X9_rowsHeard_4] at hF
      cases hF
    | succ n ih =>
      intro x1_1 x2_1 σ_1 k H locs ls h hl K hF
      rw [kl_X9_rowsHeard_4] at hF
      refine kp_iload_n C dX9_rowsHeard_4 rfl (lv_at hl 2 rfl) ?_
      refine kp_aload_n C dX9_rowsHeard_5 rfl (lv_at hl 0 rfl) ?_
      refine kp_getr C G h kp_lK0 rfl inWX9 (j := 0) (by decide) q2_12 rfl dX9_rowsHeard_6 ?_
      refine kp_getr C G h kp_lK1 rfl inWX1 (j := 4) (by decide) q1_164 rfl dX9_rowsHeard_9 ?_
      refine kp_geti C G h kp_lK16 rfl inWX4 (j := 3) (by decide) q1_145 rfl dX9_rowsHeard_12 ?_
      refine kp_icmp_ge (tgt := 70) C dX9_rowsHeard_15 (by decide) hF (fun hF => ?_) (fun hF => ?_)
      · exact K _ _ _ _ _ h (lv_sub hl [1] rfl) hF
      · refine kp_aload_n C dX9_rowsHeard_18 rfl (lv_at hl 0 rfl) ?_
        refine kp_aload_n C dX9_rowsHeard_19 rfl (lv_at hl 0 rfl) ?_
        refine kp_getr C G h kp_lK0 rfl inWX9 (j := 0) (by decide) q2_12 rfl dX9_rowsHeard_20 ?_
        refine kp_getr C G h kp_lK1 rfl inWX1 (j := 4) (by decide) q1_164 rfl dX9_rowsHeard_23 ?_
        refine kp_getr C G h kp_lK16 rfl inWX4 (j := 0) (by decide) q1_139 rfl dX9_rowsHeard_26 ?_
        refine kp_iload_n C dX9_rowsHeard_29 rfl (lv_at hl 2 rfl) ?_
        refine kp_iald C G h (n := 12) kp_lK17 (by decide) dX9_rowsHeard_30 hF (fun hF => ?_)
        refine kp_aload_n C dX9_rowsHeard_31 rfl (lv_at hl 0 rfl) ?_
        refine kp_getr C G h kp_lK0 rfl inWX9 (j := 0) (by decide) q2_12 rfl dX9_rowsHeard_32 ?_
        refine kp_getr C G h kp_lK1 rfl inWX1 (j := 4) (by decide) q1_164 rfl dX9_rowsHeard_35 ?_
        refine kp_getr C G h kp_lK16 rfl inWX4 (j := 1) (by decide) q1_141 rfl dX9_rowsHeard_38 ?_
        refine kp_iload_n C dX9_rowsHeard_41 rfl (lv_at hl 2 rfl) ?_
        refine kp_iald C G h (n := 12) kp_lK18 (by decide) dX9_rowsHeard_42 hF (fun hF => ?_)
        obtain ⟨r_0, σ_3, hc, hF⟩ := kp_bd_s hF
        refine kp_ci h (kp_rV (k := 0) (As := [kp_iv (σ_1 17 (Int.toNat x2_1)), kp_iv (σ_1 18 (Int.toNat x2_1))]) (rest := []) C G h (kc_X9_heardAt  hc) q3_90 q3_92 q0_2_0 q1_1 q3_93 ⟨rfl, hd_X9_heardAt⟩ (by decide) kp_lK0 rfl rfl hl.1 rfl (Nat.le_of_ble_eq_true rfl) dX9_rowsHeard_43) (fun H locs h => ?_)
        refine kp_aload_n C dX9_rowsHeard_46 rfl (lv_at hl 0 rfl) ?_
        refine kp_getr C G h kp_lK0 rfl inWX9 (j := 0) (by decide) q2_12 rfl dX9_rowsHeard_47 ?_
        refine kp_getr C G h kp_lK1 rfl inWX1 (j := 4) (by decide) q1_164 rfl dX9_rowsHeard_50 ?_
        refine kp_getr C G h kp_lK16 rfl inWX4 (j := 2) (by decide) q1_143 rfl dX9_rowsHeard_53 ?_
        refine kp_iload_n C dX9_rowsHeard_56 rfl (lv_at hl 2 rfl) ?_
        refine kp_iald C G h (n := 12) kp_lK19 (by decide) dX9_rowsHeard_57 hF (fun hF => ?_)
        refine kp_icmp_ne (tgt := 64) C dX9_rowsHeard_58 (by decide) hF (fun hF => ?_) (fun hF => ?_)
        · refine kp_iinc (k := 2) (lv' := fun x2_2 => [(2, kp_iv x2_2), (0, .ref (kp_ad X 0)), (1, kp_iv x1_1)]) C dX9_rowsHeard_64 hl rfl (by decide) (fun _ => rfl) hF (fun x2_2 ls hl hF => ?_)
          refine kp_goto (tgt := 4) C dX9_rowsHeard_67 (by decide) ?_
          exact ih _ _ _ k _ _ _ h (lv_sub hl [1, 2, 0] rfl) K hF
        · refine kp_iinc (k := 1) (lv' := fun x1_3 => [(1, kp_iv x1_3), (0, .ref (kp_ad X 0)), (2, kp_iv x2_1)]) C dX9_rowsHeard_61 hl rfl (by decide) (fun _ => rfl) hF (fun x1_3 ls hl hF => ?_)
          refine kp_iinc (k := 2) (lv' := fun x2_3 => [(2, kp_iv x2_3), (1, kp_iv x1_3), (0, .ref (kp_ad X 0))]) C dX9_rowsHeard_64 hl rfl (by decide) (fun _ => rfl) hF (fun x2_3 ls hl hF => ?_)
          refine kp_goto (tgt := 4) C dX9_rowsHeard_67 (by decide) ?_
          exact ih _ _ _ k _ _ _ h (lv_sub hl [2, 1, 0] rfl) K hF
  refine L4 kp_fu _ _ _ _ _ _ _ h (lv_sub hl [2, 1, 0] rfl) (fun x1_2 σ_2 H locs ls h hl hF => ?_) hF
  clear L4
  refine kp_iload_n C dX9_rowsHeard_70 rfl (lv_at hl 0 rfl) ?_
  exact kp_reti C hr hlk G h dX9_rowsHeard_71 hF
def kl_X9_older_12 (x1_0 : Int) : Nat → Int → kp_W → (Int → kp_W → kp_R) → kp_R
  | 0, _, _, _ => none
  | n + 1, x2_1, σ_3, k => kp_ls 0 x2_1 (kp_ck (0 ≤ x2_1 ∧ x2_1 < 64) (kp_bd (kf_X9_ring (kp_andL ((σ_3 2 0) * 2 ^ (Int.toNat x2_1)) 1099511627775) (σ_3 2 1) (σ_3 2 2) σ_3) (fun r_2 σ_6 => kp_bd (kf_X9_rowsHeard σ_6) (fun r_3 σ_7 => kp_ls r_3 x1_0 (kp_lt (x2_1 + (-1)) (fun x2_3 => kl_X9_older_12 x1_0 n x2_3 σ_7 k)) (k x2_1 σ_7))))) (k x2_1 σ_3)
def kf_X9_older   (σ_0 : kp_W) : kp_R :=
  kp_bd (kf_X9_settle σ_0) (fun r_0 σ_1 => kp_bd (kf_X9_rowsHeard σ_1) (fun r_1 σ_2 => kp_lt (r_1 : Int) (fun x1_0 => kp_lt (40 : Int) (fun x2_0 => kl_X9_older_12 x1_0 kp_fu x2_0 σ_2 (fun (x2_2 : Int) (σ_4 : kp_W) => kp_lt (kp_up σ_4 0 6 0) (fun σ_5 => some (x2_2, σ_5)))))))
set_option maxRecDepth 100000 in
set_option maxHeartbeats 4000000 in
theorem kc_X9_older {l : Launch} {X : kp_X}  {σ_0 σ' : kp_W} {r : Int}   (hF : (kf_X9_older σ_0) = some (r, σ')) : kp_Met l yX9_older cX9_older 3 (some .int) 6 X kp_lK 55 σ_0 [.ref (kp_ad X 0)] (kp_Qi X kp_lK 55 σ' r) := by
  refine kp_body pnX9 (Nat.le_of_ble_eq_true rfl) ?_
  intro p e s m args below meth c ls C hr hlk G h hl
  unfold kf_X9_older at hF
  have hl : lv_has ls 3 [(0, .ref (kp_ad X 0))] := hl
  refine kp_aload_n C dX9_older_0 rfl (lv_at hl 0 rfl) ?_
  obtain ⟨r_0, σ_1, hc, hF⟩ := kp_bd_s hF
  refine kp_cv h (kp_rV (k := 0) (As := []) (rest := []) C G h (kc_X9_settle  hc) q2_184 q2_186 q0_1_9 q1_1 q2_187 ⟨rfl, hd_X9_settle⟩ (by decide) kp_lK0 rfl rfl hl.1 rfl (Nat.le_of_ble_eq_true rfl) dX9_older_1) (fun H locs h => ?_)
  refine kp_aload_n C dX9_older_4 rfl (lv_at hl 0 rfl) ?_
  obtain ⟨r_1, σ_2, hc, hF⟩ := kp_bd_s hF
  refine kp_ci h (kp_rV (k := 0) (As := []) (rest := []) C G h (kc_X9_rowsHeard  hc) q3_213 q3_215 q0_2_12 q1_1 q3_216 ⟨rfl, hd_X9_rowsHeard⟩ (by decide) kp_lK0 rfl rfl hl.1 rfl (Nat.le_of_ble_eq_true rfl) dX9_older_5) (fun H locs h => ?_)
  refine kp_istore_n (lv' := fun x1_0 => [(1, kp_iv x1_0), (0, .ref (kp_ad X 0))]) C dX9_older_8 rfl hl (by decide) (fun _ => rfl) hF (fun x1_0 ls hl hF => ?_)
  refine kp_bipush C dX9_older_9 rfl ?_
  refine kp_istore_n (lv' := fun x2_0 => [(2, kp_iv x2_0), (1, kp_iv x1_0), (0, .ref (kp_ad X 0))]) C dX9_older_11 rfl hl (by decide) (fun _ => rfl) hF (fun x2_0 ls hl hF => ?_)
  have L12 : ∀ (n : Nat) (x2_1 : Int) (σ_3 : kp_W) (k : Int → kp_W → kp_R) (H : Heap) (locs : List Loc) (ls : Array Slot), kp_H X kp_lK 55 s σ_3 H locs → lv_has ls 3 [(0, .ref (kp_ad X 0)), (1, kp_iv x1_0), (2, kp_iv x2_1)] → (∀ (x2_2 : Int) (σ_4 : kp_W) (H : Heap) (locs : List Loc) (ls : Array Slot), kp_H X kp_lK 55 s σ_4 H locs → lv_has ls 3 [(0, .ref (kp_ad X 0)), (2, kp_iv x2_2)] → k x2_2 σ_4 = some (r, σ') → W p l e (kp_rm 6) s m args below meth c H locs 0 0 (MQ below (kp_Qi X kp_lK 55 σ' r) args s 0 0 (kp_A X 55)) (F0 m 70 ls [])) → kl_X9_older_12 x1_0 n x2_1 σ_3 k = some (r, σ') → W p l e (kp_rm 6) s m args below meth c H locs 0 0 (MQ below (kp_Qi X kp_lK 55 σ' r) args s 0 0 (kp_A X 55)) (F0 m 12 ls []) := by
    intro n
    induction n with
    | zero =>
      intro x2_1 σ_3 k H locs ls h hl K hF
      rw [kl_X9_older_12] at hF
      cases hF
    | succ n ih =>
      intro x2_1 σ_3 k H locs ls h hl K hF
      rw [kl_X9_older_12] at hF
      refine kp_iload_n C dX9_older_12 rfl (lv_at hl 2 rfl) ?_
      refine kp_if_le (tgt := 70) C dX9_older_13 (by decide) hF (fun hF => ?_) (fun hF => ?_)
      · exact K _ _ _ _ _ h (lv_sub hl [0, 2] rfl) hF
      · refine kp_aload_n C dX9_older_16 rfl (lv_at hl 0 rfl) ?_
        refine kp_aload_n C dX9_older_17 rfl (lv_at hl 0 rfl) ?_
        refine kp_getr C G h kp_lK0 rfl inWX9 (j := 0) (by decide) q2_12 rfl dX9_older_18 ?_
        refine kp_getr C G h kp_lK1 rfl inWX1 (j := 0) (by decide) q1_156 rfl dX9_older_21 ?_
        refine kp_iconst C dX9_older_24 ?_
        refine kp_lald0 C G h (i := 0) (n := 3) kp_lK2 (by decide) (by decide) dX9_older_25 ?_
        refine kp_iload_n C dX9_older_26 rfl (lv_at hl 2 rfl) ?_
        refine kp_xlshl C dX9_older_27 hF (fun hF => ?_)
        refine kp_ldc2 (n := 1099511627775) C q2_41 rfl dX9_older_28 ?_
        refine kp_xland C dX9_older_31 ?_
        refine kp_aload_n C dX9_older_32 rfl (lv_at hl 0 rfl) ?_
        refine kp_getr C G h kp_lK0 rfl inWX9 (j := 0) (by decide) q2_12 rfl dX9_older_33 ?_
        refine kp_getr C G h kp_lK1 rfl inWX1 (j := 0) (by decide) q1_156 rfl dX9_older_36 ?_
        refine kp_iconst C dX9_older_39 ?_
        refine kp_lald0 C G h (i := 1) (n := 3) kp_lK2 (by decide) (by decide) dX9_older_40 ?_
        refine kp_aload_n C dX9_older_41 rfl (lv_at hl 0 rfl) ?_
        refine kp_getr C G h kp_lK0 rfl inWX9 (j := 0) (by decide) q2_12 rfl dX9_older_42 ?_
        refine kp_getr C G h kp_lK1 rfl inWX1 (j := 0) (by decide) q1_156 rfl dX9_older_45 ?_
        refine kp_iconst C dX9_older_48 ?_
        refine kp_lald0 C G h (i := 2) (n := 3) kp_lK2 (by decide) (by decide) dX9_older_49 ?_
        obtain ⟨r_2, σ_6, hc, hF⟩ := kp_bd_s hF
        refine kp_cv h (kp_rV (k := 0) (As := [kp_jv (kp_andL ((σ_3 2 0) * 2 ^ (Int.toNat x2_1)) 1099511627775), kp_jv (σ_3 2 1), kp_jv (σ_3 2 2)]) (rest := []) C G h (kc_X9_ring  hc) q2_225 q2_227 q0_1_11 q1_1 q2_228 ⟨rfl, hd_X9_ring⟩ (by decide) kp_lK0 rfl rfl hl.1 rfl (Nat.le_of_ble_eq_true rfl) dX9_older_50) (fun H locs h => ?_)
        refine kp_aload_n C dX9_older_53 rfl (lv_at hl 0 rfl) ?_
        obtain ⟨r_3, σ_7, hc, hF⟩ := kp_bd_s hF
        refine kp_ci h (kp_rV (k := 0) (As := []) (rest := []) C G h (kc_X9_rowsHeard  hc) q3_213 q3_215 q0_2_12 q1_1 q3_216 ⟨rfl, hd_X9_rowsHeard⟩ (by decide) kp_lK0 rfl rfl hl.1 rfl (Nat.le_of_ble_eq_true rfl) dX9_older_54) (fun H locs h => ?_)
        refine kp_iload_n C dX9_older_57 rfl (lv_at hl 1 rfl) ?_
        refine kp_icmp_lt (tgt := 64) C dX9_older_58 (by decide) hF (fun hF => ?_) (fun hF => ?_)
        · refine kp_iinc (k := 2) (lv' := fun x2_3 => [(2, kp_iv x2_3), (0, .ref (kp_ad X 0)), (1, kp_iv x1_0)]) C dX9_older_64 hl rfl (by decide) (fun _ => rfl) hF (fun x2_3 ls hl hF => ?_)
          refine kp_goto (tgt := 12) C dX9_older_67 (by decide) ?_
          exact ih _ _ k _ _ _ h (lv_sub hl [1, 2, 0] rfl) K hF
        · refine kp_goto (tgt := 70) C dX9_older_61 (by decide) ?_
          exact K _ _ _ _ _ h (lv_sub hl [0, 2] rfl) hF
  refine L12 kp_fu _ _ _ _ _ _ h (lv_sub hl [2, 1, 0] rfl) (fun x2_2 σ_4 H locs ls h hl hF => ?_) hF
  clear L12
  refine kp_aload_n C dX9_older_70 rfl (lv_at hl 0 rfl) ?_
  refine kp_iconst C dX9_older_71 ?_
  have hF := kp_ck_i (c := (0 : Int) = 0 ∨ (0 : Int) = 1) (by decide) hF
  refine kp_putz C G h kp_lK0 rfl inWX9 tyX9 tyX9_ok nmX9 (j := 6) (by decide) q2_18 rfl rfl (by decide +kernel) dX9_older_72 hF (fun σ_5 H locs h hF => ?_)
  refine kp_iload_n C dX9_older_75 rfl (lv_at hl 1 rfl) ?_
  exact kp_reti C hr hlk G h dX9_older_76 hF
def kf_X9_harm  (a1 : Int) (σ_0 : kp_W) : kp_R :=
  kp_bd (kf_X3_has a1 σ_0) (fun r_0 σ_1 => kp_eq r_0 0 (some ((-1), σ_1)) (kp_bd (kf_X9_settle σ_1) (fun r_1 σ_2 => kp_bd (kf_X9_harmOf a1 σ_2) (fun r_2 σ_3 => some (r_2, σ_3)))))
set_option maxRecDepth 100000 in
set_option maxHeartbeats 4000000 in
theorem kc_X9_harm {l : Launch} {X : kp_X} {a1 : Int}  {σ_0 σ' : kp_W} {r : Int}   (hF : (kf_X9_harm a1 σ_0) = some (r, σ')) : kp_Met l yX9_harm cX9_harm 2 (some .int) 6 X kp_lK 55 σ_0 [.ref (kp_ad X 0), kp_iv a1] (kp_Qi X kp_lK 55 σ' r) := by
  refine kp_body pnX9 (Nat.le_of_ble_eq_true rfl) ?_
  intro p e s m args below meth c ls C hr hlk G h hl
  unfold kf_X9_harm at hF
  have hl : lv_has ls 2 [(0, .ref (kp_ad X 0)), (1, kp_iv a1)] := hl
  refine kp_aload_n C dX9_harm_0 rfl (lv_at hl 0 rfl) ?_
  refine kp_getr C G h kp_lK0 rfl inWX9 (j := 0) (by decide) q2_12 rfl dX9_harm_1 ?_
  refine kp_getr C G h kp_lK1 rfl inWX1 (j := 3) (by decide) q1_162 rfl dX9_harm_4 ?_
  refine kp_iload_n C dX9_harm_7 rfl (lv_at hl 1 rfl) ?_
  obtain ⟨r_0, σ_1, hc, hF⟩ := kp_bd_s hF
  refine kp_ci h (kp_rV (k := 11) (As := [kp_iv a1]) (rest := []) C G h (kc_X3_has  hc) q3_44 q3_45 q3_46 q1_6 q3_47 ⟨rfl, hd_X3_has⟩ (by decide) kp_lK11 rfl rfl hl.1 rfl (Nat.le_of_ble_eq_true rfl) dX9_harm_8) (fun H locs h => ?_)
  refine kp_if_ne (tgt := 16) C dX9_harm_11 (by decide) hF (fun hF => ?_) (fun hF => ?_)
  · refine kp_aload_n C dX9_harm_16 rfl (lv_at hl 0 rfl) ?_
    obtain ⟨r_1, σ_2, hc, hF⟩ := kp_bd_s hF
    refine kp_cv h (kp_rV (k := 0) (As := []) (rest := []) C G h (kc_X9_settle  hc) q2_184 q2_186 q0_1_9 q1_1 q2_187 ⟨rfl, hd_X9_settle⟩ (by decide) kp_lK0 rfl rfl hl.1 rfl (Nat.le_of_ble_eq_true rfl) dX9_harm_17) (fun H locs h => ?_)
    refine kp_aload_n C dX9_harm_20 rfl (lv_at hl 0 rfl) ?_
    refine kp_iload_n C dX9_harm_21 rfl (lv_at hl 1 rfl) ?_
    obtain ⟨r_2, σ_3, hc, hF⟩ := kp_bd_s hF
    refine kp_ci h (kp_rV (k := 0) (As := [kp_iv a1]) (rest := []) C G h (kc_X9_harmOf  hc) q3_163 q3_165 q0_2_9 q1_1 q3_166 ⟨rfl, hd_X9_harmOf⟩ (by decide) kp_lK0 rfl rfl hl.1 rfl (Nat.le_of_ble_eq_true rfl) dX9_harm_22) (fun H locs h => ?_)
    exact kp_reti C hr hlk G h dX9_harm_25 hF
  · refine kp_iconst C dX9_harm_14 ?_
    exact kp_reti C hr hlk G h dX9_harm_15 hF
def kf_X9_act  (a1 : Int) (a2 : Int) (a3 : Int) (σ_0 : kp_W) : kp_R :=
  kp_lt (kp_up σ_0 8 1 0) (fun σ_1 => kp_bd (kf_X3_has a1 σ_1) (fun r_0 σ_2 => kp_eq r_0 0 (some (0, σ_2)) (kp_ls a2 0 (some (0, σ_2)) (kp_ls a2 3 (kp_bd (kf_X0_start a1 a2 a3 σ_2) (fun r_1 σ_3 => some (r_1, σ_3))) (some (0, σ_2))))))
set_option maxRecDepth 100000 in
set_option maxHeartbeats 4000000 in
theorem kc_X9_act {l : Launch} {X : kp_X} {a1 : Int} {a2 : Int} {a3 : Int}  {σ_0 σ' : kp_W} {r : Int}   (hF : (kf_X9_act a1 a2 a3 σ_0) = some (r, σ')) : kp_Met l yX9_act cX9_act 4 (some .int) 126 X kp_lK 55 σ_0 [.ref (kp_ad X 0), kp_iv a1, kp_iv a2, kp_iv a3] (kp_Qi X kp_lK 55 σ' r) := by
  refine kp_body pnX9 (Nat.le_of_ble_eq_true rfl) ?_
  intro p e s m args below meth c ls C hr hlk G h hl
  unfold kf_X9_act at hF
  have hl : lv_has ls 4 [(0, .ref (kp_ad X 0)), (1, kp_iv a1), (2, kp_iv a2), (3, kp_iv a3)] := hl
  refine kp_aload_n C dX9_act_0 rfl (lv_at hl 0 rfl) ?_
  refine kp_getr C G h kp_lK0 rfl inWX9 (j := 5) (by decide) q2_17 rfl dX9_act_1 ?_
  refine kp_iconst C dX9_act_4 ?_
  refine kp_puti C G h kp_lK8 rfl inWX0 tyX0 tyX0_ok nmX0 (j := 1) (by decide) q1_237 rfl rfl (by decide +kernel) dX9_act_5 hF (fun σ_1 H locs h hF => ?_)
  refine kp_aload_n C dX9_act_8 rfl (lv_at hl 0 rfl) ?_
  refine kp_getr C G h kp_lK0 rfl inWX9 (j := 0) (by decide) q2_12 rfl dX9_act_9 ?_
  refine kp_getr C G h kp_lK1 rfl inWX1 (j := 3) (by decide) q1_162 rfl dX9_act_12 ?_
  refine kp_iload_n C dX9_act_15 rfl (lv_at hl 1 rfl) ?_
  obtain ⟨r_0, σ_2, hc, hF⟩ := kp_bd_s hF
  refine kp_ci h (kp_rV (k := 11) (As := [kp_iv a1]) (rest := []) C G h (kc_X3_has  hc) q3_44 q3_45 q3_46 q1_6 q3_47 ⟨rfl, hd_X3_has⟩ (by decide) kp_lK11 rfl rfl hl.1 rfl (Nat.le_of_ble_eq_true rfl) dX9_act_16) (fun H locs h => ?_)
  refine kp_if_eq (tgt := 31) C dX9_act_19 (by decide) hF (fun hF => ?_) (fun hF => ?_)
  · refine kp_iconst C dX9_act_31 ?_
    exact kp_reti C hr hlk G h dX9_act_32 hF
  · refine kp_iload_n C dX9_act_22 rfl (lv_at hl 2 rfl) ?_
    refine kp_if_lt (tgt := 31) C dX9_act_23 (by decide) hF (fun hF => ?_) (fun hF => ?_)
    · refine kp_iconst C dX9_act_31 ?_
      exact kp_reti C hr hlk G h dX9_act_32 hF
    · refine kp_iload_n C dX9_act_26 rfl (lv_at hl 2 rfl) ?_
      refine kp_iconst C dX9_act_27 ?_
      refine kp_icmp_lt (tgt := 33) C dX9_act_28 (by decide) hF (fun hF => ?_) (fun hF => ?_)
      · refine kp_aload_n C dX9_act_33 rfl (lv_at hl 0 rfl) ?_
        refine kp_getr C G h kp_lK0 rfl inWX9 (j := 5) (by decide) q2_17 rfl dX9_act_34 ?_
        refine kp_aload_n C dX9_act_37 rfl (lv_at hl 0 rfl) ?_
        refine kp_getr C G h kp_lK0 rfl inWX9 (j := 0) (by decide) q2_12 rfl dX9_act_38 ?_
        refine kp_getr C G h kp_lK1 rfl inWX1 (j := 3) (by decide) q1_162 rfl dX9_act_41 ?_
        refine kp_iload_n C dX9_act_44 rfl (lv_at hl 1 rfl) ?_
        refine kp_iload_n C dX9_act_45 rfl (lv_at hl 2 rfl) ?_
        refine kp_iload_n C dX9_act_46 rfl (lv_at hl 3 rfl) ?_
        obtain ⟨r_1, σ_3, hc, hF⟩ := kp_bd_s hF
        refine kp_ci h (kp_rV (k := 8) (As := [.ref (kp_ad X 11), kp_iv a1, kp_iv a2, kp_iv a3]) (rest := []) C G h (kc_X0_start  hc) q3_225 q3_226 q3_227 q1_10 q3_228 ⟨rfl, hd_X0_start⟩ (by decide) kp_lK8 rfl rfl hl.1 rfl (Nat.le_of_ble_eq_true rfl) dX9_act_47) (fun H locs h => ?_)
        exact kp_reti C hr hlk G h dX9_act_50 hF
      · refine kp_iconst C dX9_act_31 ?_
        exact kp_reti C hr hlk G h dX9_act_32 hF
def kf_X9_trace  (a1 : Int) (σ_0 : kp_W) : kp_R :=
  kp_ls a1 0 (some ((-1), σ_0)) (kp_ls a1 (σ_0 8 1) (kp_ls a1 20 (kp_ck (0 ≤ a1 ∧ a1 < 20) (some ((σ_0 27 (Int.toNat a1)), σ_0))) (some ((-1), σ_0))) (some ((-1), σ_0)))
set_option maxRecDepth 100000 in
set_option maxHeartbeats 4000000 in
theorem kc_X9_trace {l : Launch} {X : kp_X} {a1 : Int}  {σ_0 σ' : kp_W} {r : Int}   (hF : (kf_X9_trace a1 σ_0) = some (r, σ')) : kp_Met l yX9_trace cX9_trace 2 (some .int) 0 X kp_lK 55 σ_0 [.ref (kp_ad X 0), kp_iv a1] (kp_Qi X kp_lK 55 σ' r) := by
  refine kp_body pnX9 (Nat.le_of_ble_eq_true rfl) ?_
  intro p e s m args below meth c ls C hr hlk G h hl
  unfold kf_X9_trace at hF
  have hl : lv_has ls 2 [(0, .ref (kp_ad X 0)), (1, kp_iv a1)] := hl
  refine kp_iload_n C dX9_trace_0 rfl (lv_at hl 1 rfl) ?_
  refine kp_if_lt (tgt := 27) C dX9_trace_1 (by decide) hF (fun hF => ?_) (fun hF => ?_)
  · refine kp_iconst C dX9_trace_27 ?_
    exact kp_reti C hr hlk G h dX9_trace_28 hF
  · refine kp_iload_n C dX9_trace_4 rfl (lv_at hl 1 rfl) ?_
    refine kp_aload_n C dX9_trace_5 rfl (lv_at hl 0 rfl) ?_
    refine kp_getr C G h kp_lK0 rfl inWX9 (j := 5) (by decide) q2_17 rfl dX9_trace_6 ?_
    refine kp_geti C G h kp_lK8 rfl inWX0 (j := 1) (by decide) q1_237 rfl dX9_trace_9 ?_
    refine kp_icmp_ge (tgt := 27) C dX9_trace_12 (by decide) hF (fun hF => ?_) (fun hF => ?_)
    · refine kp_iconst C dX9_trace_27 ?_
      exact kp_reti C hr hlk G h dX9_trace_28 hF
    · refine kp_iload_n C dX9_trace_15 rfl (lv_at hl 1 rfl) ?_
      refine kp_aload_n C dX9_trace_16 rfl (lv_at hl 0 rfl) ?_
      refine kp_getr C G h kp_lK0 rfl inWX9 (j := 5) (by decide) q2_17 rfl dX9_trace_17 ?_
      refine kp_getr C G h kp_lK8 rfl inWX0 (j := 0) (by decide) q1_235 rfl dX9_trace_20 ?_
      refine kp_alen C G h (n := 20) kp_lK27 (by decide) dX9_trace_23 ?_
      refine kp_icmp_lt (tgt := 29) C dX9_trace_24 (by decide) hF (fun hF => ?_) (fun hF => ?_)
      · refine kp_aload_n C dX9_trace_29 rfl (lv_at hl 0 rfl) ?_
        refine kp_getr C G h kp_lK0 rfl inWX9 (j := 5) (by decide) q2_17 rfl dX9_trace_30 ?_
        refine kp_getr C G h kp_lK8 rfl inWX0 (j := 0) (by decide) q1_235 rfl dX9_trace_33 ?_
        refine kp_iload_n C dX9_trace_36 rfl (lv_at hl 1 rfl) ?_
        refine kp_iald C G h (n := 20) kp_lK27 (by decide) dX9_trace_37 hF (fun hF => ?_)
        exact kp_reti C hr hlk G h dX9_trace_38 hF
      · refine kp_iconst C dX9_trace_27 ?_
        exact kp_reti C hr hlk G h dX9_trace_28 hF
def kf_X9_as  (a1 : Int) (a2 : Int) (σ_0 : kp_W) : kp_R :=
  kp_bd (kf_X3_has a1 σ_0) (fun r_0 σ_1 => kp_eq r_0 0 (some ((-1), σ_1)) (kp_bd (kf_X9_isKind a2 σ_1) (fun r_1 σ_2 => kp_eq r_1 0 (some ((-1), σ_2)) (kp_ck (0 ≤ a1 ∧ a1 < 10) (kp_bd (kf_X9_isUnder (σ_2 12 (Int.toNat a1)) a2 σ_2) (fun r_2 σ_3 => kp_eq r_2 0 (some ((-6), σ_3)) (kp_ck (0 ≤ a1 ∧ a1 < 10) (some ((σ_3 14 (Int.toNat a1)), σ_3)))))))))
set_option maxRecDepth 100000 in
set_option maxHeartbeats 4000000 in
theorem kc_X9_as {l : Launch} {X : kp_X} {a1 : Int} {a2 : Int}  {σ_0 σ' : kp_W} {r : Int}   (hF : (kf_X9_as a1 a2 σ_0) = some (r, σ')) : kp_Met l yX9_as cX9_as 3 (some .int) 2 X kp_lK 55 σ_0 [.ref (kp_ad X 0), kp_iv a1, kp_iv a2] (kp_Qi X kp_lK 55 σ' r) := by
  refine kp_body pnX9 (Nat.le_of_ble_eq_true rfl) ?_
  intro p e s m args below meth c ls C hr hlk G h hl
  unfold kf_X9_as at hF
  have hl : lv_has ls 3 [(0, .ref (kp_ad X 0)), (1, kp_iv a1), (2, kp_iv a2)] := hl
  refine kp_aload_n C dX9_as_0 rfl (lv_at hl 0 rfl) ?_
  refine kp_getr C G h kp_lK0 rfl inWX9 (j := 0) (by decide) q2_12 rfl dX9_as_1 ?_
  refine kp_getr C G h kp_lK1 rfl inWX1 (j := 3) (by decide) q1_162 rfl dX9_as_4 ?_
  refine kp_iload_n C dX9_as_7 rfl (lv_at hl 1 rfl) ?_
  obtain ⟨r_0, σ_1, hc, hF⟩ := kp_bd_s hF
  refine kp_ci h (kp_rV (k := 11) (As := [kp_iv a1]) (rest := []) C G h (kc_X3_has  hc) q3_44 q3_45 q3_46 q1_6 q3_47 ⟨rfl, hd_X3_has⟩ (by decide) kp_lK11 rfl rfl hl.1 rfl (Nat.le_of_ble_eq_true rfl) dX9_as_8) (fun H locs h => ?_)
  refine kp_if_eq (tgt := 21) C dX9_as_11 (by decide) hF (fun hF => ?_) (fun hF => ?_)
  · refine kp_iconst C dX9_as_21 ?_
    exact kp_reti C hr hlk G h dX9_as_22 hF
  · refine kp_iload_n C dX9_as_14 rfl (lv_at hl 2 rfl) ?_
    obtain ⟨r_1, σ_2, hc, hF⟩ := kp_bd_s hF
    refine kp_ci h (kp_rS (As := [kp_iv a2]) (rest := []) C G h (kc_X9_isKind  hc) q3_30 q3_31 q1_1 q3_32 hd_X9_isKind (by decide) rfl hl.1 rfl (Nat.le_of_ble_eq_true rfl) dX9_as_15) (fun H locs h => ?_)
    refine kp_if_ne (tgt := 23) C dX9_as_18 (by decide) hF (fun hF => ?_) (fun hF => ?_)
    · refine kp_aload_n C dX9_as_23 rfl (lv_at hl 0 rfl) ?_
      refine kp_getr C G h kp_lK0 rfl inWX9 (j := 0) (by decide) q2_12 rfl dX9_as_24 ?_
      refine kp_getr C G h kp_lK1 rfl inWX1 (j := 3) (by decide) q1_162 rfl dX9_as_27 ?_
      refine kp_getr C G h kp_lK11 rfl inWX3 (j := 0) (by decide) q1_104 rfl dX9_as_30 ?_
      refine kp_iload_n C dX9_as_33 rfl (lv_at hl 1 rfl) ?_
      refine kp_iald C G h (n := 10) kp_lK12 (by decide) dX9_as_34 hF (fun hF => ?_)
      refine kp_iload_n C dX9_as_35 rfl (lv_at hl 2 rfl) ?_
      obtain ⟨r_2, σ_3, hc, hF⟩ := kp_bd_s hF
      refine kp_ci h (kp_rS (As := [kp_iv (σ_2 12 (Int.toNat a1)), kp_iv a2]) (rest := []) C G h (kc_X9_isUnder  hc) q3_76 q3_77 q1_1 q3_78 hd_X9_isUnder (by decide) rfl hl.1 rfl (Nat.le_of_ble_eq_true rfl) dX9_as_36) (fun H locs h => ?_)
      refine kp_if_eq (tgt := 57) C dX9_as_39 (by decide) hF (fun hF => ?_) (fun hF => ?_)
      · refine kp_bipush C dX9_as_57 rfl ?_
        exact kp_reti C hr hlk G h dX9_as_59 hF
      · refine kp_aload_n C dX9_as_42 rfl (lv_at hl 0 rfl) ?_
        refine kp_getr C G h kp_lK0 rfl inWX9 (j := 0) (by decide) q2_12 rfl dX9_as_43 ?_
        refine kp_getr C G h kp_lK1 rfl inWX1 (j := 3) (by decide) q1_162 rfl dX9_as_46 ?_
        refine kp_getr C G h kp_lK11 rfl inWX3 (j := 2) (by decide) q1_111 rfl dX9_as_49 ?_
        refine kp_iload_n C dX9_as_52 rfl (lv_at hl 1 rfl) ?_
        refine kp_iald C G h (n := 10) kp_lK14 (by decide) dX9_as_53 hF (fun hF => ?_)
        refine kp_goto (tgt := 59) C dX9_as_54 (by decide) ?_
        exact kp_reti C hr hlk G h dX9_as_59 hF
    · refine kp_iconst C dX9_as_21 ?_
      exact kp_reti C hr hlk G h dX9_as_22 hF
def kf_X9_image   (σ_0 : kp_W) : kp_R :=
  kp_bd (kf_X1_copy_20_1 σ_0) (fun r_0 σ_1 => kp_lt (kp_up σ_1 0 2 1) (fun σ_2 => some ((σ_2 11 5), σ_2)))
set_option maxRecDepth 100000 in
set_option maxHeartbeats 4000000 in
theorem kc_X9_image {l : Launch} {X : kp_X}  {σ_0 σ' : kp_W} {r : Int}   (hF : (kf_X9_image σ_0) = some (r, σ')) : kp_Met l yX9_image cX9_image 1 (some .int) 3 X kp_lK 55 σ_0 [.ref (kp_ad X 0)] (kp_Qi X kp_lK 55 σ' r) := by
  refine kp_body pnX9 (Nat.le_of_ble_eq_true rfl) ?_
  intro p e s m args below meth c ls C hr hlk G h hl
  unfold kf_X9_image at hF
  have hl : lv_has ls 1 [(0, .ref (kp_ad X 0))] := hl
  refine kp_aload_n C dX9_image_0 rfl (lv_at hl 0 rfl) ?_
  refine kp_getr C G h kp_lK0 rfl inWX9 (j := 1) (by decide) q2_13 rfl dX9_image_1 ?_
  refine kp_aload_n C dX9_image_4 rfl (lv_at hl 0 rfl) ?_
  refine kp_getr C G h kp_lK0 rfl inWX9 (j := 0) (by decide) q2_12 rfl dX9_image_5 ?_
  obtain ⟨r_0, σ_1, hc, hF⟩ := kp_bd_s hF
  refine kp_cv h (kp_rV (k := 20) (As := [.ref (kp_ad X 1)]) (rest := []) C G h (kc_X1_copy_20_1  hc) q4_14 q4_15 q4_16 q1_2 q4_17 ⟨rfl, hd_X1_copy⟩ (by decide) kp_lK20 rfl rfl hl.1 rfl (Nat.le_of_ble_eq_true rfl) dX9_image_8) (fun H locs h => ?_)
  refine kp_aload_n C dX9_image_11 rfl (lv_at hl 0 rfl) ?_
  refine kp_iconst C dX9_image_12 ?_
  have hF := kp_ck_i (c := (1 : Int) = 0 ∨ (1 : Int) = 1) (by decide) hF
  refine kp_putz C G h kp_lK0 rfl inWX9 tyX9 tyX9_ok nmX9 (j := 2) (by decide) q2_14 rfl rfl (by decide +kernel) dX9_image_13 hF (fun σ_2 H locs h hF => ?_)
  refine kp_aload_n C dX9_image_16 rfl (lv_at hl 0 rfl) ?_
  refine kp_getr C G h kp_lK0 rfl inWX9 (j := 0) (by decide) q2_12 rfl dX9_image_17 ?_
  refine kp_getr C G h kp_lK1 rfl inWX1 (j := 3) (by decide) q1_162 rfl dX9_image_20 ?_
  refine kp_geti C G h kp_lK11 rfl inWX3 (j := 5) (by decide) q1_118 rfl dX9_image_23 ?_
  exact kp_reti C hr hlk G h dX9_image_26 hF
def kf_X9_undo   (σ_0 : kp_W) : kp_R :=
  kp_eq (σ_0 0 2) 0 (some ((-3), σ_0)) (kp_bd (kf_X1_copy_1_20 σ_0) (fun r_0 σ_1 => kp_lt (kp_up σ_1 0 6 0) (fun σ_2 => some ((σ_2 11 5), σ_2))))
set_option maxRecDepth 100000 in
set_option maxHeartbeats 4000000 in
theorem kc_X9_undo {l : Launch} {X : kp_X}  {σ_0 σ' : kp_W} {r : Int}   (hF : (kf_X9_undo σ_0) = some (r, σ')) : kp_Met l yX9_undo cX9_undo 1 (some .int) 3 X kp_lK 55 σ_0 [.ref (kp_ad X 0)] (kp_Qi X kp_lK 55 σ' r) := by
  refine kp_body pnX9 (Nat.le_of_ble_eq_true rfl) ?_
  intro p e s m args below meth c ls C hr hlk G h hl
  unfold kf_X9_undo at hF
  have hl : lv_has ls 1 [(0, .ref (kp_ad X 0))] := hl
  refine kp_aload_n C dX9_undo_0 rfl (lv_at hl 0 rfl) ?_
  refine kp_geti C G h kp_lK0 rfl inWX9 (j := 2) (by decide) q2_14 rfl dX9_undo_1 ?_
  refine kp_if_ne (tgt := 10) C dX9_undo_4 (by decide) hF (fun hF => ?_) (fun hF => ?_)
  · refine kp_aload_n C dX9_undo_10 rfl (lv_at hl 0 rfl) ?_
    refine kp_getr C G h kp_lK0 rfl inWX9 (j := 0) (by decide) q2_12 rfl dX9_undo_11 ?_
    refine kp_aload_n C dX9_undo_14 rfl (lv_at hl 0 rfl) ?_
    refine kp_getr C G h kp_lK0 rfl inWX9 (j := 1) (by decide) q2_13 rfl dX9_undo_15 ?_
    obtain ⟨r_0, σ_1, hc, hF⟩ := kp_bd_s hF
    refine kp_cv h (kp_rV (k := 1) (As := [.ref (kp_ad X 20)]) (rest := []) C G h (kc_X1_copy_1_20  hc) q4_14 q4_15 q4_16 q1_2 q4_17 ⟨rfl, hd_X1_copy⟩ (by decide) kp_lK1 rfl rfl hl.1 rfl (Nat.le_of_ble_eq_true rfl) dX9_undo_18) (fun H locs h => ?_)
    refine kp_aload_n C dX9_undo_21 rfl (lv_at hl 0 rfl) ?_
    refine kp_iconst C dX9_undo_22 ?_
    have hF := kp_ck_i (c := (0 : Int) = 0 ∨ (0 : Int) = 1) (by decide) hF
    refine kp_putz C G h kp_lK0 rfl inWX9 tyX9 tyX9_ok nmX9 (j := 6) (by decide) q2_18 rfl rfl (by decide +kernel) dX9_undo_23 hF (fun σ_2 H locs h hF => ?_)
    refine kp_aload_n C dX9_undo_26 rfl (lv_at hl 0 rfl) ?_
    refine kp_getr C G h kp_lK0 rfl inWX9 (j := 0) (by decide) q2_12 rfl dX9_undo_27 ?_
    refine kp_getr C G h kp_lK1 rfl inWX1 (j := 3) (by decide) q1_162 rfl dX9_undo_30 ?_
    refine kp_geti C G h kp_lK11 rfl inWX3 (j := 5) (by decide) q1_118 rfl dX9_undo_33 ?_
    exact kp_reti C hr hlk G h dX9_undo_36 hF
  · refine kp_bipush C dX9_undo_7 rfl ?_
    exact kp_reti C hr hlk G h dX9_undo_9 hF
def kf_X9_count  (a1 : Int) (σ_0 : kp_W) : kp_R :=
  kp_eq a1 0 (some ((σ_0 11 5), σ_0)) (kp_eq a1 1 (some ((σ_0 1 5), σ_0)) (kp_eq a1 2 (some ((σ_0 16 3), σ_0)) (kp_eq a1 3 (some ((σ_0 3 1), σ_0)) (kp_eq a1 4 (some ((σ_0 8 1), σ_0)) (some ((-1), σ_0))))))
set_option maxRecDepth 100000 in
set_option maxHeartbeats 4000000 in
theorem kc_X9_count {l : Launch} {X : kp_X} {a1 : Int}  {σ_0 σ' : kp_W} {r : Int}   (hF : (kf_X9_count a1 σ_0) = some (r, σ')) : kp_Met l yX9_count cX9_count 2 (some .int) 0 X kp_lK 55 σ_0 [.ref (kp_ad X 0), kp_iv a1] (kp_Qi X kp_lK 55 σ' r) := by
  refine kp_body pnX9 (Nat.le_of_ble_eq_true rfl) ?_
  intro p e s m args below meth c ls C hr hlk G h hl
  unfold kf_X9_count at hF
  have hl : lv_has ls 2 [(0, .ref (kp_ad X 0)), (1, kp_iv a1)] := hl
  refine kp_iload_n C dX9_count_0 rfl (lv_at hl 1 rfl) ?_
  obtain ⟨hx, -, ha, hb⟩ := kp_eq_s hF
  by_cases q0 : a1 = 0
  · have hF := ha q0
    clear ha hb
    refine kp_tabIn (v := 0) (tgt := 36) C dX9_count_1 q0 (by decide) rfl (by decide) ?_
    refine kp_aload_n C dX9_count_36 rfl (lv_at hl 0 rfl) ?_
    refine kp_getr C G h kp_lK0 rfl inWX9 (j := 0) (by decide) q2_12 rfl dX9_count_37 ?_
    refine kp_getr C G h kp_lK1 rfl inWX1 (j := 3) (by decide) q1_162 rfl dX9_count_40 ?_
    refine kp_geti C G h kp_lK11 rfl inWX3 (j := 5) (by decide) q1_118 rfl dX9_count_43 ?_
    exact kp_reti C hr hlk G h dX9_count_46 hF
  · have hF := hb q0
    clear ha hb
    obtain ⟨hx, -, ha, hb⟩ := kp_eq_s hF
    by_cases q1 : a1 = 1
    · have hF := ha q1
      clear ha hb
      refine kp_tabIn (v := 1) (tgt := 47) C dX9_count_1 q1 (by decide) rfl (by decide) ?_
      refine kp_aload_n C dX9_count_47 rfl (lv_at hl 0 rfl) ?_
      refine kp_getr C G h kp_lK0 rfl inWX9 (j := 0) (by decide) q2_12 rfl dX9_count_48 ?_
      refine kp_geti C G h kp_lK1 rfl inWX1 (j := 5) (by decide) q1_166 rfl dX9_count_51 ?_
      exact kp_reti C hr hlk G h dX9_count_54 hF
    · have hF := hb q1
      clear ha hb
      obtain ⟨hx, -, ha, hb⟩ := kp_eq_s hF
      by_cases q2 : a1 = 2
      · have hF := ha q2
        clear ha hb
        refine kp_tabIn (v := 2) (tgt := 55) C dX9_count_1 q2 (by decide) rfl (by decide) ?_
        refine kp_aload_n C dX9_count_55 rfl (lv_at hl 0 rfl) ?_
        refine kp_getr C G h kp_lK0 rfl inWX9 (j := 0) (by decide) q2_12 rfl dX9_count_56 ?_
        refine kp_getr C G h kp_lK1 rfl inWX1 (j := 4) (by decide) q1_164 rfl dX9_count_59 ?_
        refine kp_geti C G h kp_lK16 rfl inWX4 (j := 3) (by decide) q1_145 rfl dX9_count_62 ?_
        exact kp_reti C hr hlk G h dX9_count_65 hF
      · have hF := hb q2
        clear ha hb
        obtain ⟨hx, -, ha, hb⟩ := kp_eq_s hF
        by_cases q3 : a1 = 3
        · have hF := ha q3
          clear ha hb
          refine kp_tabIn (v := 3) (tgt := 66) C dX9_count_1 q3 (by decide) rfl (by decide) ?_
          refine kp_aload_n C dX9_count_66 rfl (lv_at hl 0 rfl) ?_
          refine kp_getr C G h kp_lK0 rfl inWX9 (j := 0) (by decide) q2_12 rfl dX9_count_67 ?_
          refine kp_getr C G h kp_lK1 rfl inWX1 (j := 1) (by decide) q1_158 rfl dX9_count_70 ?_
          refine kp_geti C G h kp_lK3 rfl inWX7 (j := 1) (by decide) q1_44 rfl dX9_count_73 ?_
          exact kp_reti C hr hlk G h dX9_count_76 hF
        · have hF := hb q3
          clear ha hb
          obtain ⟨hx, -, ha, hb⟩ := kp_eq_s hF
          by_cases q4 : a1 = 4
          · have hF := ha q4
            clear ha hb
            refine kp_tabIn (v := 4) (tgt := 77) C dX9_count_1 q4 (by decide) rfl (by decide) ?_
            refine kp_aload_n C dX9_count_77 rfl (lv_at hl 0 rfl) ?_
            refine kp_getr C G h kp_lK0 rfl inWX9 (j := 5) (by decide) q2_17 rfl dX9_count_78 ?_
            refine kp_geti C G h kp_lK8 rfl inWX0 (j := 1) (by decide) q1_237 rfl dX9_count_81 ?_
            exact kp_reti C hr hlk G h dX9_count_84 hF
          · have hF := hb q4
            clear ha hb
            refine kp_tabOut (tgt := 85) C dX9_count_1 hx (by omega) (by decide) ?_
            refine kp_iconst C dX9_count_85 ?_
            exact kp_reti C hr hlk G h dX9_count_86 hF
