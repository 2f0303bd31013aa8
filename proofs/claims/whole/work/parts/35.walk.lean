-- by program (wip/whole/gen/drive.py)
def kl_X10_least_95 (x5_1 : Int) (σ_7 : kp_W) : Nat → Int → Int → (Int → kp_R) → kp_R
  | 0, _, _, _ => none
  | n + 1, x6_1, x7_1, k => kp_ls x7_1 (σ_7 1 0) (kp_ck (kp_in x5_1 ∧ 0 ≤ x7_1 ∧ x7_1 < 32) (kp_eq (kp_and (x5_1 / 2 ^ (Int.toNat x7_1)) 1) 0 (kp_ck (0 ≤ x7_1 ∧ x7_1 < 10) (kp_lt ((x6_1 + (σ_7 8 (Int.toNat x7_1))) : Int) (fun x6_4 => kp_lt (x7_1 + 1) (fun x7_4 => kl_X10_least_95 x5_1 σ_7 n x6_4 x7_4 k)))) (kp_lt ((x6_1 + 0) : Int) (fun x6_3 => kp_lt (x7_1 + 1) (fun x7_3 => kl_X10_least_95 x5_1 σ_7 n x6_3 x7_3 k))))) (k x6_1)
def kl_X10_least_76 (a2 : Int) (x3_0 : Int) : Nat → Int → Int → kp_W → (Int → kp_W → kp_R) → kp_R
  | 0, _, _, _, _ => none
  | n + 1, x4_3, x5_1, σ_7, k => kp_ck (0 ≤ (σ_7 1 0) ∧ (σ_7 1 0) < 32) (kp_ls x5_1 (1 * 2 ^ (Int.toNat (σ_7 1 0))) (kp_lt (0 : Int) (fun x6_0 => kp_lt (0 : Int) (fun x7_0 => kl_X10_least_95 x5_1 σ_7 kp_fu x6_0 x7_0 (fun (x6_2 : Int) => kp_jn (fun (v_0 : Int) => kp_lt (v_0 : Int) (fun x7_2 => kp_eq x7_2 0 (kp_lt (x4_3 : Int) (fun x4_5 => kp_lt (x5_1 + 1) (fun x5_2 => kl_X10_least_76 a2 x3_0 n x4_5 x5_2 σ_7 k))) (kp_eq x4_3 (-5) (kp_lt (x5_1 : Int) (fun x4_6 => kp_lt (x5_1 + 1) (fun x5_3 => kl_X10_least_76 a2 x3_0 n x4_6 x5_3 σ_7 k))) (kp_bd (kf_X10_count1 x5_1 σ_7) (fun r_4 σ_9 => kp_bd (kf_X10_count1 x4_3 σ_9) (fun r_5 σ_10 => kp_ls r_4 r_5 (kp_lt (x5_1 : Int) (fun x4_8 => kp_lt (x5_1 + 1) (fun x5_5 => kl_X10_least_76 a2 x3_0 n x4_8 x5_5 σ_10 k))) (kp_lt (x4_3 : Int) (fun x4_7 => kp_lt (x5_1 + 1) (fun x5_4 => kl_X10_least_76 a2 x3_0 n x4_7 x5_4 σ_10 k))))))))) (fun j158 => kp_jn (fun (_ : Unit) => j158 0) (fun j157 => kp_eq (kp_and x5_1 (kp_xor x3_0 (-1))) 0 (kp_ls a2 x6_2 (j157 ()) (j158 1)) (j157 ()))))))) (k x4_3 σ_7))
def kl_X10_least_34 (a1 : Int) (x3_0 : Int) : Nat → Int → kp_W → (kp_W → kp_R) → kp_R
  | 0, _, _, _ => none
  | n + 1, x4_1, σ_5, k => kp_ls x4_1 (σ_5 1 0) (kp_ck (0 ≤ x4_1 ∧ x4_1 < 32) (kp_bd (kf_X10_heardAll (kp_and x3_0 (1 * 2 ^ (Int.toNat x4_1))) a1 σ_5) (fun r_6 σ_11 => kp_ck (0 ≤ x4_1 ∧ x4_1 < 10) (kp_lt (kp_up σ_11 8 (Int.toNat x4_1) r_6) (fun σ_12 => kp_lt (x4_1 + 1) (fun x4_9 => kl_X10_least_34 a1 x3_0 n x4_9 σ_12 k)))))) (k σ_5)
def kf_X10_least  (a1 : Int) (a2 : Int) (σ_0 : kp_W) : kp_R :=
  kp_bd (kf_X10_isPlace a1 σ_0) (fun r_0 σ_1 => kp_eq r_0 0 (some ((-1), σ_1)) (kp_bd (kf_X10_in a2 0 99 σ_1) (fun r_1 σ_2 => kp_eq r_1 0 (some ((-2), σ_2)) (kp_bd (kf_X10_goes σ_2) (fun r_2 σ_3 => kp_bd (kf_X10_moving σ_3) (fun r_3 σ_4 => kp_lt (r_3 : Int) (fun x3_0 => kp_lt (0 : Int) (fun x4_0 => kl_X10_least_34 a1 x3_0 kp_fu x4_0 σ_4 (fun (σ_6 : kp_W) => kp_lt ((-5) : Int) (fun x4_2 => kp_lt (0 : Int) (fun x5_0 => kl_X10_least_76 a2 x3_0 kp_fu x4_2 x5_0 σ_6 (fun (x4_4 : Int) (σ_8 : kp_W) => some (x4_4, σ_8)))))))))))))
set_option maxRecDepth 100000 in
set_option maxHeartbeats 4000000 in
theorem kc_X10_least {l : Launch} {X : kp_X} {a1 : Int} {a2 : Int}  {σ_0 σ' : kp_W} {r : Int}   (hF : (kf_X10_least a1 a2 σ_0) = some (r, σ')) : kp_Met l yX10_least cX10_least 8 (some .int) 6 X kp_lM 10 σ_0 [.ref (kp_ad X 0), kp_iv a1, kp_iv a2] (kp_Qi X kp_lM 10 σ' r) := by
  refine kp_body pnX10 (Nat.le_of_ble_eq_true rfl) ?_
  intro p e s m args below meth c ls C hr hlk G h hl
  unfold kf_X10_least at hF
  have hl : lv_has ls 8 [(0, .ref (kp_ad X 0)), (1, kp_iv a1), (2, kp_iv a2)] := hl
  refine kp_iload_n C dX10_least_0 rfl (lv_at hl 1 rfl) ?_
  obtain ⟨r_0, σ_1, hc, hF⟩ := kp_bd_s hF
  refine kp_ci h (kp_rS (As := [kp_iv a1]) (rest := []) C G h (kc_X10_isPlace  hc) q4_232 q4_233 q1_11 q4_234 hd_X10_isPlace (by decide) rfl hl.1 rfl (Nat.le_of_ble_eq_true rfl) dX10_least_1) (fun H locs h => ?_)
  refine kp_if_ne (tgt := 9) C dX10_least_4 (by decide) hF (fun hF => ?_) (fun hF => ?_)
  · refine kp_iload_n C dX10_least_9 rfl (lv_at hl 2 rfl) ?_
    refine kp_iconst C dX10_least_10 ?_
    refine kp_bipush C dX10_least_11 rfl ?_
    obtain ⟨r_1, σ_2, hc, hF⟩ := kp_bd_s hF
    refine kp_ci h (kp_rS (As := [kp_iv a2, kp_iv 0, kp_iv 99]) (rest := []) C G h (kc_X10_in  hc) q4_128 q4_129 q1_11 q4_130 hd_X10_in (by decide) rfl hl.1 rfl (Nat.le_of_ble_eq_true rfl) dX10_least_13) (fun H locs h => ?_)
    refine kp_if_ne (tgt := 22) C dX10_least_16 (by decide) hF (fun hF => ?_) (fun hF => ?_)
    · refine kp_aload_n C dX10_least_22 rfl (lv_at hl 0 rfl) ?_
      obtain ⟨r_2, σ_3, hc, hF⟩ := kp_bd_s hF
      refine kp_cv h (kp_rV (k := 0) (As := []) (rest := []) C G h (kc_X10_goes  hc) q5_11 q5_13 q0_4_0 q1_11 q5_14 ⟨rfl, hd_X10_goes⟩ (by decide) kp_lM0 rfl rfl hl.1 rfl (Nat.le_of_ble_eq_true rfl) dX10_least_23) (fun H locs h => ?_)
      refine kp_aload_n C dX10_least_26 rfl (lv_at hl 0 rfl) ?_
      obtain ⟨r_3, σ_4, hc, hF⟩ := kp_bd_s hF
      refine kp_ci h (kp_rV (k := 0) (As := []) (rest := []) C G h (kc_X10_moving  hc) q5_66 q5_68 q0_4_11 q1_11 q5_69 ⟨rfl, hd_X10_moving⟩ (by decide) kp_lM0 rfl rfl hl.1 rfl (Nat.le_of_ble_eq_true rfl) dX10_least_27) (fun H locs h => ?_)
      refine kp_istore_n (lv' := fun x3_0 => [(3, kp_iv x3_0), (0, .ref (kp_ad X 0)), (1, kp_iv a1), (2, kp_iv a2)]) C dX10_least_30 rfl hl (by decide) (fun _ => rfl) hF (fun x3_0 ls hl hF => ?_)
      refine kp_iconst C dX10_least_31 ?_
      refine kp_istore (lv' := fun x4_0 => [(4, kp_iv x4_0), (3, kp_iv x3_0), (0, .ref (kp_ad X 0)), (1, kp_iv a1), (2, kp_iv a2)]) C dX10_least_32 hl (by decide) (fun _ => rfl) hF (fun x4_0 ls hl hF => ?_)
      have L34 : ∀ (n : Nat) (x4_1 : Int) (σ_5 : kp_W) (k : kp_W → kp_R) (H : Heap) (locs : List Loc) (ls : Array Slot), kp_H X kp_lM 10 s σ_5 H locs → lv_has ls 8 [(0, .ref (kp_ad X 0)), (1, kp_iv a1), (2, kp_iv a2), (3, kp_iv x3_0), (4, kp_iv x4_1)] → (∀ (σ_6 : kp_W) (H : Heap) (locs : List Loc) (ls : Array Slot), kp_H X kp_lM 10 s σ_6 H locs → lv_has ls 8 [(0, .ref (kp_ad X 0)), (2, kp_iv a2), (3, kp_iv x3_0)] → k σ_6 = some (r, σ') → W p l e (kp_rm 6) s m args below meth c H locs 0 0 (MQ below (kp_Qi X kp_lM 10 σ' r) args s 0 0 (kp_A X 10)) (F0 m 69 ls [])) → kl_X10_least_34 a1 x3_0 n x4_1 σ_5 k = some (r, σ') → W p l e (kp_rm 6) s m args below meth c H locs 0 0 (MQ below (kp_Qi X kp_lM 10 σ' r) args s 0 0 (kp_A X 10)) (F0 m 34 ls []) := by
        intro n
        induction n with
        | zero =>
          intro x4_1 σ_5 k H locs ls h hl K hF
          rw [kl_X10_least_34] at hF
          cases hF
        | succ n ih =>
          intro x4_1 σ_5 k H locs ls h hl K hF
          rw [kl_X10_least_34] at hF
          refine kp_iload C dX10_least_34 (lv_at hl 4 rfl) ?_
          refine kp_aload_n C dX10_least_36 rfl (lv_at hl 0 rfl) ?_
          refine kp_getr C G h kp_lM0 rfl inWX10 (j := 1) (by decide) q4_45 rfl dX10_least_37 ?_
          refine kp_iconst C dX10_least_40 ?_
          refine kp_iald0 C G h (i := 0) (n := 1066) kp_lM1 (by decide) (by decide) dX10_least_41 ?_
          refine kp_icmp_ge (tgt := 69) C dX10_least_42 (by decide) hF (fun hF => ?_) (fun hF => ?_)
          · exact K _ _ _ _ h (lv_sub hl [0, 2, 3] rfl) hF
          · refine kp_aload_n C dX10_least_45 rfl (lv_at hl 0 rfl) ?_
            refine kp_getr C G h kp_lM0 rfl inWX10 (j := 20) (by decide) q4_64 rfl dX10_least_46 ?_
            refine kp_iload C dX10_least_49 (lv_at hl 4 rfl) ?_
            refine kp_aload_n C dX10_least_51 rfl (lv_at hl 0 rfl) ?_
            refine kp_iload_n C dX10_least_52 rfl (lv_at hl 3 rfl) ?_
            refine kp_iconst C dX10_least_53 ?_
            refine kp_iload C dX10_least_54 (lv_at hl 4 rfl) ?_
            refine kp_xishl C dX10_least_56 hF (fun hF => ?_)
            refine kp_xiand C dX10_least_57 ?_
            refine kp_iload_n C dX10_least_58 rfl (lv_at hl 1 rfl) ?_
            obtain ⟨r_6, σ_11, hc, hF⟩ := kp_bd_s hF
            refine kp_ci h (kp_rV (k := 0) (As := [kp_iv (kp_and x3_0 (1 * 2 ^ (Int.toNat x4_1))), kp_iv a1]) (rest := [kp_iv x4_1, .ref (kp_ad X 8)]) C G h (kc_X10_heardAll  hc) q5_70 q5_72 q0_4_12 q1_11 q5_73 ⟨rfl, hd_X10_heardAll⟩ (by decide) kp_lM0 rfl rfl hl.1 rfl (Nat.le_of_ble_eq_true rfl) dX10_least_59) (fun H locs h => ?_)
            refine kp_iast C G h (n := 10) kp_lM8 (by decide) dX10_least_62 hF (fun σ_12 H locs h hF => ?_)
            refine kp_iinc (k := 4) (lv' := fun x4_9 => [(4, kp_iv x4_9), (0, .ref (kp_ad X 0)), (1, kp_iv a1), (2, kp_iv a2), (3, kp_iv x3_0)]) C dX10_least_63 hl rfl (by decide) (fun _ => rfl) hF (fun x4_9 ls hl hF => ?_)
            refine kp_goto (tgt := 34) C dX10_least_66 (by decide) ?_
            exact ih _ _ k _ _ _ h (lv_sub hl [1, 2, 3, 4, 0] rfl) K hF
      refine L34 kp_fu _ _ _ _ _ _ h (lv_sub hl [2, 3, 4, 1, 0] rfl) (fun σ_6 H locs ls h hl hF => ?_) hF
      clear L34
      refine kp_bipush C dX10_least_69 rfl ?_
      refine kp_istore (lv' := fun x4_2 => [(4, kp_iv x4_2), (0, .ref (kp_ad X 0)), (2, kp_iv a2), (3, kp_iv x3_0)]) C dX10_least_71 hl (by decide) (fun _ => rfl) hF (fun x4_2 ls hl hF => ?_)
      refine kp_iconst C dX10_least_73 ?_
      refine kp_istore (lv' := fun x5_0 => [(5, kp_iv x5_0), (4, kp_iv x4_2), (0, .ref (kp_ad X 0)), (2, kp_iv a2), (3, kp_iv x3_0)]) C dX10_least_74 hl (by decide) (fun _ => rfl) hF (fun x5_0 ls hl hF => ?_)
      have L76 : ∀ (n : Nat) (x4_3 : Int) (x5_1 : Int) (σ_7 : kp_W) (k : Int → kp_W → kp_R) (H : Heap) (locs : List Loc) (ls : Array Slot), kp_H X kp_lM 10 s σ_7 H locs → lv_has ls 8 [(0, .ref (kp_ad X 0)), (2, kp_iv a2), (3, kp_iv x3_0), (4, kp_iv x4_3), (5, kp_iv x5_1)] → (∀ (x4_4 : Int) (σ_8 : kp_W) (H : Heap) (locs : List Loc) (ls : Array Slot), kp_H X kp_lM 10 s σ_8 H locs → lv_has ls 8 [(4, kp_iv x4_4)] → k x4_4 σ_8 = some (r, σ') → W p l e (kp_rm 6) s m args below meth c H locs 0 0 (MQ below (kp_Qi X kp_lM 10 σ' r) args s 0 0 (kp_A X 10)) (F0 m 200 ls [])) → kl_X10_least_76 a2 x3_0 n x4_3 x5_1 σ_7 k = some (r, σ') → W p l e (kp_rm 6) s m args below meth c H locs 0 0 (MQ below (kp_Qi X kp_lM 10 σ' r) args s 0 0 (kp_A X 10)) (F0 m 76 ls []) := by
        intro n
        induction n with
        | zero =>
          intro x4_3 x5_1 σ_7 k H locs ls h hl K hF
          rw [kl_X10_least_76] at hF
          cases hF
        | succ n ih =>
          intro x4_3 x5_1 σ_7 k H locs ls h hl K hF
          rw [kl_X10_least_76] at hF
          refine kp_iload C dX10_least_76 (lv_at hl 4 rfl) ?_
          refine kp_iconst C dX10_least_78 ?_
          refine kp_aload_n C dX10_least_79 rfl (lv_at hl 0 rfl) ?_
          refine kp_getr C G h kp_lM0 rfl inWX10 (j := 1) (by decide) q4_45 rfl dX10_least_80 ?_
          refine kp_iconst C dX10_least_83 ?_
          refine kp_iald0 C G h (i := 0) (n := 1066) kp_lM1 (by decide) (by decide) dX10_least_84 ?_
          refine kp_xishl C dX10_least_85 hF (fun hF => ?_)
          refine kp_icmp_ge (tgt := 200) C dX10_least_86 (by decide) hF (fun hF => ?_) (fun hF => ?_)
          · exact K _ _ _ _ _ h (lv_sub hl [3] rfl) hF
          · refine kp_iconst C dX10_least_89 ?_
            refine kp_istore (lv' := fun x6_0 => [(6, kp_iv x6_0), (0, .ref (kp_ad X 0)), (2, kp_iv a2), (3, kp_iv x3_0), (4, kp_iv x4_3), (5, kp_iv x5_1)]) C dX10_least_90 hl (by decide) (fun _ => rfl) hF (fun x6_0 ls hl hF => ?_)
            refine kp_iconst C dX10_least_92 ?_
            refine kp_istore (lv' := fun x7_0 => [(7, kp_iv x7_0), (6, kp_iv x6_0), (0, .ref (kp_ad X 0)), (2, kp_iv a2), (3, kp_iv x3_0), (4, kp_iv x4_3), (5, kp_iv x5_1)]) C dX10_least_93 hl (by decide) (fun _ => rfl) hF (fun x7_0 ls hl hF => ?_)
            have L95 : ∀ (n : Nat) (x6_1 : Int) (x7_1 : Int) (k : Int → kp_R) (H : Heap) (locs : List Loc) (ls : Array Slot), kp_H X kp_lM 10 s σ_7 H locs → lv_has ls 8 [(0, .ref (kp_ad X 0)), (2, kp_iv a2), (3, kp_iv x3_0), (4, kp_iv x4_3), (5, kp_iv x5_1), (6, kp_iv x6_1), (7, kp_iv x7_1)] → (∀ (x6_2 : Int) (H : Heap) (locs : List Loc) (ls : Array Slot), kp_H X kp_lM 10 s σ_7 H locs → lv_has ls 8 [(0, .ref (kp_ad X 0)), (2, kp_iv a2), (3, kp_iv x3_0), (4, kp_iv x4_3), (5, kp_iv x5_1), (6, kp_iv x6_2)] → k x6_2 = some (r, σ') → W p l e (kp_rm 6) s m args below meth c H locs 0 0 (MQ below (kp_Qi X kp_lM 10 σ' r) args s 0 0 (kp_A X 10)) (F0 m 138 ls [])) → kl_X10_least_95 x5_1 σ_7 n x6_1 x7_1 k = some (r, σ') → W p l e (kp_rm 6) s m args below meth c H locs 0 0 (MQ below (kp_Qi X kp_lM 10 σ' r) args s 0 0 (kp_A X 10)) (F0 m 95 ls []) := by
              intro n
              induction n with
              | zero =>
                intro x6_1 x7_1 k H locs ls h hl K hF
                rw [kl_X10_least_95] at hF
                cases hF
              | succ n ih =>
                intro x6_1 x7_1 k H locs ls h hl K hF
                rw [kl_X10_least_95] at hF
                refine kp_iload C dX10_least_95 (lv_at hl 6 rfl) ?_
                refine kp_aload_n C dX10_least_97 rfl (lv_at hl 0 rfl) ?_
                refine kp_getr C G h kp_lM0 rfl inWX10 (j := 1) (by decide) q4_45 rfl dX10_least_98 ?_
                refine kp_iconst C dX10_least_101 ?_
                refine kp_iald0 C G h (i := 0) (n := 1066) kp_lM1 (by decide) (by decide) dX10_least_102 ?_
                refine kp_icmp_ge (tgt := 138) C dX10_least_103 (by decide) hF (fun hF => ?_) (fun hF => ?_)
                · exact K _ _ _ _ h (lv_sub hl [0, 1, 2, 3, 4, 5] rfl) hF
                · refine kp_iload C dX10_least_106 (lv_at hl 5 rfl) ?_
                  refine kp_iload C dX10_least_108 (lv_at hl 4 rfl) ?_
                  refine kp_iload C dX10_least_110 (lv_at hl 6 rfl) ?_
                  refine kp_xishr C dX10_least_112 hF (fun hF => ?_)
                  refine kp_iconst C dX10_least_113 ?_
                  refine kp_xiand C dX10_least_114 ?_
                  refine kp_if_ne (tgt := 128) C dX10_least_115 (by decide) hF (fun hF => ?_) (fun hF => ?_)
                  · refine kp_iconst C dX10_least_128 ?_
                    refine kp_iadd C dX10_least_129 ?_
                    refine kp_istore (lv' := fun x6_3 => [(6, kp_iv x6_3), (0, .ref (kp_ad X 0)), (2, kp_iv a2), (3, kp_iv x3_0), (4, kp_iv x4_3), (5, kp_iv x5_1), (7, kp_iv x7_1)]) C dX10_least_130 hl (by decide) (fun _ => rfl) hF (fun x6_3 ls hl hF => ?_)
                    refine kp_iinc (k := 6) (lv' := fun x7_3 => [(7, kp_iv x7_3), (6, kp_iv x6_3), (0, .ref (kp_ad X 0)), (2, kp_iv a2), (3, kp_iv x3_0), (4, kp_iv x4_3), (5, kp_iv x5_1)]) C dX10_least_132 hl rfl (by decide) (fun _ => rfl) hF (fun x7_3 ls hl hF => ?_)
                    refine kp_goto (tgt := 95) C dX10_least_135 (by decide) ?_
                    exact ih _ _ k _ _ _ h (lv_sub hl [2, 3, 4, 5, 6, 1, 0] rfl) K hF
                  · refine kp_aload_n C dX10_least_118 rfl (lv_at hl 0 rfl) ?_
                    refine kp_getr C G h kp_lM0 rfl inWX10 (j := 20) (by decide) q4_64 rfl dX10_least_119 ?_
                    refine kp_iload C dX10_least_122 (lv_at hl 6 rfl) ?_
                    refine kp_iald C G h (n := 10) kp_lM8 (by decide) dX10_least_124 hF (fun hF => ?_)
                    refine kp_goto (tgt := 129) C dX10_least_125 (by decide) ?_
                    refine kp_iadd C dX10_least_129 ?_
                    refine kp_istore (lv' := fun x6_4 => [(6, kp_iv x6_4), (0, .ref (kp_ad X 0)), (2, kp_iv a2), (3, kp_iv x3_0), (4, kp_iv x4_3), (5, kp_iv x5_1), (7, kp_iv x7_1)]) C dX10_least_130 hl (by decide) (fun _ => rfl) hF (fun x6_4 ls hl hF => ?_)
                    refine kp_iinc (k := 6) (lv' := fun x7_4 => [(7, kp_iv x7_4), (6, kp_iv x6_4), (0, .ref (kp_ad X 0)), (2, kp_iv a2), (3, kp_iv x3_0), (4, kp_iv x4_3), (5, kp_iv x5_1)]) C dX10_least_132 hl rfl (by decide) (fun _ => rfl) hF (fun x7_4 ls hl hF => ?_)
                    refine kp_goto (tgt := 95) C dX10_least_135 (by decide) ?_
                    exact ih _ _ k _ _ _ h (lv_sub hl [2, 3, 4, 5, 6, 1, 0] rfl) K hF
            refine L95 kp_fu _ _ _ _ _ _ h (lv_sub hl [2, 3, 4, 5, 6, 1, 0] rfl) (fun x6_2 H locs ls h hl hF => ?_) hF
            clear L95
            refine kp_iload C dX10_least_138 (lv_at hl 4 rfl) ?_
            refine kp_iload_n C dX10_least_140 rfl (lv_at hl 2 rfl) ?_
            refine kp_iconst C dX10_least_141 ?_
            refine kp_xixor C dX10_least_142 ?_
            refine kp_xiand C dX10_least_143 ?_
            obtain ⟨j158, ej158, hF⟩ := kp_jn_s hF
            have J158 : ∀ (v_0 : Int), ∀ (H : Heap) (locs : List Loc) (ls : Array Slot), kp_H X kp_lM 10 s σ_7 H locs → lv_has ls 8 [(0, .ref (kp_ad X 0)), (2, kp_iv a2), (3, kp_iv x3_0), (4, kp_iv x4_3), (5, kp_iv x5_1)] → j158 v_0 = some (r, σ') → W p l e (kp_rm 6) s m args below meth c H locs 0 0 (MQ below (kp_Qi X kp_lM 10 σ' r) args s 0 0 (kp_A X 10)) (F0 m 158 ls [kp_iv v_0]) := by
              intro v_0 H locs ls h hl hF
              rw [ej158] at hF
              refine kp_istore (lv' := fun x7_2 => [(7, kp_iv x7_2), (0, .ref (kp_ad X 0)), (2, kp_iv a2), (3, kp_iv x3_0), (4, kp_iv x4_3), (5, kp_iv x5_1)]) C dX10_least_158 hl (by decide) (fun _ => rfl) hF (fun x7_2 ls hl hF => ?_)
              refine kp_iload C dX10_least_160 (lv_at hl 0 rfl) ?_
              refine kp_if_eq (tgt := 190) C dX10_least_162 (by decide) hF (fun hF => ?_) (fun hF => ?_)
              · refine kp_iload C dX10_least_190 (lv_at hl 4 rfl) ?_
                refine kp_istore (lv' := fun x4_5 => [(4, kp_iv x4_5), (7, kp_iv x7_2), (0, .ref (kp_ad X 0)), (2, kp_iv a2), (3, kp_iv x3_0), (5, kp_iv x5_1)]) C dX10_least_192 hl (by decide) (fun _ => rfl) hF (fun x4_5 ls hl hF => ?_)
                refine kp_iinc (k := 5) (lv' := fun x5_2 => [(5, kp_iv x5_2), (4, kp_iv x4_5), (7, kp_iv x7_2), (0, .ref (kp_ad X 0)), (2, kp_iv a2), (3, kp_iv x3_0)]) C dX10_least_194 hl rfl (by decide) (fun _ => rfl) hF (fun x5_2 ls hl hF => ?_)
                refine kp_goto (tgt := 76) C dX10_least_197 (by decide) ?_
                exact ih _ _ _ k _ _ _ h (lv_sub hl [3, 4, 5, 1, 0] rfl) K hF
              · refine kp_iload C dX10_least_165 (lv_at hl 4 rfl) ?_
                refine kp_bipush C dX10_least_167 rfl ?_
                refine kp_icmp_eq (tgt := 185) C dX10_least_169 (by decide) hF (fun hF => ?_) (fun hF => ?_)
                · refine kp_iload C dX10_least_185 (lv_at hl 5 rfl) ?_
                  refine kp_goto (tgt := 192) C dX10_least_187 (by decide) ?_
                  refine kp_istore (lv' := fun x4_6 => [(4, kp_iv x4_6), (7, kp_iv x7_2), (0, .ref (kp_ad X 0)), (2, kp_iv a2), (3, kp_iv x3_0), (5, kp_iv x5_1)]) C dX10_least_192 hl (by decide) (fun _ => rfl) hF (fun x4_6 ls hl hF => ?_)
                  refine kp_iinc (k := 5) (lv' := fun x5_3 => [(5, kp_iv x5_3), (4, kp_iv x4_6), (7, kp_iv x7_2), (0, .ref (kp_ad X 0)), (2, kp_iv a2), (3, kp_iv x3_0)]) C dX10_least_194 hl rfl (by decide) (fun _ => rfl) hF (fun x5_3 ls hl hF => ?_)
                  refine kp_goto (tgt := 76) C dX10_least_197 (by decide) ?_
                  exact ih _ _ _ k _ _ _ h (lv_sub hl [3, 4, 5, 1, 0] rfl) K hF
                · refine kp_iload C dX10_least_172 (lv_at hl 5 rfl) ?_
                  obtain ⟨r_4, σ_9, hc, hF⟩ := kp_bd_s hF
                  refine kp_ci h (kp_rS (As := [kp_iv x5_1]) (rest := []) C G h (kc_X10_count1  hc) q5_102 q5_103 q1_11 q5_104 hd_X10_count1 (by decide) rfl hl.1 rfl (Nat.le_of_ble_eq_true rfl) dX10_least_174) (fun H locs h => ?_)
                  refine kp_iload C dX10_least_177 (lv_at hl 4 rfl) ?_
                  obtain ⟨r_5, σ_10, hc, hF⟩ := kp_bd_s hF
                  refine kp_ci h (kp_rS (As := [kp_iv x4_3]) (rest := [kp_iv r_4]) C G h (kc_X10_count1  hc) q5_102 q5_103 q1_11 q5_104 hd_X10_count1 (by decide) rfl hl.1 rfl (Nat.le_of_ble_eq_true rfl) dX10_least_179) (fun H locs h => ?_)
                  refine kp_icmp_ge (tgt := 190) C dX10_least_182 (by decide) hF (fun hF => ?_) (fun hF => ?_)
                  · refine kp_iload C dX10_least_190 (lv_at hl 4 rfl) ?_
                    refine kp_istore (lv' := fun x4_7 => [(4, kp_iv x4_7), (7, kp_iv x7_2), (0, .ref (kp_ad X 0)), (2, kp_iv a2), (3, kp_iv x3_0), (5, kp_iv x5_1)]) C dX10_least_192 hl (by decide) (fun _ => rfl) hF (fun x4_7 ls hl hF => ?_)
                    refine kp_iinc (k := 5) (lv' := fun x5_4 => [(5, kp_iv x5_4), (4, kp_iv x4_7), (7, kp_iv x7_2), (0, .ref (kp_ad X 0)), (2, kp_iv a2), (3, kp_iv x3_0)]) C dX10_least_194 hl rfl (by decide) (fun _ => rfl) hF (fun x5_4 ls hl hF => ?_)
                    refine kp_goto (tgt := 76) C dX10_least_197 (by decide) ?_
                    exact ih _ _ _ k _ _ _ h (lv_sub hl [3, 4, 5, 1, 0] rfl) K hF
                  · refine kp_iload C dX10_least_185 (lv_at hl 5 rfl) ?_
                    refine kp_goto (tgt := 192) C dX10_least_187 (by decide) ?_
                    refine kp_istore (lv' := fun x4_8 => [(4, kp_iv x4_8), (7, kp_iv x7_2), (0, .ref (kp_ad X 0)), (2, kp_iv a2), (3, kp_iv x3_0), (5, kp_iv x5_1)]) C dX10_least_192 hl (by decide) (fun _ => rfl) hF (fun x4_8 ls hl hF => ?_)
                    refine kp_iinc (k := 5) (lv' := fun x5_5 => [(5, kp_iv x5_5), (4, kp_iv x4_8), (7, kp_iv x7_2), (0, .ref (kp_ad X 0)), (2, kp_iv a2), (3, kp_iv x3_0)]) C dX10_least_194 hl rfl (by decide) (fun _ => rfl) hF (fun x5_5 ls hl hF => ?_)
                    refine kp_goto (tgt := 76) C dX10_least_197 (by decide) ?_
                    exact ih _ _ _ k _ _ _ h (lv_sub hl [3, 4, 5, 1, 0] rfl) K hF
            clear ej158
            obtain ⟨j157, ej157, hF⟩ := kp_jn_s hF
            have J157 : ∀ _ : Unit, ∀ (H : Heap) (locs : List Loc) (ls : Array Slot), kp_H X kp_lM 10 s σ_7 H locs → lv_has ls 8 [(0, .ref (kp_ad X 0)), (2, kp_iv a2), (3, kp_iv x3_0), (4, kp_iv x4_3), (5, kp_iv x5_1)] → j157 () = some (r, σ') → W p l e (kp_rm 6) s m args below meth c H locs 0 0 (MQ below (kp_Qi X kp_lM 10 σ' r) args s 0 0 (kp_A X 10)) (F0 m 157 ls []) := by
              intro _ H locs ls h hl hF
              rw [ej157] at hF
              refine kp_iconst C dX10_least_157 ?_
              exact J158 _ _ _ _ h (lv_sub hl [0, 1, 2, 3, 4] rfl) hF
            clear ej157
            refine kp_if_ne (tgt := 157) C dX10_least_144 (by decide) hF (fun hF => ?_) (fun hF => ?_)
            · exact J157 () _ _ _ h (lv_sub hl [0, 1, 2, 3, 4] rfl) hF
            · refine kp_iload C dX10_least_147 (lv_at hl 5 rfl) ?_
              refine kp_iload_n C dX10_least_149 rfl (lv_at hl 1 rfl) ?_
              refine kp_icmp_gt (tgt := 157) C dX10_least_150 (by decide) hF (fun hF => ?_) (fun hF => ?_)
              · exact J157 () _ _ _ h (lv_sub hl [0, 1, 2, 3, 4] rfl) hF
              · refine kp_iconst C dX10_least_153 ?_
                refine kp_goto (tgt := 158) C dX10_least_154 (by decide) ?_
                exact J158 _ _ _ _ h (lv_sub hl [0, 1, 2, 3, 4] rfl) hF
      refine L76 kp_fu _ _ _ _ _ _ _ h (lv_sub hl [2, 3, 4, 1, 0] rfl) (fun x4_4 σ_8 H locs ls h hl hF => ?_) hF
      clear L76
      refine kp_iload C dX10_least_200 (lv_at hl 0 rfl) ?_
      exact kp_reti C hr hlk G h dX10_least_202 hF
    · refine kp_bipush C dX10_least_19 rfl ?_
      exact kp_reti C hr hlk G h dX10_least_21 hF
  · refine kp_iconst C dX10_least_7 ?_
    exact kp_reti C hr hlk G h dX10_least_8 hF
def kf_X10_eased  (a1 : Int) (a2 : Int) (σ_0 : kp_W) : kp_R :=
  kp_bd (kf_X10_isPlace a1 σ_0) (fun r_0 σ_1 => kp_eq r_0 0 (some ((-1), σ_1)) (kp_bd (kf_X10_in a2 0 40 σ_1) (fun r_1 σ_2 => kp_eq r_1 0 (some ((-2), σ_2)) (kp_bd (kf_X10_goes σ_2) (fun r_2 σ_3 => kp_bd (kf_X10_moving σ_3) (fun r_3 σ_4 => kp_bd (kf_X10_heardAll r_3 a1 σ_4) (fun r_4 σ_5 => kp_lt (r_4 : Int) (fun x3_0 => kp_lt (kp_up σ_5 0 18 a2) (fun σ_6 => kp_bd (kf_X10_moving σ_6) (fun r_5 σ_7 => kp_bd (kf_X10_heardAll r_5 a1 σ_7) (fun r_6 σ_8 => kp_lt (r_6 : Int) (fun x4_0 => kp_lt (kp_up σ_8 0 18 0) (fun σ_9 => some ((x3_0 - x4_0), σ_9))))))))))))))
set_option maxRecDepth 100000 in
set_option maxHeartbeats 4000000 in
theorem kc_X10_eased {l : Launch} {X : kp_X} {a1 : Int} {a2 : Int}  {σ_0 σ' : kp_W} {r : Int}   (hF : (kf_X10_eased a1 a2 σ_0) = some (r, σ')) : kp_Met l yX10_eased cX10_eased 5 (some .int) 6 X kp_lM 10 σ_0 [.ref (kp_ad X 0), kp_iv a1, kp_iv a2] (kp_Qi X kp_lM 10 σ' r) := by
  refine kp_body pnX10 (Nat.le_of_ble_eq_true rfl) ?_
  intro p e s m args below meth c ls C hr hlk G h hl
  unfold kf_X10_eased at hF
  have hl : lv_has ls 5 [(0, .ref (kp_ad X 0)), (1, kp_iv a1), (2, kp_iv a2)] := hl
  refine kp_iload_n C dX10_eased_0 rfl (lv_at hl 1 rfl) ?_
  obtain ⟨r_0, σ_1, hc, hF⟩ := kp_bd_s hF
  refine kp_ci h (kp_rS (As := [kp_iv a1]) (rest := []) C G h (kc_X10_isPlace  hc) q4_232 q4_233 q1_11 q4_234 hd_X10_isPlace (by decide) rfl hl.1 rfl (Nat.le_of_ble_eq_true rfl) dX10_eased_1) (fun H locs h => ?_)
  refine kp_if_ne (tgt := 9) C dX10_eased_4 (by decide) hF (fun hF => ?_) (fun hF => ?_)
  · refine kp_iload_n C dX10_eased_9 rfl (lv_at hl 2 rfl) ?_
    refine kp_iconst C dX10_eased_10 ?_
    refine kp_bipush C dX10_eased_11 rfl ?_
    obtain ⟨r_1, σ_2, hc, hF⟩ := kp_bd_s hF
    refine kp_ci h (kp_rS (As := [kp_iv a2, kp_iv 0, kp_iv 40]) (rest := []) C G h (kc_X10_in  hc) q4_128 q4_129 q1_11 q4_130 hd_X10_in (by decide) rfl hl.1 rfl (Nat.le_of_ble_eq_true rfl) dX10_eased_13) (fun H locs h => ?_)
    refine kp_if_ne (tgt := 22) C dX10_eased_16 (by decide) hF (fun hF => ?_) (fun hF => ?_)
    · refine kp_aload_n C dX10_eased_22 rfl (lv_at hl 0 rfl) ?_
      obtain ⟨r_2, σ_3, hc, hF⟩ := kp_bd_s hF
      refine kp_cv h (kp_rV (k := 0) (As := []) (rest := []) C G h (kc_X10_goes  hc) q5_11 q5_13 q0_4_0 q1_11 q5_14 ⟨rfl, hd_X10_goes⟩ (by decide) kp_lM0 rfl rfl hl.1 rfl (Nat.le_of_ble_eq_true rfl) dX10_eased_23) (fun H locs h => ?_)
      refine kp_aload_n C dX10_eased_26 rfl (lv_at hl 0 rfl) ?_
      refine kp_aload_n C dX10_eased_27 rfl (lv_at hl 0 rfl) ?_
      obtain ⟨r_3, σ_4, hc, hF⟩ := kp_bd_s hF
      refine kp_ci h (kp_rV (k := 0) (As := []) (rest := [.ref (kp_ad X 0)]) C G h (kc_X10_moving  hc) q5_66 q5_68 q0_4_11 q1_11 q5_69 ⟨rfl, hd_X10_moving⟩ (by decide) kp_lM0 rfl rfl hl.1 rfl (Nat.le_of_ble_eq_true rfl) dX10_eased_28) (fun H locs h => ?_)
      refine kp_iload_n C dX10_eased_31 rfl (lv_at hl 1 rfl) ?_
      obtain ⟨r_4, σ_5, hc, hF⟩ := kp_bd_s hF
      refine kp_ci h (kp_rV (k := 0) (As := [kp_iv r_3, kp_iv a1]) (rest := []) C G h (kc_X10_heardAll  hc) q5_70 q5_72 q0_4_12 q1_11 q5_73 ⟨rfl, hd_X10_heardAll⟩ (by decide) kp_lM0 rfl rfl hl.1 rfl (Nat.le_of_ble_eq_true rfl) dX10_eased_32) (fun H locs h => ?_)
      refine kp_istore_n (lv' := fun x3_0 => [(3, kp_iv x3_0), (0, .ref (kp_ad X 0)), (1, kp_iv a1), (2, kp_iv a2)]) C dX10_eased_35 rfl hl (by decide) (fun _ => rfl) hF (fun x3_0 ls hl hF => ?_)
      refine kp_aload_n C dX10_eased_36 rfl (lv_at hl 1 rfl) ?_
      refine kp_iload_n C dX10_eased_37 rfl (lv_at hl 3 rfl) ?_
      refine kp_puti C G h kp_lM0 rfl inWX10 tyX10 tyX10_ok nmX10 (j := 18) (by decide) q4_62 rfl rfl (by decide +kernel) dX10_eased_38 hF (fun σ_6 H locs h hF => ?_)
      refine kp_aload_n C dX10_eased_41 rfl (lv_at hl 1 rfl) ?_
      refine kp_aload_n C dX10_eased_42 rfl (lv_at hl 1 rfl) ?_
      obtain ⟨r_5, σ_7, hc, hF⟩ := kp_bd_s hF
      refine kp_ci h (kp_rV (k := 0) (As := []) (rest := [.ref (kp_ad X 0)]) C G h (kc_X10_moving  hc) q5_66 q5_68 q0_4_11 q1_11 q5_69 ⟨rfl, hd_X10_moving⟩ (by decide) kp_lM0 rfl rfl hl.1 rfl (Nat.le_of_ble_eq_true rfl) dX10_eased_43) (fun H locs h => ?_)
      refine kp_iload_n C dX10_eased_46 rfl (lv_at hl 2 rfl) ?_
      obtain ⟨r_6, σ_8, hc, hF⟩ := kp_bd_s hF
      refine kp_ci h (kp_rV (k := 0) (As := [kp_iv r_5, kp_iv a1]) (rest := []) C G h (kc_X10_heardAll  hc) q5_70 q5_72 q0_4_12 q1_11 q5_73 ⟨rfl, hd_X10_heardAll⟩ (by decide) kp_lM0 rfl rfl hl.1 rfl (Nat.le_of_ble_eq_true rfl) dX10_eased_47) (fun H locs h => ?_)
      refine kp_istore (lv' := fun x4_0 => [(4, kp_iv x4_0), (3, kp_iv x3_0), (0, .ref (kp_ad X 0)), (1, kp_iv a1), (2, kp_iv a2)]) C dX10_eased_50 hl (by decide) (fun _ => rfl) hF (fun x4_0 ls hl hF => ?_)
      refine kp_aload_n C dX10_eased_52 rfl (lv_at hl 2 rfl) ?_
      refine kp_iconst C dX10_eased_53 ?_
      refine kp_puti C G h kp_lM0 rfl inWX10 tyX10 tyX10_ok nmX10 (j := 18) (by decide) q4_62 rfl rfl (by decide +kernel) dX10_eased_54 hF (fun σ_9 H locs h hF => ?_)
      refine kp_iload_n C dX10_eased_57 rfl (lv_at hl 1 rfl) ?_
      refine kp_iload C dX10_eased_58 (lv_at hl 0 rfl) ?_
      refine kp_isub C dX10_eased_60 ?_
      exact kp_reti C hr hlk G h dX10_eased_61 hF
    · refine kp_bipush C dX10_eased_19 rfl ?_
      exact kp_reti C hr hlk G h dX10_eased_21 hF
  · refine kp_iconst C dX10_eased_7 ?_
    exact kp_reti C hr hlk G h dX10_eased_8 hF
def kl_X10_parted_34 (a1 : Int) (a2 : Int) (σ_3 : kp_W) : Nat → Int → Int → (Int → kp_R) → kp_R
  | 0, _, _, _ => none
  | n + 1, x3_1, x5_1, k => kp_ls x5_1 40 (kp_ck (0 ≤ ((40 * a1) + x5_1) ∧ ((40 * a1) + x5_1) < 400) (kp_jn (fun (v_0 : Int) => kp_ck (0 ≤ ((40 * a2) + x5_1) ∧ ((40 * a2) + x5_1) < 400) (kp_jn (fun (v_1 : Int) => kp_eq v_0 v_1 (kp_lt ((kp_orL x3_1 0) : Int) (fun x3_3 => kp_lt (x5_1 + 1) (fun x5_2 => kl_X10_parted_34 a1 a2 σ_3 n x3_3 x5_2 k))) (kp_ck (0 ≤ x5_1 ∧ x5_1 < 64) (kp_lt ((kp_orL x3_1 (1 * 2 ^ (Int.toNat x5_1))) : Int) (fun x3_4 => kp_lt (x5_1 + 1) (fun x5_3 => kl_X10_parted_34 a1 a2 σ_3 n x3_4 x5_3 k))))) (fun j82 => kp_ls 0 (σ_3 6 (Int.toNat ((40 * a2) + x5_1))) (j82 1) (j82 0)))) (fun j62 => kp_ls 0 (σ_3 6 (Int.toNat ((40 * a1) + x5_1))) (j62 1) (j62 0)))) (k x3_1)
def kf_X10_parted  (a1 : Int) (a2 : Int) (σ_0 : kp_W) : kp_R :=
  kp_bd (kf_X10_isNoise a1 σ_0) (fun r_0 σ_1 => kp_eq r_0 0 (some ((-9223372036854775808), σ_1)) (kp_bd (kf_X10_isNoise a2 σ_1) (fun r_1 σ_2 => kp_eq r_1 0 (some ((-9223372036854775808), σ_2)) (kp_eq a1 a2 (some ((-9223372036854775808), σ_2)) (kp_bd (kf_X10_goes σ_2) (fun r_2 σ_3 => kp_lt (0 : Int) (fun x3_0 => kp_lt (0 : Int) (fun x5_0 => kl_X10_parted_34 a1 a2 σ_3 kp_fu x3_0 x5_0 (fun (x3_2 : Int) => some (x3_2, σ_3))))))))))
set_option maxRecDepth 100000 in
set_option maxHeartbeats 4000000 in
theorem kc_X10_parted {l : Launch} {X : kp_X} {a1 : Int} {a2 : Int}  {σ_0 σ' : kp_W} {r : Int}   (hF : (kf_X10_parted a1 a2 σ_0) = some (r, σ')) : kp_Met l yX10_parted cX10_parted 6 (some .long) 6 X kp_lM 10 σ_0 [.ref (kp_ad X 0), kp_iv a1, kp_iv a2] (kp_Ql X kp_lM 10 σ' r) := by
  refine kp_body pnX10 (Nat.le_of_ble_eq_true rfl) ?_
  intro p e s m args below meth c ls C hr hlk G h hl
  unfold kf_X10_parted at hF
  have hl : lv_has ls 6 [(0, .ref (kp_ad X 0)), (1, kp_iv a1), (2, kp_iv a2)] := hl
  refine kp_aload_n C dX10_parted_0 rfl (lv_at hl 0 rfl) ?_
  refine kp_iload_n C dX10_parted_1 rfl (lv_at hl 1 rfl) ?_
  obtain ⟨r_0, σ_1, hc, hF⟩ := kp_bd_s hF
  refine kp_ci h (kp_rV (k := 0) (As := [kp_iv a1]) (rest := []) C G h (kc_X10_isNoise  hc) q4_239 q5_1 q0_3_15 q1_11 q5_2 ⟨rfl, hd_X10_isNoise⟩ (by decide) kp_lM0 rfl rfl hl.1 rfl (Nat.le_of_ble_eq_true rfl) dX10_parted_2) (fun H locs h => ?_)
  refine kp_if_eq (tgt := 21) C dX10_parted_5 (by decide) hF (fun hF => ?_) (fun hF => ?_)
  · refine kp_ldc2 (n := (-9223372036854775808)) C q5_144 rfl dX10_parted_21 ?_
    exact kp_retl C hr hlk G h dX10_parted_24 hF
  · refine kp_aload_n C dX10_parted_8 rfl (lv_at hl 0 rfl) ?_
    refine kp_iload_n C dX10_parted_9 rfl (lv_at hl 2 rfl) ?_
    obtain ⟨r_1, σ_2, hc, hF⟩ := kp_bd_s hF
    refine kp_ci h (kp_rV (k := 0) (As := [kp_iv a2]) (rest := []) C G h (kc_X10_isNoise  hc) q4_239 q5_1 q0_3_15 q1_11 q5_2 ⟨rfl, hd_X10_isNoise⟩ (by decide) kp_lM0 rfl rfl hl.1 rfl (Nat.le_of_ble_eq_true rfl) dX10_parted_10) (fun H locs h => ?_)
    refine kp_if_eq (tgt := 21) C dX10_parted_13 (by decide) hF (fun hF => ?_) (fun hF => ?_)
    · refine kp_ldc2 (n := (-9223372036854775808)) C q5_144 rfl dX10_parted_21 ?_
      exact kp_retl C hr hlk G h dX10_parted_24 hF
    · refine kp_iload_n C dX10_parted_16 rfl (lv_at hl 1 rfl) ?_
      refine kp_iload_n C dX10_parted_17 rfl (lv_at hl 2 rfl) ?_
      refine kp_icmp_ne (tgt := 25) C dX10_parted_18 (by decide) hF (fun hF => ?_) (fun hF => ?_)
      · refine kp_aload_n C dX10_parted_25 rfl (lv_at hl 0 rfl) ?_
        obtain ⟨r_2, σ_3, hc, hF⟩ := kp_bd_s hF
        refine kp_cv h (kp_rV (k := 0) (As := []) (rest := []) C G h (kc_X10_goes  hc) q5_11 q5_13 q0_4_0 q1_11 q5_14 ⟨rfl, hd_X10_goes⟩ (by decide) kp_lM0 rfl rfl hl.1 rfl (Nat.le_of_ble_eq_true rfl) dX10_parted_26) (fun H locs h => ?_)
        refine kp_lconst (v := 0) C dX10_parted_29 rfl ?_
        refine kp_lstore_n (lv' := fun x3_0 => [(3, kp_jv x3_0), (0, .ref (kp_ad X 0)), (1, kp_iv a1), (2, kp_iv a2)]) C dX10_parted_30 rfl hl (by decide) (fun _ => rfl) hF (fun x3_0 ls hl hF => ?_)
        refine kp_iconst C dX10_parted_31 ?_
        refine kp_istore (lv' := fun x5_0 => [(5, kp_iv x5_0), (3, kp_jv x3_0), (0, .ref (kp_ad X 0)), (1, kp_iv a1), (2, kp_iv a2)]) C dX10_parted_32 hl (by decide) (fun _ => rfl) hF (fun x5_0 ls hl hF => ?_)
        have L34 : ∀ (n : Nat) (x3_1 : Int) (x5_1 : Int) (k : Int → kp_R) (H : Heap) (locs : List Loc) (ls : Array Slot), kp_H X kp_lM 10 s σ_3 H locs → lv_has ls 6 [(0, .ref (kp_ad X 0)), (1, kp_iv a1), (2, kp_iv a2), (3, kp_jv x3_1), (5, kp_iv x5_1)] → (∀ (x3_2 : Int) (H : Heap) (locs : List Loc) (ls : Array Slot), kp_H X kp_lM 10 s σ_3 H locs → lv_has ls 6 [(3, kp_jv x3_2)] → k x3_2 = some (r, σ') → W p l e (kp_rm 6) s m args below meth c H locs 0 0 (MQ below (kp_Ql X kp_lM 10 σ' r) args s 0 0 (kp_A X 10)) (F0 m 101 ls [])) → kl_X10_parted_34 a1 a2 σ_3 n x3_1 x5_1 k = some (r, σ') → W p l e (kp_rm 6) s m args below meth c H locs 0 0 (MQ below (kp_Ql X kp_lM 10 σ' r) args s 0 0 (kp_A X 10)) (F0 m 34 ls []) := by
          intro n
          induction n with
          | zero =>
            intro x3_1 x5_1 k H locs ls h hl K hF
            rw [kl_X10_parted_34] at hF
            cases hF
          | succ n ih =>
            intro x3_1 x5_1 k H locs ls h hl K hF
            rw [kl_X10_parted_34] at hF
            refine kp_iload C dX10_parted_34 (lv_at hl 4 rfl) ?_
            refine kp_bipush C dX10_parted_36 rfl ?_
            refine kp_icmp_ge (tgt := 101) C dX10_parted_38 (by decide) hF (fun hF => ?_) (fun hF => ?_)
            · exact K _ _ _ _ h (lv_sub hl [3] rfl) hF
            · refine kp_lload_n C dX10_parted_41 rfl (lv_at hl 3 rfl) ?_
              refine kp_aload_n C dX10_parted_42 rfl (lv_at hl 0 rfl) ?_
              refine kp_getr C G h kp_lM0 rfl inWX10 (j := 15) (by decide) q4_59 rfl dX10_parted_43 ?_
              refine kp_bipush C dX10_parted_46 rfl ?_
              refine kp_iload_n C dX10_parted_48 rfl (lv_at hl 1 rfl) ?_
              refine kp_imul C dX10_parted_49 ?_
              refine kp_iload C dX10_parted_50 (lv_at hl 4 rfl) ?_
              refine kp_iadd C dX10_parted_52 ?_
              refine kp_iald C G h (n := 400) kp_lM6 (by decide) dX10_parted_53 hF (fun hF => ?_)
              obtain ⟨j62, ej62, hF⟩ := kp_jn_s hF
              have J62 : ∀ (v_0 : Int), ∀ (H : Heap) (locs : List Loc) (ls : Array Slot), kp_H X kp_lM 10 s σ_3 H locs → lv_has ls 6 [(0, .ref (kp_ad X 0)), (1, kp_iv a1), (2, kp_iv a2), (5, kp_iv x5_1)] → j62 v_0 = some (r, σ') → W p l e (kp_rm 6) s m args below meth c H locs 0 0 (MQ below (kp_Ql X kp_lM 10 σ' r) args s 0 0 (kp_A X 10)) (F0 m 62 ls [kp_iv v_0, kp_jv x3_1]) := by
                intro v_0 H locs ls h hl hF
                rw [ej62] at hF
                refine kp_aload_n C dX10_parted_62 rfl (lv_at hl 0 rfl) ?_
                refine kp_getr C G h kp_lM0 rfl inWX10 (j := 15) (by decide) q4_59 rfl dX10_parted_63 ?_
                refine kp_bipush C dX10_parted_66 rfl ?_
                refine kp_iload_n C dX10_parted_68 rfl (lv_at hl 2 rfl) ?_
                refine kp_imul C dX10_parted_69 ?_
                refine kp_iload C dX10_parted_70 (lv_at hl 3 rfl) ?_
                refine kp_iadd C dX10_parted_72 ?_
                refine kp_iald C G h (n := 400) kp_lM6 (by decide) dX10_parted_73 hF (fun hF => ?_)
                obtain ⟨j82, ej82, hF⟩ := kp_jn_s hF
                have J82 : ∀ (v_1 : Int), ∀ (H : Heap) (locs : List Loc) (ls : Array Slot), kp_H X kp_lM 10 s σ_3 H locs → lv_has ls 6 [(0, .ref (kp_ad X 0)), (1, kp_iv a1), (2, kp_iv a2), (5, kp_iv x5_1)] → j82 v_1 = some (r, σ') → W p l e (kp_rm 6) s m args below meth c H locs 0 0 (MQ below (kp_Ql X kp_lM 10 σ' r) args s 0 0 (kp_A X 10)) (F0 m 82 ls [kp_iv v_1, kp_iv v_0, kp_jv x3_1]) := by
                  intro v_1 H locs ls h hl hF
                  rw [ej82] at hF
                  refine kp_icmp_eq (tgt := 92) C dX10_parted_82 (by decide) hF (fun hF => ?_) (fun hF => ?_)
                  · refine kp_lconst (v := 0) C dX10_parted_92 rfl ?_
                    refine kp_xlor C dX10_parted_93 ?_
                    refine kp_lstore_n (lv' := fun x3_3 => [(3, kp_jv x3_3), (0, .ref (kp_ad X 0)), (1, kp_iv a1), (2, kp_iv a2), (5, kp_iv x5_1)]) C dX10_parted_94 rfl hl (by decide) (fun _ => rfl) hF (fun x3_3 ls hl hF => ?_)
                    refine kp_iinc (k := 4) (lv' := fun x5_2 => [(5, kp_iv x5_2), (3, kp_jv x3_3), (0, .ref (kp_ad X 0)), (1, kp_iv a1), (2, kp_iv a2)]) C dX10_parted_95 hl rfl (by decide) (fun _ => rfl) hF (fun x5_2 ls hl hF => ?_)
                    refine kp_goto (tgt := 34) C dX10_parted_98 (by decide) ?_
                    exact ih _ _ k _ _ _ h (lv_sub hl [2, 3, 4, 1, 0] rfl) K hF
                  · refine kp_lconst (v := 1) C dX10_parted_85 rfl ?_
                    refine kp_iload C dX10_parted_86 (lv_at hl 3 rfl) ?_
                    refine kp_xlshl C dX10_parted_88 hF (fun hF => ?_)
                    refine kp_goto (tgt := 93) C dX10_parted_89 (by decide) ?_
                    refine kp_xlor C dX10_parted_93 ?_
                    refine kp_lstore_n (lv' := fun x3_4 => [(3, kp_jv x3_4), (0, .ref (kp_ad X 0)), (1, kp_iv a1), (2, kp_iv a2), (5, kp_iv x5_1)]) C dX10_parted_94 rfl hl (by decide) (fun _ => rfl) hF (fun x3_4 ls hl hF => ?_)
                    refine kp_iinc (k := 4) (lv' := fun x5_3 => [(5, kp_iv x5_3), (3, kp_jv x3_4), (0, .ref (kp_ad X 0)), (1, kp_iv a1), (2, kp_iv a2)]) C dX10_parted_95 hl rfl (by decide) (fun _ => rfl) hF (fun x5_3 ls hl hF => ?_)
                    refine kp_goto (tgt := 34) C dX10_parted_98 (by decide) ?_
                    exact ih _ _ k _ _ _ h (lv_sub hl [2, 3, 4, 1, 0] rfl) K hF
                clear ej82
                refine kp_if_le (tgt := 81) C dX10_parted_74 (by decide) hF (fun hF => ?_) (fun hF => ?_)
                · refine kp_iconst C dX10_parted_81 ?_
                  exact J82 _ _ _ _ h (lv_sub hl [0, 1, 2, 3] rfl) hF
                · refine kp_iconst C dX10_parted_77 ?_
                  refine kp_goto (tgt := 82) C dX10_parted_78 (by decide) ?_
                  exact J82 _ _ _ _ h (lv_sub hl [0, 1, 2, 3] rfl) hF
              clear ej62
              refine kp_if_le (tgt := 61) C dX10_parted_54 (by decide) hF (fun hF => ?_) (fun hF => ?_)
              · refine kp_iconst C dX10_parted_61 ?_
                exact J62 _ _ _ _ h (lv_sub hl [0, 1, 2, 4] rfl) hF
              · refine kp_iconst C dX10_parted_57 ?_
                refine kp_goto (tgt := 62) C dX10_parted_58 (by decide) ?_
                exact J62 _ _ _ _ h (lv_sub hl [0, 1, 2, 4] rfl) hF
        refine L34 kp_fu _ _ _ _ _ _ h (lv_sub hl [2, 3, 4, 1, 0] rfl) (fun x3_2 H locs ls h hl hF => ?_) hF
        clear L34
        refine kp_lload_n C dX10_parted_101 rfl (lv_at hl 0 rfl) ?_
        exact kp_retl C hr hlk G h dX10_parted_102 hF
      · refine kp_ldc2 (n := (-9223372036854775808)) C q5_144 rfl dX10_parted_21 ?_
        exact kp_retl C hr hlk G h dX10_parted_24 hF
def kl_X10_quiet_42 (x3_1 : Int) : Nat → Int → Int → kp_W → (Int → kp_W → kp_R) → kp_R
  | 0, _, _, _, _ => none
  | n + 1, x2_3, x4_1, σ_7, k => kp_ls x4_1 40 (kp_bd (kf_X10_isStill x3_1 σ_7) (fun r_2 σ_9 => kp_eq r_2 0 (kp_ck (0 ≤ ((40 * x3_1) + x4_1) ∧ ((40 * x3_1) + x4_1) < 400) (kp_ls 0 (σ_9 6 (Int.toNat ((40 * x3_1) + x4_1))) (kp_ck (0 ≤ x3_1 ∧ x3_1 < 32) (kp_lt ((kp_or x2_3 (1 * 2 ^ (Int.toNat x3_1))) : Int) (fun x2_7 => kp_lt (x4_1 + 1) (fun x4_4 => kl_X10_quiet_42 x3_1 n x2_7 x4_4 σ_9 k)))) (kp_lt ((kp_or x2_3 0) : Int) (fun x2_6 => kp_lt (x4_1 + 1) (fun x4_3 => kl_X10_quiet_42 x3_1 n x2_6 x4_3 σ_9 k))))) (kp_lt ((kp_or x2_3 0) : Int) (fun x2_5 => kp_lt (x4_1 + 1) (fun x4_2 => kl_X10_quiet_42 x3_1 n x2_5 x4_2 σ_9 k))))) (k x2_3 σ_7)
def kl_X10_quiet_29  : Nat → Int → Int → kp_W → (Int → kp_W → kp_R) → kp_R
  | 0, _, _, _, _ => none
  | n + 1, x2_1, x3_1, σ_5, k => kp_ls x3_1 (σ_5 1 0) (kp_lt (0 : Int) (fun x4_0 => kl_X10_quiet_42 x3_1 kp_fu x2_1 x4_0 σ_5 (fun (x2_4 : Int) (σ_8 : kp_W) => kp_lt (x3_1 + 1) (fun x3_2 => kl_X10_quiet_29 n x2_4 x3_2 σ_8 k)))) (k x2_1 σ_5)
def kf_X10_quiet  (a1 : Int) (σ_0 : kp_W) : kp_R :=
  kp_bd (kf_X10_in a1 0 1 σ_0) (fun r_0 σ_1 => kp_eq r_0 0 (some ((-1), σ_1)) (kp_lt (kp_up σ_1 0 16 1) (fun σ_2 => kp_bd (kf_X10_goes σ_2) (fun r_1 σ_3 => kp_lt (kp_up σ_3 0 16 0) (fun σ_4 => kp_lt (0 : Int) (fun x2_0 => kp_lt (0 : Int) (fun x3_0 => kl_X10_quiet_29 kp_fu x2_0 x3_0 σ_4 (fun (x2_2 : Int) (σ_6 : kp_W) => kp_eq a1 1 (some (x2_2, σ_6)) (kp_eq x2_2 0 (some (1, σ_6)) (some (0, σ_6)))))))))))
set_option maxRecDepth 100000 in
set_option maxHeartbeats 4000000 in
theorem kc_X10_quiet {l : Launch} {X : kp_X} {a1 : Int}  {σ_0 σ' : kp_W} {r : Int}   (hF : (kf_X10_quiet a1 σ_0) = some (r, σ')) : kp_Met l yX10_quiet cX10_quiet 5 (some .int) 6 X kp_lM 10 σ_0 [.ref (kp_ad X 0), kp_iv a1] (kp_Qi X kp_lM 10 σ' r) := by
  refine kp_body pnX10 (Nat.le_of_ble_eq_true rfl) ?_
  intro p e s m args below meth c ls C hr hlk G h hl
  unfold kf_X10_quiet at hF
  have hl : lv_has ls 5 [(0, .ref (kp_ad X 0)), (1, kp_iv a1)] := hl
  refine kp_iload_n C dX10_quiet_0 rfl (lv_at hl 1 rfl) ?_
  refine kp_iconst C dX10_quiet_1 ?_
  refine kp_iconst C dX10_quiet_2 ?_
  obtain ⟨r_0, σ_1, hc, hF⟩ := kp_bd_s hF
  refine kp_ci h (kp_rS (As := [kp_iv a1, kp_iv 0, kp_iv 1]) (rest := []) C G h (kc_X10_in  hc) q4_128 q4_129 q1_11 q4_130 hd_X10_in (by decide) rfl hl.1 rfl (Nat.le_of_ble_eq_true rfl) dX10_quiet_3) (fun H locs h => ?_)
  refine kp_if_ne (tgt := 11) C dX10_quiet_6 (by decide) hF (fun hF => ?_) (fun hF => ?_)
  · refine kp_aload_n C dX10_quiet_11 rfl (lv_at hl 0 rfl) ?_
    refine kp_iconst C dX10_quiet_12 ?_
    have hF := kp_ck_i (c := (1 : Int) = 0 ∨ (1 : Int) = 1) (by decide) hF
    refine kp_putz C G h kp_lM0 rfl inWX10 tyX10 tyX10_ok nmX10 (j := 16) (by decide) q4_60 rfl rfl (by decide +kernel) dX10_quiet_13 hF (fun σ_2 H locs h hF => ?_)
    refine kp_aload_n C dX10_quiet_16 rfl (lv_at hl 0 rfl) ?_
    obtain ⟨r_1, σ_3, hc, hF⟩ := kp_bd_s hF
    refine kp_cv h (kp_rV (k := 0) (As := []) (rest := []) C G h (kc_X10_goes  hc) q5_11 q5_13 q0_4_0 q1_11 q5_14 ⟨rfl, hd_X10_goes⟩ (by decide) kp_lM0 rfl rfl hl.1 rfl (Nat.le_of_ble_eq_true rfl) dX10_quiet_17) (fun H locs h => ?_)
    refine kp_aload_n C dX10_quiet_20 rfl (lv_at hl 0 rfl) ?_
    refine kp_iconst C dX10_quiet_21 ?_
    have hF := kp_ck_i (c := (0 : Int) = 0 ∨ (0 : Int) = 1) (by decide) hF
    refine kp_putz C G h kp_lM0 rfl inWX10 tyX10 tyX10_ok nmX10 (j := 16) (by decide) q4_60 rfl rfl (by decide +kernel) dX10_quiet_22 hF (fun σ_4 H locs h hF => ?_)
    refine kp_iconst C dX10_quiet_25 ?_
    refine kp_istore_n (lv' := fun x2_0 => [(2, kp_iv x2_0), (0, .ref (kp_ad X 0)), (1, kp_iv a1)]) C dX10_quiet_26 rfl hl (by decide) (fun _ => rfl) hF (fun x2_0 ls hl hF => ?_)
    refine kp_iconst C dX10_quiet_27 ?_
    refine kp_istore_n (lv' := fun x3_0 => [(3, kp_iv x3_0), (2, kp_iv x2_0), (0, .ref (kp_ad X 0)), (1, kp_iv a1)]) C dX10_quiet_28 rfl hl (by decide) (fun _ => rfl) hF (fun x3_0 ls hl hF => ?_)
    have L29 : ∀ (n : Nat) (x2_1 : Int) (x3_1 : Int) (σ_5 : kp_W) (k : Int → kp_W → kp_R) (H : Heap) (locs : List Loc) (ls : Array Slot), kp_H X kp_lM 10 s σ_5 H locs → lv_has ls 5 [(0, .ref (kp_ad X 0)), (1, kp_iv a1), (2, kp_iv x2_1), (3, kp_iv x3_1)] → (∀ (x2_2 : Int) (σ_6 : kp_W) (H : Heap) (locs : List Loc) (ls : Array Slot), kp_H X kp_lM 10 s σ_6 H locs → lv_has ls 5 [(1, kp_iv a1), (2, kp_iv x2_2)] → k x2_2 σ_6 = some (r, σ') → W p l e (kp_rm 6) s m args below meth c H locs 0 0 (MQ below (kp_Qi X kp_lM 10 σ' r) args s 0 0 (kp_A X 10)) (F0 m 94 ls [])) → kl_X10_quiet_29 n x2_1 x3_1 σ_5 k = some (r, σ') → W p l e (kp_rm 6) s m args below meth c H locs 0 0 (MQ below (kp_Qi X kp_lM 10 σ' r) args s 0 0 (kp_A X 10)) (F0 m 29 ls []) := by
      intro n
      induction n with
      | zero =>
        intro x2_1 x3_1 σ_5 k H locs ls h hl K hF
        rw [kl_X10_quiet_29] at hF
        cases hF
      | succ n ih =>
        intro x2_1 x3_1 σ_5 k H locs ls h hl K hF
        rw [kl_X10_quiet_29] at hF
        refine kp_iload_n C dX10_quiet_29 rfl (lv_at hl 3 rfl) ?_
        refine kp_aload_n C dX10_quiet_30 rfl (lv_at hl 0 rfl) ?_
        refine kp_getr C G h kp_lM0 rfl inWX10 (j := 1) (by decide) q4_45 rfl dX10_quiet_31 ?_
        refine kp_iconst C dX10_quiet_34 ?_
        refine kp_iald0 C G h (i := 0) (n := 1066) kp_lM1 (by decide) (by decide) dX10_quiet_35 ?_
        refine kp_icmp_ge (tgt := 94) C dX10_quiet_36 (by decide) hF (fun hF => ?_) (fun hF => ?_)
        · exact K _ _ _ _ _ h (lv_sub hl [1, 2] rfl) hF
        · refine kp_iconst C dX10_quiet_39 ?_
          refine kp_istore (lv' := fun x4_0 => [(4, kp_iv x4_0), (0, .ref (kp_ad X 0)), (1, kp_iv a1), (2, kp_iv x2_1), (3, kp_iv x3_1)]) C dX10_quiet_40 hl (by decide) (fun _ => rfl) hF (fun x4_0 ls hl hF => ?_)
          have L42 : ∀ (n : Nat) (x2_3 : Int) (x4_1 : Int) (σ_7 : kp_W) (k : Int → kp_W → kp_R) (H : Heap) (locs : List Loc) (ls : Array Slot), kp_H X kp_lM 10 s σ_7 H locs → lv_has ls 5 [(0, .ref (kp_ad X 0)), (1, kp_iv a1), (2, kp_iv x2_3), (3, kp_iv x3_1), (4, kp_iv x4_1)] → (∀ (x2_4 : Int) (σ_8 : kp_W) (H : Heap) (locs : List Loc) (ls : Array Slot), kp_H X kp_lM 10 s σ_8 H locs → lv_has ls 5 [(0, .ref (kp_ad X 0)), (1, kp_iv a1), (2, kp_iv x2_4), (3, kp_iv x3_1)] → k x2_4 σ_8 = some (r, σ') → W p l e (kp_rm 6) s m args below meth c H locs 0 0 (MQ below (kp_Qi X kp_lM 10 σ' r) args s 0 0 (kp_A X 10)) (F0 m 88 ls [])) → kl_X10_quiet_42 x3_1 n x2_3 x4_1 σ_7 k = some (r, σ') → W p l e (kp_rm 6) s m args below meth c H locs 0 0 (MQ below (kp_Qi X kp_lM 10 σ' r) args s 0 0 (kp_A X 10)) (F0 m 42 ls []) := by
            intro n
            induction n with
            | zero =>
              intro x2_3 x4_1 σ_7 k H locs ls h hl K hF
              rw [kl_X10_quiet_42] at hF
              cases hF
            | succ n ih =>
              intro x2_3 x4_1 σ_7 k H locs ls h hl K hF
              rw [kl_X10_quiet_42] at hF
              refine kp_iload C dX10_quiet_42 (lv_at hl 4 rfl) ?_
              refine kp_bipush C dX10_quiet_44 rfl ?_
              refine kp_icmp_ge (tgt := 88) C dX10_quiet_46 (by decide) hF (fun hF => ?_) (fun hF => ?_)
              · exact K _ _ _ _ _ h (lv_sub hl [0, 1, 2, 3] rfl) hF
              · refine kp_iload_n C dX10_quiet_49 rfl (lv_at hl 2 rfl) ?_
                refine kp_aload_n C dX10_quiet_50 rfl (lv_at hl 0 rfl) ?_
                refine kp_iload_n C dX10_quiet_51 rfl (lv_at hl 3 rfl) ?_
                obtain ⟨r_2, σ_9, hc, hF⟩ := kp_bd_s hF
                refine kp_ci h (kp_rV (k := 0) (As := [kp_iv x3_1]) (rest := [kp_iv x2_3]) C G h (kc_X10_isStill  hc) q5_46 q5_48 q0_4_8 q1_11 q5_49 ⟨rfl, hd_X10_isStill⟩ (by decide) kp_lM0 rfl rfl hl.1 rfl (Nat.le_of_ble_eq_true rfl) dX10_quiet_52) (fun H locs h => ?_)
                refine kp_if_ne (tgt := 79) C dX10_quiet_55 (by decide) hF (fun hF => ?_) (fun hF => ?_)
                · refine kp_iconst C dX10_quiet_79 ?_
                  refine kp_xior C dX10_quiet_80 ?_
                  refine kp_istore_n (lv' := fun x2_5 => [(2, kp_iv x2_5), (0, .ref (kp_ad X 0)), (1, kp_iv a1), (3, kp_iv x3_1), (4, kp_iv x4_1)]) C dX10_quiet_81 rfl hl (by decide) (fun _ => rfl) hF (fun x2_5 ls hl hF => ?_)
                  refine kp_iinc (k := 4) (lv' := fun x4_2 => [(4, kp_iv x4_2), (2, kp_iv x2_5), (0, .ref (kp_ad X 0)), (1, kp_iv a1), (3, kp_iv x3_1)]) C dX10_quiet_82 hl rfl (by decide) (fun _ => rfl) hF (fun x4_2 ls hl hF => ?_)
                  refine kp_goto (tgt := 42) C dX10_quiet_85 (by decide) ?_
                  exact ih _ _ _ k _ _ _ h (lv_sub hl [2, 3, 1, 4, 0] rfl) K hF
                · refine kp_aload_n C dX10_quiet_58 rfl (lv_at hl 0 rfl) ?_
                  refine kp_getr C G h kp_lM0 rfl inWX10 (j := 15) (by decide) q4_59 rfl dX10_quiet_59 ?_
                  refine kp_bipush C dX10_quiet_62 rfl ?_
                  refine kp_iload_n C dX10_quiet_64 rfl (lv_at hl 3 rfl) ?_
                  refine kp_imul C dX10_quiet_65 ?_
                  refine kp_iload C dX10_quiet_66 (lv_at hl 4 rfl) ?_
                  refine kp_iadd C dX10_quiet_68 ?_
                  refine kp_iald C G h (n := 400) kp_lM6 (by decide) dX10_quiet_69 hF (fun hF => ?_)
                  refine kp_if_le (tgt := 79) C dX10_quiet_70 (by decide) hF (fun hF => ?_) (fun hF => ?_)
                  · refine kp_iconst C dX10_quiet_79 ?_
                    refine kp_xior C dX10_quiet_80 ?_
                    refine kp_istore_n (lv' := fun x2_6 => [(2, kp_iv x2_6), (0, .ref (kp_ad X 0)), (1, kp_iv a1), (3, kp_iv x3_1), (4, kp_iv x4_1)]) C dX10_quiet_81 rfl hl (by decide) (fun _ => rfl) hF (fun x2_6 ls hl hF => ?_)
                    refine kp_iinc (k := 4) (lv' := fun x4_3 => [(4, kp_iv x4_3), (2, kp_iv x2_6), (0, .ref (kp_ad X 0)), (1, kp_iv a1), (3, kp_iv x3_1)]) C dX10_quiet_82 hl rfl (by decide) (fun _ => rfl) hF (fun x4_3 ls hl hF => ?_)
                    refine kp_goto (tgt := 42) C dX10_quiet_85 (by decide) ?_
                    exact ih _ _ _ k _ _ _ h (lv_sub hl [2, 3, 1, 4, 0] rfl) K hF
                  · refine kp_iconst C dX10_quiet_73 ?_
                    refine kp_iload_n C dX10_quiet_74 rfl (lv_at hl 3 rfl) ?_
                    refine kp_xishl C dX10_quiet_75 hF (fun hF => ?_)
                    refine kp_goto (tgt := 80) C dX10_quiet_76 (by decide) ?_
                    refine kp_xior C dX10_quiet_80 ?_
                    refine kp_istore_n (lv' := fun x2_7 => [(2, kp_iv x2_7), (0, .ref (kp_ad X 0)), (1, kp_iv a1), (3, kp_iv x3_1), (4, kp_iv x4_1)]) C dX10_quiet_81 rfl hl (by decide) (fun _ => rfl) hF (fun x2_7 ls hl hF => ?_)
                    refine kp_iinc (k := 4) (lv' := fun x4_4 => [(4, kp_iv x4_4), (2, kp_iv x2_7), (0, .ref (kp_ad X 0)), (1, kp_iv a1), (3, kp_iv x3_1)]) C dX10_quiet_82 hl rfl (by decide) (fun _ => rfl) hF (fun x4_4 ls hl hF => ?_)
                    refine kp_goto (tgt := 42) C dX10_quiet_85 (by decide) ?_
                    exact ih _ _ _ k _ _ _ h (lv_sub hl [2, 3, 1, 4, 0] rfl) K hF
          refine L42 kp_fu _ _ _ _ _ _ _ h (lv_sub hl [1, 2, 3, 4, 0] rfl) (fun x2_4 σ_8 H locs ls h hl hF => ?_) hF
          clear L42
          refine kp_iinc (k := 3) (lv' := fun x3_2 => [(3, kp_iv x3_2), (0, .ref (kp_ad X 0)), (1, kp_iv a1), (2, kp_iv x2_4)]) C dX10_quiet_88 hl rfl (by decide) (fun _ => rfl) hF (fun x3_2 ls hl hF => ?_)
          refine kp_goto (tgt := 29) C dX10_quiet_91 (by decide) ?_
          exact ih _ _ _ k _ _ _ h (lv_sub hl [1, 2, 3, 0] rfl) K hF
    refine L29 kp_fu _ _ _ _ _ _ _ h (lv_sub hl [2, 3, 1, 0] rfl) (fun x2_2 σ_6 H locs ls h hl hF => ?_) hF
    clear L29
    refine kp_iload_n C dX10_quiet_94 rfl (lv_at hl 0 rfl) ?_
    refine kp_iconst C dX10_quiet_95 ?_
    refine kp_icmp_ne (tgt := 103) C dX10_quiet_96 (by decide) hF (fun hF => ?_) (fun hF => ?_)
    · refine kp_iload_n C dX10_quiet_103 rfl (lv_at hl 1 rfl) ?_
      refine kp_if_ne (tgt := 111) C dX10_quiet_104 (by decide) hF (fun hF => ?_) (fun hF => ?_)
      · refine kp_iconst C dX10_quiet_111 ?_
        exact kp_reti C hr hlk G h dX10_quiet_112 hF
      · refine kp_iconst C dX10_quiet_107 ?_
        refine kp_goto (tgt := 112) C dX10_quiet_108 (by decide) ?_
        exact kp_reti C hr hlk G h dX10_quiet_112 hF
    · refine kp_iload_n C dX10_quiet_99 rfl (lv_at hl 1 rfl) ?_
      refine kp_goto (tgt := 112) C dX10_quiet_100 (by decide) ?_
      exact kp_reti C hr hlk G h dX10_quiet_112 hF
  · refine kp_iconst C dX10_quiet_9 ?_
    exact kp_reti C hr hlk G h dX10_quiet_10 hF
def kl_X10_moved_37 (a1 : Int) (a2 : Int) : Nat → Int → Int → Int → kp_W → (Int → kp_W → kp_R) → kp_R
  | 0, _, _, _, _, _ => none
  | n + 1, x4_1, x5_1, x6_1, σ_3, k => kp_ls x6_1 10 (kp_ck (0 ≤ (260 + a1) ∧ (260 + a1) < 1066) (kp_lt (kp_up σ_3 1 (Int.toNat (260 + a1)) x6_1) (fun σ_6 => kp_bd (kf_X10_goes σ_6) (fun r_2 σ_7 => kp_bd (kf_X10_moving σ_7) (fun r_3 σ_8 => kp_bd (kf_X10_heardAll r_3 a2 σ_8) (fun r_4 σ_9 => kp_lt (r_4 : Int) (fun x7_0 => kp_jn (fun (v_0 : Int) => kp_lt (v_0 : Int) (fun x4_3 => kp_eq x6_1 0 (kp_lt (x7_0 : Int) (fun x5_2 => kp_lt (x6_1 + 1) (fun x6_2 => kl_X10_moved_37 a1 a2 n x4_3 x5_2 x6_2 σ_9 k))) (kp_ls x7_0 x5_1 (kp_lt (x7_0 : Int) (fun x5_4 => kp_lt (x6_1 + 1) (fun x6_4 => kl_X10_moved_37 a1 a2 n x4_3 x5_4 x6_4 σ_9 k))) (kp_lt (x5_1 : Int) (fun x5_3 => kp_lt (x6_1 + 1) (fun x6_3 => kl_X10_moved_37 a1 a2 n x4_3 x5_3 x6_3 σ_9 k)))))) (fun j90 => kp_jn (fun (_ : Unit) => j90 x6_1) (fun j83 => kp_eq x6_1 0 (j83 ()) (kp_ls x7_0 x5_1 (j83 ()) (j90 x4_1))))))))))) (k x4_1 σ_3)
def kf_X10_moved  (a1 : Int) (a2 : Int) (σ_0 : kp_W) : kp_R :=
  kp_bd (kf_X10_isNoise a1 σ_0) (fun r_0 σ_1 => kp_eq r_0 0 (some ((-1), σ_1)) (kp_bd (kf_X10_isPlace a2 σ_1) (fun r_1 σ_2 => kp_eq r_1 0 (some ((-1), σ_2)) (kp_ck (0 ≤ (260 + a1) ∧ (260 + a1) < 1066) (kp_lt ((σ_2 1 (Int.toNat (260 + a1))) : Int) (fun x3_0 => kp_lt (0 : Int) (fun x4_0 => kp_lt (0 : Int) (fun x5_0 => kp_lt (0 : Int) (fun x6_0 => kl_X10_moved_37 a1 a2 kp_fu x4_0 x5_0 x6_0 σ_2 (fun (x4_2 : Int) (σ_4 : kp_W) => kp_ck (0 ≤ (260 + a1) ∧ (260 + a1) < 1066) (kp_lt (kp_up σ_4 1 (Int.toNat (260 + a1)) x3_0) (fun σ_5 => some (x4_2, σ_5)))))))))))))
set_option maxRecDepth 100000 in
set_option maxHeartbeats 4000000 in
theorem kc_X10_moved {l : Launch} {X : kp_X} {a1 : Int} {a2 : Int}  {σ_0 σ' : kp_W} {r : Int}   (hF : (kf_X10_moved a1 a2 σ_0) = some (r, σ')) : kp_Met l yX10_moved cX10_moved 8 (some .int) 6 X kp_lM 10 σ_0 [.ref (kp_ad X 0), kp_iv a1, kp_iv a2] (kp_Qi X kp_lM 10 σ' r) := by
  refine kp_body pnX10 (Nat.le_of_ble_eq_true rfl) ?_
  intro p e s m args below meth c ls C hr hlk G h hl
  unfold kf_X10_moved at hF
  have hl : lv_has ls 8 [(0, .ref (kp_ad X 0)), (1, kp_iv a1), (2, kp_iv a2)] := hl
  refine kp_aload_n C dX10_moved_0 rfl (lv_at hl 0 rfl) ?_
  refine kp_iload_n C dX10_moved_1 rfl (lv_at hl 1 rfl) ?_
  obtain ⟨r_0, σ_1, hc, hF⟩ := kp_bd_s hF
  refine kp_ci h (kp_rV (k := 0) (As := [kp_iv a1]) (rest := []) C G h (kc_X10_isNoise  hc) q4_239 q5_1 q0_3_15 q1_11 q5_2 ⟨rfl, hd_X10_isNoise⟩ (by decide) kp_lM0 rfl rfl hl.1 rfl (Nat.le_of_ble_eq_true rfl) dX10_moved_2) (fun H locs h => ?_)
  refine kp_if_eq (tgt := 15) C dX10_moved_5 (by decide) hF (fun hF => ?_) (fun hF => ?_)
  · refine kp_iconst C dX10_moved_15 ?_
    exact kp_reti C hr hlk G h dX10_moved_16 hF
  · refine kp_iload_n C dX10_moved_8 rfl (lv_at hl 2 rfl) ?_
    obtain ⟨r_1, σ_2, hc, hF⟩ := kp_bd_s hF
    refine kp_ci h (kp_rS (As := [kp_iv a2]) (rest := []) C G h (kc_X10_isPlace  hc) q4_232 q4_233 q1_11 q4_234 hd_X10_isPlace (by decide) rfl hl.1 rfl (Nat.le_of_ble_eq_true rfl) dX10_moved_9) (fun H locs h => ?_)
    refine kp_if_ne (tgt := 17) C dX10_moved_12 (by decide) hF (fun hF => ?_) (fun hF => ?_)
    · refine kp_aload_n C dX10_moved_17 rfl (lv_at hl 0 rfl) ?_
      refine kp_getr C G h kp_lM0 rfl inWX10 (j := 1) (by decide) q4_45 rfl dX10_moved_18 ?_
      refine kp_sipush C dX10_moved_21 rfl ?_
      refine kp_iload_n C dX10_moved_24 rfl (lv_at hl 1 rfl) ?_
      refine kp_iadd C dX10_moved_25 ?_
      refine kp_iald C G h (n := 1066) kp_lM1 (by decide) dX10_moved_26 hF (fun hF => ?_)
      refine kp_istore_n (lv' := fun x3_0 => [(3, kp_iv x3_0), (0, .ref (kp_ad X 0)), (1, kp_iv a1), (2, kp_iv a2)]) C dX10_moved_27 rfl hl (by decide) (fun _ => rfl) hF (fun x3_0 ls hl hF => ?_)
      refine kp_iconst C dX10_moved_28 ?_
      refine kp_istore (lv' := fun x4_0 => [(4, kp_iv x4_0), (3, kp_iv x3_0), (0, .ref (kp_ad X 0)), (1, kp_iv a1), (2, kp_iv a2)]) C dX10_moved_29 hl (by decide) (fun _ => rfl) hF (fun x4_0 ls hl hF => ?_)
      refine kp_iconst C dX10_moved_31 ?_
      refine kp_istore (lv' := fun x5_0 => [(5, kp_iv x5_0), (4, kp_iv x4_0), (3, kp_iv x3_0), (0, .ref (kp_ad X 0)), (1, kp_iv a1), (2, kp_iv a2)]) C dX10_moved_32 hl (by decide) (fun _ => rfl) hF (fun x5_0 ls hl hF => ?_)
      refine kp_iconst C dX10_moved_34 ?_
      refine kp_istore (lv' := fun x6_0 => [(6, kp_iv x6_0), (5, kp_iv x5_0), (4, kp_iv x4_0), (3, kp_iv x3_0), (0, .ref (kp_ad X 0)), (1, kp_iv a1), (2, kp_iv a2)]) C dX10_moved_35 hl (by decide) (fun _ => rfl) hF (fun x6_0 ls hl hF => ?_)
      have L37 : ∀ (n : Nat) (x4_1 : Int) (x5_1 : Int) (x6_1 : Int) (σ_3 : kp_W) (k : Int → kp_W → kp_R) (H : Heap) (locs : List Loc) (ls : Array Slot), kp_H X kp_lM 10 s σ_3 H locs → lv_has ls 8 [(0, .ref (kp_ad X 0)), (1, kp_iv a1), (2, kp_iv a2), (3, kp_iv x3_0), (4, kp_iv x4_1), (5, kp_iv x5_1), (6, kp_iv x6_1)] → (∀ (x4_2 : Int) (σ_4 : kp_W) (H : Heap) (locs : List Loc) (ls : Array Slot), kp_H X kp_lM 10 s σ_4 H locs → lv_has ls 8 [(0, .ref (kp_ad X 0)), (1, kp_iv a1), (3, kp_iv x3_0), (4, kp_iv x4_2)] → k x4_2 σ_4 = some (r, σ') → W p l e (kp_rm 6) s m args below meth c H locs 0 0 (MQ below (kp_Qi X kp_lM 10 σ' r) args s 0 0 (kp_A X 10)) (F0 m 119 ls [])) → kl_X10_moved_37 a1 a2 n x4_1 x5_1 x6_1 σ_3 k = some (r, σ') → W p l e (kp_rm 6) s m args below meth c H locs 0 0 (MQ below (kp_Qi X kp_lM 10 σ' r) args s 0 0 (kp_A X 10)) (F0 m 37 ls []) := by
        intro n
        induction n with
        | zero =>
          intro x4_1 x5_1 x6_1 σ_3 k H locs ls h hl K hF
          rw [kl_X10_moved_37] at hF
          cases hF
        | succ n ih =>
          intro x4_1 x5_1 x6_1 σ_3 k H locs ls h hl K hF
          rw [kl_X10_moved_37] at hF
          refine kp_iload C dX10_moved_37 (lv_at hl 6 rfl) ?_
          refine kp_bipush C dX10_moved_39 rfl ?_
          refine kp_icmp_ge (tgt := 119) C dX10_moved_41 (by decide) hF (fun hF => ?_) (fun hF => ?_)
          · exact K _ _ _ _ _ h (lv_sub hl [0, 1, 3, 4] rfl) hF
          · refine kp_aload_n C dX10_moved_44 rfl (lv_at hl 0 rfl) ?_
            refine kp_getr C G h kp_lM0 rfl inWX10 (j := 1) (by decide) q4_45 rfl dX10_moved_45 ?_
            refine kp_sipush C dX10_moved_48 rfl ?_
            refine kp_iload_n C dX10_moved_51 rfl (lv_at hl 1 rfl) ?_
            refine kp_iadd C dX10_moved_52 ?_
            refine kp_iload C dX10_moved_53 (lv_at hl 6 rfl) ?_
            refine kp_iast C G h (n := 1066) kp_lM1 (by decide) dX10_moved_55 hF (fun σ_6 H locs h hF => ?_)
            refine kp_aload_n C dX10_moved_56 rfl (lv_at hl 0 rfl) ?_
            obtain ⟨r_2, σ_7, hc, hF⟩ := kp_bd_s hF
            refine kp_cv h (kp_rV (k := 0) (As := []) (rest := []) C G h (kc_X10_goes  hc) q5_11 q5_13 q0_4_0 q1_11 q5_14 ⟨rfl, hd_X10_goes⟩ (by decide) kp_lM0 rfl rfl hl.1 rfl (Nat.le_of_ble_eq_true rfl) dX10_moved_57) (fun H locs h => ?_)
            refine kp_aload_n C dX10_moved_60 rfl (lv_at hl 0 rfl) ?_
            refine kp_aload_n C dX10_moved_61 rfl (lv_at hl 0 rfl) ?_
            obtain ⟨r_3, σ_8, hc, hF⟩ := kp_bd_s hF
            refine kp_ci h (kp_rV (k := 0) (As := []) (rest := [.ref (kp_ad X 0)]) C G h (kc_X10_moving  hc) q5_66 q5_68 q0_4_11 q1_11 q5_69 ⟨rfl, hd_X10_moving⟩ (by decide) kp_lM0 rfl rfl hl.1 rfl (Nat.le_of_ble_eq_true rfl) dX10_moved_62) (fun H locs h => ?_)
            refine kp_iload_n C dX10_moved_65 rfl (lv_at hl 2 rfl) ?_
            obtain ⟨r_4, σ_9, hc, hF⟩ := kp_bd_s hF
            refine kp_ci h (kp_rV (k := 0) (As := [kp_iv r_3, kp_iv a2]) (rest := []) C G h (kc_X10_heardAll  hc) q5_70 q5_72 q0_4_12 q1_11 q5_73 ⟨rfl, hd_X10_heardAll⟩ (by decide) kp_lM0 rfl rfl hl.1 rfl (Nat.le_of_ble_eq_true rfl) dX10_moved_66) (fun H locs h => ?_)
            refine kp_istore (lv' := fun x7_0 => [(7, kp_iv x7_0), (0, .ref (kp_ad X 0)), (1, kp_iv a1), (2, kp_iv a2), (3, kp_iv x3_0), (4, kp_iv x4_1), (5, kp_iv x5_1), (6, kp_iv x6_1)]) C dX10_moved_69 hl (by decide) (fun _ => rfl) hF (fun x7_0 ls hl hF => ?_)
            refine kp_iload C dX10_moved_71 (lv_at hl 7 rfl) ?_
            obtain ⟨j90, ej90, hF⟩ := kp_jn_s hF
            have J90 : ∀ (v_0 : Int), ∀ (H : Heap) (locs : List Loc) (ls : Array Slot), kp_H X kp_lM 10 s σ_9 H locs → lv_has ls 8 [(0, .ref (kp_ad X 0)), (1, kp_iv a1), (2, kp_iv a2), (3, kp_iv x3_0), (5, kp_iv x5_1), (6, kp_iv x6_1), (7, kp_iv x7_0)] → j90 v_0 = some (r, σ') → W p l e (kp_rm 6) s m args below meth c H locs 0 0 (MQ below (kp_Qi X kp_lM 10 σ' r) args s 0 0 (kp_A X 10)) (F0 m 90 ls [kp_iv v_0]) := by
              intro v_0 H locs ls h hl hF
              rw [ej90] at hF
              refine kp_istore (lv' := fun x4_3 => [(4, kp_iv x4_3), (0, .ref (kp_ad X 0)), (1, kp_iv a1), (2, kp_iv a2), (3, kp_iv x3_0), (5, kp_iv x5_1), (6, kp_iv x6_1), (7, kp_iv x7_0)]) C dX10_moved_90 hl (by decide) (fun _ => rfl) hF (fun x4_3 ls hl hF => ?_)
              refine kp_iload C dX10_moved_92 (lv_at hl 6 rfl) ?_
              refine kp_if_eq (tgt := 104) C dX10_moved_94 (by decide) hF (fun hF => ?_) (fun hF => ?_)
              · refine kp_iload C dX10_moved_104 (lv_at hl 7 rfl) ?_
                refine kp_goto (tgt := 111) C dX10_moved_106 (by decide) ?_
                refine kp_istore (lv' := fun x5_2 => [(5, kp_iv x5_2), (4, kp_iv x4_3), (0, .ref (kp_ad X 0)), (1, kp_iv a1), (2, kp_iv a2), (3, kp_iv x3_0), (6, kp_iv x6_1), (7, kp_iv x7_0)]) C dX10_moved_111 hl (by decide) (fun _ => rfl) hF (fun x5_2 ls hl hF => ?_)
                refine kp_iinc (k := 6) (lv' := fun x6_2 => [(6, kp_iv x6_2), (5, kp_iv x5_2), (4, kp_iv x4_3), (0, .ref (kp_ad X 0)), (1, kp_iv a1), (2, kp_iv a2), (3, kp_iv x3_0), (7, kp_iv x7_0)]) C dX10_moved_113 hl rfl (by decide) (fun _ => rfl) hF (fun x6_2 ls hl hF => ?_)
                refine kp_goto (tgt := 37) C dX10_moved_116 (by decide) ?_
                exact ih _ _ _ _ k _ _ _ h (lv_sub hl [3, 4, 5, 6, 2, 1, 0] rfl) K hF
              · refine kp_iload C dX10_moved_97 (lv_at hl 7 rfl) ?_
                refine kp_iload C dX10_moved_99 (lv_at hl 5 rfl) ?_
                refine kp_icmp_ge (tgt := 109) C dX10_moved_101 (by decide) hF (fun hF => ?_) (fun hF => ?_)
                · refine kp_iload C dX10_moved_109 (lv_at hl 5 rfl) ?_
                  refine kp_istore (lv' := fun x5_3 => [(5, kp_iv x5_3), (4, kp_iv x4_3), (0, .ref (kp_ad X 0)), (1, kp_iv a1), (2, kp_iv a2), (3, kp_iv x3_0), (6, kp_iv x6_1), (7, kp_iv x7_0)]) C dX10_moved_111 hl (by decide) (fun _ => rfl) hF (fun x5_3 ls hl hF => ?_)
                  refine kp_iinc (k := 6) (lv' := fun x6_3 => [(6, kp_iv x6_3), (5, kp_iv x5_3), (4, kp_iv x4_3), (0, .ref (kp_ad X 0)), (1, kp_iv a1), (2, kp_iv a2), (3, kp_iv x3_0), (7, kp_iv x7_0)]) C dX10_moved_113 hl rfl (by decide) (fun _ => rfl) hF (fun x6_3 ls hl hF => ?_)
                  refine kp_goto (tgt := 37) C dX10_moved_116 (by decide) ?_
                  exact ih _ _ _ _ k _ _ _ h (lv_sub hl [3, 4, 5, 6, 2, 1, 0] rfl) K hF
                · refine kp_iload C dX10_moved_104 (lv_at hl 7 rfl) ?_
                  refine kp_goto (tgt := 111) C dX10_moved_106 (by decide) ?_
                  refine kp_istore (lv' := fun x5_4 => [(5, kp_iv x5_4), (4, kp_iv x4_3), (0, .ref (kp_ad X 0)), (1, kp_iv a1), (2, kp_iv a2), (3, kp_iv x3_0), (6, kp_iv x6_1), (7, kp_iv x7_0)]) C dX10_moved_111 hl (by decide) (fun _ => rfl) hF (fun x5_4 ls hl hF => ?_)
                  refine kp_iinc (k := 6) (lv' := fun x6_4 => [(6, kp_iv x6_4), (5, kp_iv x5_4), (4, kp_iv x4_3), (0, .ref (kp_ad X 0)), (1, kp_iv a1), (2, kp_iv a2), (3, kp_iv x3_0), (7, kp_iv x7_0)]) C dX10_moved_113 hl rfl (by decide) (fun _ => rfl) hF (fun x6_4 ls hl hF => ?_)
                  refine kp_goto (tgt := 37) C dX10_moved_116 (by decide) ?_
                  exact ih _ _ _ _ k _ _ _ h (lv_sub hl [3, 4, 5, 6, 2, 1, 0] rfl) K hF
            clear ej90
            obtain ⟨j83, ej83, hF⟩ := kp_jn_s hF
            have J83 : ∀ _ : Unit, ∀ (H : Heap) (locs : List Loc) (ls : Array Slot), kp_H X kp_lM 10 s σ_9 H locs → lv_has ls 8 [(0, .ref (kp_ad X 0)), (1, kp_iv a1), (2, kp_iv a2), (3, kp_iv x3_0), (5, kp_iv x5_1), (6, kp_iv x6_1), (7, kp_iv x7_0)] → j83 () = some (r, σ') → W p l e (kp_rm 6) s m args below meth c H locs 0 0 (MQ below (kp_Qi X kp_lM 10 σ' r) args s 0 0 (kp_A X 10)) (F0 m 83 ls []) := by
              intro _ H locs ls h hl hF
              rw [ej83] at hF
              refine kp_iload C dX10_moved_83 (lv_at hl 5 rfl) ?_
              refine kp_goto (tgt := 90) C dX10_moved_85 (by decide) ?_
              exact J90 _ _ _ _ h (lv_sub hl [0, 1, 2, 3, 4, 5, 6] rfl) hF
            clear ej83
            refine kp_if_eq (tgt := 83) C dX10_moved_73 (by decide) hF (fun hF => ?_) (fun hF => ?_)
            · exact J83 () _ _ _ h (lv_sub hl [1, 2, 3, 4, 6, 7, 0] rfl) hF
            · refine kp_iload C dX10_moved_76 (lv_at hl 0 rfl) ?_
              refine kp_iload C dX10_moved_78 (lv_at hl 6 rfl) ?_
              refine kp_icmp_ge (tgt := 88) C dX10_moved_80 (by decide) hF (fun hF => ?_) (fun hF => ?_)
              · refine kp_iload C dX10_moved_88 (lv_at hl 5 rfl) ?_
                exact J90 _ _ _ _ h (lv_sub hl [1, 2, 3, 4, 6, 7, 0] rfl) hF
              · exact J83 () _ _ _ h (lv_sub hl [1, 2, 3, 4, 6, 7, 0] rfl) hF
      refine L37 kp_fu _ _ _ _ _ _ _ _ h (lv_sub hl [4, 5, 6, 3, 2, 1, 0] rfl) (fun x4_2 σ_4 H locs ls h hl hF => ?_) hF
      clear L37
      refine kp_aload_n C dX10_moved_119 rfl (lv_at hl 0 rfl) ?_
      refine kp_getr C G h kp_lM0 rfl inWX10 (j := 1) (by decide) q4_45 rfl dX10_moved_120 ?_
      refine kp_sipush C dX10_moved_123 rfl ?_
      refine kp_iload_n C dX10_moved_126 rfl (lv_at hl 1 rfl) ?_
      refine kp_iadd C dX10_moved_127 ?_
      refine kp_iload_n C dX10_moved_128 rfl (lv_at hl 2 rfl) ?_
      refine kp_iast C G h (n := 1066) kp_lM1 (by decide) dX10_moved_129 hF (fun σ_5 H locs h hF => ?_)
      refine kp_iload C dX10_moved_130 (lv_at hl 3 rfl) ?_
      exact kp_reti C hr hlk G h dX10_moved_132 hF
    · refine kp_iconst C dX10_moved_15 ?_
      exact kp_reti C hr hlk G h dX10_moved_16 hF
