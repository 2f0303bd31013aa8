-- by program (wip/whole/gen/drive.py)
def kl_X10_goes_6  : Nat → Int → kp_W → (kp_W → kp_R) → kp_R
  | 0, _, _, _ => none
  | n + 1, x1_1, σ_2, k => kp_ls x1_1 (σ_2 1 0) (kp_bd (kf_X10_goesOf x1_1 σ_2) (fun r_1 σ_4 => kp_lt (x1_1 + 1) (fun x1_2 => kl_X10_goes_6 n x1_2 σ_4 k))) (k σ_2)
def kf_X10_goes   (σ_0 : kp_W) : kp_R :=
  kp_bd (kf_X10_warms σ_0) (fun r_0 σ_1 => kp_lt (0 : Int) (fun x1_0 => kl_X10_goes_6 kp_fu x1_0 σ_1 (fun (σ_3 : kp_W) => some (0, σ_3))))
set_option maxRecDepth 100000 in
set_option maxHeartbeats 4000000 in
theorem kc_X10_goes {l : Launch} {X : kp_X}  {σ_0 σ' : kp_W} {r : Int}   (hF : (kf_X10_goes σ_0) = some (r, σ')) : kp_Met l yX10_goes cX10_goes 2 none 5 X kp_lM 10 σ_0 [.ref (kp_ad X 0)] (kp_Qv X kp_lM 10 σ') := by
  refine kp_body pnX10 (Nat.le_of_ble_eq_true rfl) ?_
  intro p e s m args below meth c ls C hr hlk G h hl
  unfold kf_X10_goes at hF
  have hl : lv_has ls 2 [(0, .ref (kp_ad X 0))] := hl
  refine kp_aload_n C dX10_goes_0 rfl (lv_at hl 0 rfl) ?_
  obtain ⟨r_0, σ_1, hc, hF⟩ := kp_bd_s hF
  refine kp_cv h (kp_rV (k := 0) (As := []) (rest := []) C G h (kc_X10_warms  hc) q4_219 q4_221 q0_3_13 q1_11 q4_222 ⟨rfl, hd_X10_warms⟩ (by decide) kp_lM0 rfl rfl hl.1 rfl (Nat.le_of_ble_eq_true rfl) dX10_goes_1) (fun H locs h => ?_)
  refine kp_iconst C dX10_goes_4 ?_
  refine kp_istore_n (lv' := fun x1_0 => [(1, kp_iv x1_0), (0, .ref (kp_ad X 0))]) C dX10_goes_5 rfl hl (by decide) (fun _ => rfl) hF (fun x1_0 ls hl hF => ?_)
  have L6 : ∀ (n : Nat) (x1_1 : Int) (σ_2 : kp_W) (k : kp_W → kp_R) (H : Heap) (locs : List Loc) (ls : Array Slot), kp_H X kp_lM 10 s σ_2 H locs → lv_has ls 2 [(0, .ref (kp_ad X 0)), (1, kp_iv x1_1)] → (∀ (σ_3 : kp_W) (H : Heap) (locs : List Loc) (ls : Array Slot), kp_H X kp_lM 10 s σ_3 H locs → lv_has ls 2 [] → k σ_3 = some (r, σ') → W p l e (kp_rm 5) s m args below meth c H locs 0 0 (MQ below (kp_Qv X kp_lM 10 σ') args s 0 0 (kp_A X 10)) (F0 m 27 ls [])) → kl_X10_goes_6 n x1_1 σ_2 k = some (r, σ') → W p l e (kp_rm 5) s m args below meth c H locs 0 0 (MQ below (kp_Qv X kp_lM 10 σ') args s 0 0 (kp_A X 10)) (F0 m 6 ls []) := by
    intro n
    induction n with
    | zero =>
      intro x1_1 σ_2 k H locs ls h hl K hF
      rw [kl_X10_goes_6] at hF
      cases hF
    | succ n ih =>
      intro x1_1 σ_2 k H locs ls h hl K hF
      rw [kl_X10_goes_6] at hF
      refine kp_iload_n C dX10_goes_6 rfl (lv_at hl 1 rfl) ?_
      refine kp_aload_n C dX10_goes_7 rfl (lv_at hl 0 rfl) ?_
      refine kp_getr C G h kp_lM0 rfl inWX10 (j := 1) (by decide) q4_45 rfl dX10_goes_8 ?_
      refine kp_iconst C dX10_goes_11 ?_
      refine kp_iald0 C G h (i := 0) (n := 1066) kp_lM1 (by decide) (by decide) dX10_goes_12 ?_
      refine kp_icmp_ge (tgt := 27) C dX10_goes_13 (by decide) hF (fun hF => ?_) (fun hF => ?_)
      · exact K _ _ _ _ h (lv_sub hl [] rfl) hF
      · refine kp_aload_n C dX10_goes_16 rfl (lv_at hl 0 rfl) ?_
        refine kp_iload_n C dX10_goes_17 rfl (lv_at hl 1 rfl) ?_
        obtain ⟨r_1, σ_4, hc, hF⟩ := kp_bd_s hF
        refine kp_cv h (kp_rV (k := 0) (As := [kp_iv x1_1]) (rest := []) C G h (kc_X10_goesOf  hc) q5_15 q5_17 q0_4_1 q1_11 q5_18 ⟨rfl, hd_X10_goesOf⟩ (by decide) kp_lM0 rfl rfl hl.1 rfl (Nat.le_of_ble_eq_true rfl) dX10_goes_18) (fun H locs h => ?_)
        refine kp_iinc (k := 1) (lv' := fun x1_2 => [(1, kp_iv x1_2), (0, .ref (kp_ad X 0))]) C dX10_goes_21 hl rfl (by decide) (fun _ => rfl) hF (fun x1_2 ls hl hF => ?_)
        refine kp_goto (tgt := 6) C dX10_goes_24 (by decide) ?_
        exact ih _ _ k _ _ _ h (lv_sub hl [1, 0] rfl) K hF
  refine L6 kp_fu _ _ _ _ _ _ h (lv_sub hl [1, 0] rfl) (fun σ_3 H locs ls h hl hF => ?_) hF
  clear L6
  exact kp_retv (v := 0) C hr hlk G h dX10_goes_27 hF
def kf_X10_warmth  (a1 : Int) (σ_0 : kp_W) : kp_R :=
  kp_bd (kf_X10_isMinute a1 σ_0) (fun r_0 σ_1 => kp_eq r_0 0 (some ((-1), σ_1)) (kp_bd (kf_X10_warms σ_1) (fun r_1 σ_2 => kp_ck (0 ≤ a1 ∧ a1 < 40) (some ((σ_2 5 (Int.toNat a1)), σ_2)))))
set_option maxRecDepth 100000 in
set_option maxHeartbeats 4000000 in
theorem kc_X10_warmth {l : Launch} {X : kp_X} {a1 : Int}  {σ_0 σ' : kp_W} {r : Int}   (hF : (kf_X10_warmth a1 σ_0) = some (r, σ')) : kp_Met l yX10_warmth cX10_warmth 2 (some .int) 3 X kp_lM 10 σ_0 [.ref (kp_ad X 0), kp_iv a1] (kp_Qi X kp_lM 10 σ' r) := by
  refine kp_body pnX10 (Nat.le_of_ble_eq_true rfl) ?_
  intro p e s m args below meth c ls C hr hlk G h hl
  unfold kf_X10_warmth at hF
  have hl : lv_has ls 2 [(0, .ref (kp_ad X 0)), (1, kp_iv a1)] := hl
  refine kp_iload_n C dX10_warmth_0 rfl (lv_at hl 1 rfl) ?_
  obtain ⟨r_0, σ_1, hc, hF⟩ := kp_bd_s hF
  refine kp_ci h (kp_rS (As := [kp_iv a1]) (rest := []) C G h (kc_X10_isMinute  hc) q4_216 q4_217 q1_11 q4_218 hd_X10_isMinute (by decide) rfl hl.1 rfl (Nat.le_of_ble_eq_true rfl) dX10_warmth_1) (fun H locs h => ?_)
  refine kp_if_ne (tgt := 9) C dX10_warmth_4 (by decide) hF (fun hF => ?_) (fun hF => ?_)
  · refine kp_aload_n C dX10_warmth_9 rfl (lv_at hl 0 rfl) ?_
    obtain ⟨r_1, σ_2, hc, hF⟩ := kp_bd_s hF
    refine kp_cv h (kp_rV (k := 0) (As := []) (rest := []) C G h (kc_X10_warms  hc) q4_219 q4_221 q0_3_13 q1_11 q4_222 ⟨rfl, hd_X10_warms⟩ (by decide) kp_lM0 rfl rfl hl.1 rfl (Nat.le_of_ble_eq_true rfl) dX10_warmth_10) (fun H locs h => ?_)
    refine kp_aload_n C dX10_warmth_13 rfl (lv_at hl 0 rfl) ?_
    refine kp_getr C G h kp_lM0 rfl inWX10 (j := 14) (by decide) q4_58 rfl dX10_warmth_14 ?_
    refine kp_iload_n C dX10_warmth_17 rfl (lv_at hl 1 rfl) ?_
    refine kp_iald C G h (n := 40) kp_lM5 (by decide) dX10_warmth_18 hF (fun hF => ?_)
    exact kp_reti C hr hlk G h dX10_warmth_19 hF
  · refine kp_iconst C dX10_warmth_7 ?_
    exact kp_reti C hr hlk G h dX10_warmth_8 hF
def kf_X10_noise  (a1 : Int) (a2 : Int) (a3 : Int) (a4 : Int) (σ_0 : kp_W) : kp_R :=
  kp_bd (kf_X10_in a1 0 6 σ_0) (fun r_0 σ_1 => kp_eq r_0 0 (some ((-1), σ_1)) (kp_bd (kf_X10_isPlace a2 σ_1) (fun r_1 σ_2 => kp_eq r_1 0 (some ((-1), σ_2)) (kp_bd (kf_X10_in a3 0 9 σ_2) (fun r_2 σ_3 => kp_eq r_2 0 (some ((-2), σ_3)) (kp_bd (kf_X10_in a4 1 40 σ_3) (fun r_3 σ_4 => kp_eq r_3 0 (some ((-2), σ_4)) (kp_eq (σ_4 1 0) 10 (some ((-4), σ_4)) (kp_lt ((σ_4 1 0) : Int) (fun x5_0 => kp_ck (0 ≤ (250 + x5_0) ∧ (250 + x5_0) < 1066) (kp_lt (kp_up σ_4 1 (Int.toNat (250 + x5_0)) a1) (fun σ_5 => kp_ck (0 ≤ (260 + x5_0) ∧ (260 + x5_0) < 1066) (kp_lt (kp_up σ_5 1 (Int.toNat (260 + x5_0)) a2) (fun σ_6 => kp_ck (0 ≤ (270 + x5_0) ∧ (270 + x5_0) < 1066) (kp_lt (kp_up σ_6 1 (Int.toNat (270 + x5_0)) a3) (fun σ_7 => kp_ck (0 ≤ (280 + x5_0) ∧ (280 + x5_0) < 1066) (kp_lt (kp_up σ_7 1 (Int.toNat (280 + x5_0)) a4) (fun σ_8 => kp_ck (0 ≤ (290 + x5_0) ∧ (290 + x5_0) < 1066) (kp_lt (kp_up σ_8 1 (Int.toNat (290 + x5_0)) 0) (fun σ_9 => kp_lt (kp_up σ_9 1 0 ((σ_9 1 0) + 1)) (fun σ_10 => some (x5_0, σ_10))))))))))))))))))))))
set_option maxRecDepth 100000 in
set_option maxHeartbeats 4000000 in
theorem kc_X10_noise {l : Launch} {X : kp_X} {a1 : Int} {a2 : Int} {a3 : Int} {a4 : Int}  {σ_0 σ' : kp_W} {r : Int}   (hF : (kf_X10_noise a1 a2 a3 a4 σ_0) = some (r, σ')) : kp_Met l yX10_noise cX10_noise 6 (some .int) 2 X kp_lM 10 σ_0 [.ref (kp_ad X 0), kp_iv a1, kp_iv a2, kp_iv a3, kp_iv a4] (kp_Qi X kp_lM 10 σ' r) := by
  refine kp_body pnX10 (Nat.le_of_ble_eq_true rfl) ?_
  intro p e s m args below meth c ls C hr hlk G h hl
  unfold kf_X10_noise at hF
  have hl : lv_has ls 6 [(0, .ref (kp_ad X 0)), (1, kp_iv a1), (2, kp_iv a2), (3, kp_iv a3), (4, kp_iv a4)] := hl
  refine kp_iload_n C dX10_noise_0 rfl (lv_at hl 1 rfl) ?_
  refine kp_iconst C dX10_noise_1 ?_
  refine kp_bipush C dX10_noise_2 rfl ?_
  obtain ⟨r_0, σ_1, hc, hF⟩ := kp_bd_s hF
  refine kp_ci h (kp_rS (As := [kp_iv a1, kp_iv 0, kp_iv 6]) (rest := []) C G h (kc_X10_in  hc) q4_128 q4_129 q1_11 q4_130 hd_X10_in (by decide) rfl hl.1 rfl (Nat.le_of_ble_eq_true rfl) dX10_noise_4) (fun H locs h => ?_)
  refine kp_if_eq (tgt := 17) C dX10_noise_7 (by decide) hF (fun hF => ?_) (fun hF => ?_)
  · refine kp_iconst C dX10_noise_17 ?_
    exact kp_reti C hr hlk G h dX10_noise_18 hF
  · refine kp_iload_n C dX10_noise_10 rfl (lv_at hl 2 rfl) ?_
    obtain ⟨r_1, σ_2, hc, hF⟩ := kp_bd_s hF
    refine kp_ci h (kp_rS (As := [kp_iv a2]) (rest := []) C G h (kc_X10_isPlace  hc) q4_232 q4_233 q1_11 q4_234 hd_X10_isPlace (by decide) rfl hl.1 rfl (Nat.le_of_ble_eq_true rfl) dX10_noise_11) (fun H locs h => ?_)
    refine kp_if_ne (tgt := 19) C dX10_noise_14 (by decide) hF (fun hF => ?_) (fun hF => ?_)
    · refine kp_iload_n C dX10_noise_19 rfl (lv_at hl 3 rfl) ?_
      refine kp_iconst C dX10_noise_20 ?_
      refine kp_bipush C dX10_noise_21 rfl ?_
      obtain ⟨r_2, σ_3, hc, hF⟩ := kp_bd_s hF
      refine kp_ci h (kp_rS (As := [kp_iv a3, kp_iv 0, kp_iv 9]) (rest := []) C G h (kc_X10_in  hc) q4_128 q4_129 q1_11 q4_130 hd_X10_in (by decide) rfl hl.1 rfl (Nat.le_of_ble_eq_true rfl) dX10_noise_23) (fun H locs h => ?_)
      refine kp_if_eq (tgt := 40) C dX10_noise_26 (by decide) hF (fun hF => ?_) (fun hF => ?_)
      · refine kp_bipush C dX10_noise_40 rfl ?_
        exact kp_reti C hr hlk G h dX10_noise_42 hF
      · refine kp_iload C dX10_noise_29 (lv_at hl 4 rfl) ?_
        refine kp_iconst C dX10_noise_31 ?_
        refine kp_bipush C dX10_noise_32 rfl ?_
        obtain ⟨r_3, σ_4, hc, hF⟩ := kp_bd_s hF
        refine kp_ci h (kp_rS (As := [kp_iv a4, kp_iv 1, kp_iv 40]) (rest := []) C G h (kc_X10_in  hc) q4_128 q4_129 q1_11 q4_130 hd_X10_in (by decide) rfl hl.1 rfl (Nat.le_of_ble_eq_true rfl) dX10_noise_34) (fun H locs h => ?_)
        refine kp_if_ne (tgt := 43) C dX10_noise_37 (by decide) hF (fun hF => ?_) (fun hF => ?_)
        · refine kp_aload_n C dX10_noise_43 rfl (lv_at hl 0 rfl) ?_
          refine kp_getr C G h kp_lM0 rfl inWX10 (j := 1) (by decide) q4_45 rfl dX10_noise_44 ?_
          refine kp_iconst C dX10_noise_47 ?_
          refine kp_iald0 C G h (i := 0) (n := 1066) kp_lM1 (by decide) (by decide) dX10_noise_48 ?_
          refine kp_bipush C dX10_noise_49 rfl ?_
          refine kp_icmp_ne (tgt := 57) C dX10_noise_51 (by decide) hF (fun hF => ?_) (fun hF => ?_)
          · refine kp_aload_n C dX10_noise_57 rfl (lv_at hl 0 rfl) ?_
            refine kp_getr C G h kp_lM0 rfl inWX10 (j := 1) (by decide) q4_45 rfl dX10_noise_58 ?_
            refine kp_iconst C dX10_noise_61 ?_
            refine kp_iald0 C G h (i := 0) (n := 1066) kp_lM1 (by decide) (by decide) dX10_noise_62 ?_
            refine kp_istore (lv' := fun x5_0 => [(5, kp_iv x5_0), (0, .ref (kp_ad X 0)), (1, kp_iv a1), (2, kp_iv a2), (3, kp_iv a3), (4, kp_iv a4)]) C dX10_noise_63 hl (by decide) (fun _ => rfl) hF (fun x5_0 ls hl hF => ?_)
            refine kp_aload_n C dX10_noise_65 rfl (lv_at hl 1 rfl) ?_
            refine kp_getr C G h kp_lM0 rfl inWX10 (j := 1) (by decide) q4_45 rfl dX10_noise_66 ?_
            refine kp_sipush C dX10_noise_69 rfl ?_
            refine kp_iload C dX10_noise_72 (lv_at hl 0 rfl) ?_
            refine kp_iadd C dX10_noise_74 ?_
            refine kp_iload_n C dX10_noise_75 rfl (lv_at hl 2 rfl) ?_
            refine kp_iast C G h (n := 1066) kp_lM1 (by decide) dX10_noise_76 hF (fun σ_5 H locs h hF => ?_)
            refine kp_aload_n C dX10_noise_77 rfl (lv_at hl 1 rfl) ?_
            refine kp_getr C G h kp_lM0 rfl inWX10 (j := 1) (by decide) q4_45 rfl dX10_noise_78 ?_
            refine kp_sipush C dX10_noise_81 rfl ?_
            refine kp_iload C dX10_noise_84 (lv_at hl 0 rfl) ?_
            refine kp_iadd C dX10_noise_86 ?_
            refine kp_iload_n C dX10_noise_87 rfl (lv_at hl 3 rfl) ?_
            refine kp_iast C G h (n := 1066) kp_lM1 (by decide) dX10_noise_88 hF (fun σ_6 H locs h hF => ?_)
            refine kp_aload_n C dX10_noise_89 rfl (lv_at hl 1 rfl) ?_
            refine kp_getr C G h kp_lM0 rfl inWX10 (j := 1) (by decide) q4_45 rfl dX10_noise_90 ?_
            refine kp_sipush C dX10_noise_93 rfl ?_
            refine kp_iload C dX10_noise_96 (lv_at hl 0 rfl) ?_
            refine kp_iadd C dX10_noise_98 ?_
            refine kp_iload_n C dX10_noise_99 rfl (lv_at hl 4 rfl) ?_
            refine kp_iast C G h (n := 1066) kp_lM1 (by decide) dX10_noise_100 hF (fun σ_7 H locs h hF => ?_)
            refine kp_aload_n C dX10_noise_101 rfl (lv_at hl 1 rfl) ?_
            refine kp_getr C G h kp_lM0 rfl inWX10 (j := 1) (by decide) q4_45 rfl dX10_noise_102 ?_
            refine kp_sipush C dX10_noise_105 rfl ?_
            refine kp_iload C dX10_noise_108 (lv_at hl 0 rfl) ?_
            refine kp_iadd C dX10_noise_110 ?_
            refine kp_iload C dX10_noise_111 (lv_at hl 5 rfl) ?_
            refine kp_iast C G h (n := 1066) kp_lM1 (by decide) dX10_noise_113 hF (fun σ_8 H locs h hF => ?_)
            refine kp_aload_n C dX10_noise_114 rfl (lv_at hl 1 rfl) ?_
            refine kp_getr C G h kp_lM0 rfl inWX10 (j := 1) (by decide) q4_45 rfl dX10_noise_115 ?_
            refine kp_sipush C dX10_noise_118 rfl ?_
            refine kp_iload C dX10_noise_121 (lv_at hl 0 rfl) ?_
            refine kp_iadd C dX10_noise_123 ?_
            refine kp_iconst C dX10_noise_124 ?_
            refine kp_iast C G h (n := 1066) kp_lM1 (by decide) dX10_noise_125 hF (fun σ_9 H locs h hF => ?_)
            refine kp_aload_n C dX10_noise_126 rfl (lv_at hl 1 rfl) ?_
            refine kp_getr C G h kp_lM0 rfl inWX10 (j := 1) (by decide) q4_45 rfl dX10_noise_127 ?_
            refine kp_iconst C dX10_noise_130 ?_
            refine kp_dup2 C dX10_noise_131 rfl rfl ?_
            refine kp_iald0 C G h (i := 0) (n := 1066) kp_lM1 (by decide) (by decide) dX10_noise_132 ?_
            refine kp_iconst C dX10_noise_133 ?_
            refine kp_iadd C dX10_noise_134 ?_
            have hF := kp_ck_i (c := 0 ≤ (0 : Int) ∧ (0 : Int) < 1066) (by decide) hF
            refine kp_iast C G h (n := 1066) kp_lM1 (by decide) dX10_noise_135 hF (fun σ_10 H locs h hF => ?_)
            refine kp_iload C dX10_noise_136 (lv_at hl 0 rfl) ?_
            exact kp_reti C hr hlk G h dX10_noise_138 hF
          · refine kp_bipush C dX10_noise_54 rfl ?_
            exact kp_reti C hr hlk G h dX10_noise_56 hF
        · refine kp_bipush C dX10_noise_40 rfl ?_
          exact kp_reti C hr hlk G h dX10_noise_42 hF
    · refine kp_iconst C dX10_noise_17 ?_
      exact kp_reti C hr hlk G h dX10_noise_18 hF
def kf_X10_of  (a1 : Int) (a2 : Int) (σ_0 : kp_W) : kp_R :=
  kp_bd (kf_X10_isNoise a1 σ_0) (fun r_0 σ_1 => kp_eq r_0 0 (some ((-1), σ_1)) (kp_bd (kf_X10_in a2 0 4 σ_1) (fun r_1 σ_2 => kp_eq r_1 0 (some ((-1), σ_2)) (kp_ck (0 ≤ ((250 + (10 * a2)) + a1) ∧ ((250 + (10 * a2)) + a1) < 1066) (some ((σ_2 1 (Int.toNat ((250 + (10 * a2)) + a1))), σ_2))))))
set_option maxRecDepth 100000 in
set_option maxHeartbeats 4000000 in
theorem kc_X10_of {l : Launch} {X : kp_X} {a1 : Int} {a2 : Int}  {σ_0 σ' : kp_W} {r : Int}   (hF : (kf_X10_of a1 a2 σ_0) = some (r, σ')) : kp_Met l yX10_of cX10_of 3 (some .int) 2 X kp_lM 10 σ_0 [.ref (kp_ad X 0), kp_iv a1, kp_iv a2] (kp_Qi X kp_lM 10 σ' r) := by
  refine kp_body pnX10 (Nat.le_of_ble_eq_true rfl) ?_
  intro p e s m args below meth c ls C hr hlk G h hl
  unfold kf_X10_of at hF
  have hl : lv_has ls 3 [(0, .ref (kp_ad X 0)), (1, kp_iv a1), (2, kp_iv a2)] := hl
  refine kp_aload_n C dX10_of_0 rfl (lv_at hl 0 rfl) ?_
  refine kp_iload_n C dX10_of_1 rfl (lv_at hl 1 rfl) ?_
  obtain ⟨r_0, σ_1, hc, hF⟩ := kp_bd_s hF
  refine kp_ci h (kp_rV (k := 0) (As := [kp_iv a1]) (rest := []) C G h (kc_X10_isNoise  hc) q4_239 q5_1 q0_3_15 q1_11 q5_2 ⟨rfl, hd_X10_isNoise⟩ (by decide) kp_lM0 rfl rfl hl.1 rfl (Nat.le_of_ble_eq_true rfl) dX10_of_2) (fun H locs h => ?_)
  refine kp_if_eq (tgt := 35) C dX10_of_5 (by decide) hF (fun hF => ?_) (fun hF => ?_)
  · refine kp_iconst C dX10_of_35 ?_
    exact kp_reti C hr hlk G h dX10_of_36 hF
  · refine kp_iload_n C dX10_of_8 rfl (lv_at hl 2 rfl) ?_
    refine kp_iconst C dX10_of_9 ?_
    refine kp_iconst C dX10_of_10 ?_
    obtain ⟨r_1, σ_2, hc, hF⟩ := kp_bd_s hF
    refine kp_ci h (kp_rS (As := [kp_iv a2, kp_iv 0, kp_iv 4]) (rest := []) C G h (kc_X10_in  hc) q4_128 q4_129 q1_11 q4_130 hd_X10_in (by decide) rfl hl.1 rfl (Nat.le_of_ble_eq_true rfl) dX10_of_11) (fun H locs h => ?_)
    refine kp_if_eq (tgt := 35) C dX10_of_14 (by decide) hF (fun hF => ?_) (fun hF => ?_)
    · refine kp_iconst C dX10_of_35 ?_
      exact kp_reti C hr hlk G h dX10_of_36 hF
    · refine kp_aload_n C dX10_of_17 rfl (lv_at hl 0 rfl) ?_
      refine kp_getr C G h kp_lM0 rfl inWX10 (j := 1) (by decide) q4_45 rfl dX10_of_18 ?_
      refine kp_sipush C dX10_of_21 rfl ?_
      refine kp_bipush C dX10_of_24 rfl ?_
      refine kp_iload_n C dX10_of_26 rfl (lv_at hl 2 rfl) ?_
      refine kp_imul C dX10_of_27 ?_
      refine kp_iadd C dX10_of_28 ?_
      refine kp_iload_n C dX10_of_29 rfl (lv_at hl 1 rfl) ?_
      refine kp_iadd C dX10_of_30 ?_
      refine kp_iald C G h (n := 1066) kp_lM1 (by decide) dX10_of_31 hF (fun hF => ?_)
      refine kp_goto (tgt := 36) C dX10_of_32 (by decide) ?_
      exact kp_reti C hr hlk G h dX10_of_36 hF
def kf_X10_still  (a1 : Int) (a2 : Int) (σ_0 : kp_W) : kp_R :=
  kp_bd (kf_X10_isNoise a1 σ_0) (fun r_0 σ_1 => kp_eq r_0 0 (some ((-1), σ_1)) (kp_ck (0 ≤ (290 + a1) ∧ (290 + a1) < 1066) (kp_lt ((σ_1 1 (Int.toNat (290 + a1))) : Int) (fun x3_0 => kp_eq a2 0 (kp_ck (0 ≤ (290 + a1) ∧ (290 + a1) < 1066) (kp_lt (kp_up σ_1 1 (Int.toNat (290 + a1)) 0) (fun σ_2 => some (x3_0, σ_2)))) (kp_ck (0 ≤ (290 + a1) ∧ (290 + a1) < 1066) (kp_lt (kp_up σ_1 1 (Int.toNat (290 + a1)) 1) (fun σ_3 => some (x3_0, σ_3))))))))
set_option maxRecDepth 100000 in
set_option maxHeartbeats 4000000 in
theorem kc_X10_still {l : Launch} {X : kp_X} {a1 : Int} {a2 : Int}  {σ_0 σ' : kp_W} {r : Int}   (hF : (kf_X10_still a1 a2 σ_0) = some (r, σ')) : kp_Met l yX10_still cX10_still 4 (some .int) 2 X kp_lM 10 σ_0 [.ref (kp_ad X 0), kp_iv a1, kp_iv a2] (kp_Qi X kp_lM 10 σ' r) := by
  refine kp_body pnX10 (Nat.le_of_ble_eq_true rfl) ?_
  intro p e s m args below meth c ls C hr hlk G h hl
  unfold kf_X10_still at hF
  have hl : lv_has ls 4 [(0, .ref (kp_ad X 0)), (1, kp_iv a1), (2, kp_iv a2)] := hl
  refine kp_aload_n C dX10_still_0 rfl (lv_at hl 0 rfl) ?_
  refine kp_iload_n C dX10_still_1 rfl (lv_at hl 1 rfl) ?_
  obtain ⟨r_0, σ_1, hc, hF⟩ := kp_bd_s hF
  refine kp_ci h (kp_rV (k := 0) (As := [kp_iv a1]) (rest := []) C G h (kc_X10_isNoise  hc) q4_239 q5_1 q0_3_15 q1_11 q5_2 ⟨rfl, hd_X10_isNoise⟩ (by decide) kp_lM0 rfl rfl hl.1 rfl (Nat.le_of_ble_eq_true rfl) dX10_still_2) (fun H locs h => ?_)
  refine kp_if_ne (tgt := 10) C dX10_still_5 (by decide) hF (fun hF => ?_) (fun hF => ?_)
  · refine kp_aload_n C dX10_still_10 rfl (lv_at hl 0 rfl) ?_
    refine kp_getr C G h kp_lM0 rfl inWX10 (j := 1) (by decide) q4_45 rfl dX10_still_11 ?_
    refine kp_sipush C dX10_still_14 rfl ?_
    refine kp_iload_n C dX10_still_17 rfl (lv_at hl 1 rfl) ?_
    refine kp_iadd C dX10_still_18 ?_
    refine kp_iald C G h (n := 1066) kp_lM1 (by decide) dX10_still_19 hF (fun hF => ?_)
    refine kp_istore_n (lv' := fun x3_0 => [(3, kp_iv x3_0), (0, .ref (kp_ad X 0)), (1, kp_iv a1), (2, kp_iv a2)]) C dX10_still_20 rfl hl (by decide) (fun _ => rfl) hF (fun x3_0 ls hl hF => ?_)
    refine kp_aload_n C dX10_still_21 rfl (lv_at hl 1 rfl) ?_
    refine kp_getr C G h kp_lM0 rfl inWX10 (j := 1) (by decide) q4_45 rfl dX10_still_22 ?_
    refine kp_sipush C dX10_still_25 rfl ?_
    refine kp_iload_n C dX10_still_28 rfl (lv_at hl 2 rfl) ?_
    refine kp_iadd C dX10_still_29 ?_
    refine kp_iload_n C dX10_still_30 rfl (lv_at hl 3 rfl) ?_
    refine kp_if_eq (tgt := 38) C dX10_still_31 (by decide) hF (fun hF => ?_) (fun hF => ?_)
    · refine kp_iconst C dX10_still_38 ?_
      refine kp_iast C G h (n := 1066) kp_lM1 (by decide) dX10_still_39 hF (fun σ_2 H locs h hF => ?_)
      refine kp_iload_n C dX10_still_40 rfl (lv_at hl 0 rfl) ?_
      exact kp_reti C hr hlk G h dX10_still_41 hF
    · refine kp_iconst C dX10_still_34 ?_
      refine kp_goto (tgt := 39) C dX10_still_35 (by decide) ?_
      refine kp_iast C G h (n := 1066) kp_lM1 (by decide) dX10_still_39 hF (fun σ_3 H locs h hF => ?_)
      refine kp_iload_n C dX10_still_40 rfl (lv_at hl 0 rfl) ?_
      exact kp_reti C hr hlk G h dX10_still_41 hF
  · refine kp_iconst C dX10_still_8 ?_
    exact kp_reti C hr hlk G h dX10_still_9 hF
def kf_X10_isStill  (a1 : Int) (σ_0 : kp_W) : kp_R :=
  kp_ck (0 ≤ (290 + a1) ∧ (290 + a1) < 1066) (kp_eq (σ_0 1 (Int.toNat (290 + a1))) 1 (some (1, σ_0)) (some (0, σ_0)))
set_option maxRecDepth 100000 in
set_option maxHeartbeats 4000000 in
theorem kc_X10_isStill {l : Launch} {X : kp_X} {a1 : Int}  {σ_0 σ' : kp_W} {r : Int}   (hF : (kf_X10_isStill a1 σ_0) = some (r, σ')) : kp_Met l yX10_isStill cX10_isStill 2 (some .boolean) 0 X kp_lM 10 σ_0 [.ref (kp_ad X 0), kp_iv a1] (kp_Qi X kp_lM 10 σ' r) := by
  refine kp_body pnX10 (Nat.le_of_ble_eq_true rfl) ?_
  intro p e s m args below meth c ls C hr hlk G h hl
  unfold kf_X10_isStill at hF
  have hl : lv_has ls 2 [(0, .ref (kp_ad X 0)), (1, kp_iv a1)] := hl
  refine kp_aload_n C dX10_isStill_0 rfl (lv_at hl 0 rfl) ?_
  refine kp_getr C G h kp_lM0 rfl inWX10 (j := 1) (by decide) q4_45 rfl dX10_isStill_1 ?_
  refine kp_sipush C dX10_isStill_4 rfl ?_
  refine kp_iload_n C dX10_isStill_7 rfl (lv_at hl 1 rfl) ?_
  refine kp_iadd C dX10_isStill_8 ?_
  refine kp_iald C G h (n := 1066) kp_lM1 (by decide) dX10_isStill_9 hF (fun hF => ?_)
  refine kp_iconst C dX10_isStill_10 ?_
  refine kp_icmp_ne (tgt := 18) C dX10_isStill_11 (by decide) hF (fun hF => ?_) (fun hF => ?_)
  · refine kp_iconst C dX10_isStill_18 ?_
    exact kp_retz C hr hlk G h dX10_isStill_19 (kp_ck_i (by decide) hF)
  · refine kp_iconst C dX10_isStill_14 ?_
    refine kp_goto (tgt := 19) C dX10_isStill_15 (by decide) ?_
    exact kp_retz C hr hlk G h dX10_isStill_19 (kp_ck_i (by decide) hF)
def kf_X10_knocks  (a1 : Int) (a2 : Int) (a3 : Int) (σ_0 : kp_W) : kp_R :=
  kp_bd (kf_X10_isNoise a1 σ_0) (fun r_0 σ_1 => kp_eq r_0 0 (some ((-1), σ_1)) (kp_bd (kf_X10_isMinute a2 σ_1) (fun r_1 σ_2 => kp_eq r_1 0 (some ((-1), σ_2)) (kp_bd (kf_X10_in a3 0 2 σ_2) (fun r_2 σ_3 => kp_eq r_2 0 (some ((-1), σ_3)) (kp_bd (kf_X10_goes σ_3) (fun r_3 σ_4 => kp_bd (kf_X10_lengthOf a1 a2 σ_4) (fun r_4 σ_5 => kp_lt (r_4 : Int) (fun x4_0 => kp_eq a3 0 (some (x4_0, σ_5)) (kp_eq a3 1 (some ((σ_5 0 12), σ_5)) (kp_bd (kf_X10_isStill a1 σ_5) (fun r_5 σ_6 => kp_eq r_5 0 (kp_ck (0 ≤ ((40 * a1) + a2) ∧ ((40 * a1) + a2) < 400) (some ((σ_6 6 (Int.toNat ((40 * a1) + a2))), σ_6))) (some (0, σ_6))))))))))))))
set_option maxRecDepth 100000 in
set_option maxHeartbeats 4000000 in
theorem kc_X10_knocks {l : Launch} {X : kp_X} {a1 : Int} {a2 : Int} {a3 : Int}  {σ_0 σ' : kp_W} {r : Int}   (hF : (kf_X10_knocks a1 a2 a3 σ_0) = some (r, σ')) : kp_Met l yX10_knocks cX10_knocks 5 (some .int) 6 X kp_lM 10 σ_0 [.ref (kp_ad X 0), kp_iv a1, kp_iv a2, kp_iv a3] (kp_Qi X kp_lM 10 σ' r) := by
  refine kp_body pnX10 (Nat.le_of_ble_eq_true rfl) ?_
  intro p e s m args below meth c ls C hr hlk G h hl
  unfold kf_X10_knocks at hF
  have hl : lv_has ls 5 [(0, .ref (kp_ad X 0)), (1, kp_iv a1), (2, kp_iv a2), (3, kp_iv a3)] := hl
  refine kp_aload_n C dX10_knocks_0 rfl (lv_at hl 0 rfl) ?_
  refine kp_iload_n C dX10_knocks_1 rfl (lv_at hl 1 rfl) ?_
  obtain ⟨r_0, σ_1, hc, hF⟩ := kp_bd_s hF
  refine kp_ci h (kp_rV (k := 0) (As := [kp_iv a1]) (rest := []) C G h (kc_X10_isNoise  hc) q4_239 q5_1 q0_3_15 q1_11 q5_2 ⟨rfl, hd_X10_isNoise⟩ (by decide) kp_lM0 rfl rfl hl.1 rfl (Nat.le_of_ble_eq_true rfl) dX10_knocks_2) (fun H locs h => ?_)
  refine kp_if_eq (tgt := 24) C dX10_knocks_5 (by decide) hF (fun hF => ?_) (fun hF => ?_)
  · refine kp_iconst C dX10_knocks_24 ?_
    exact kp_reti C hr hlk G h dX10_knocks_25 hF
  · refine kp_iload_n C dX10_knocks_8 rfl (lv_at hl 2 rfl) ?_
    obtain ⟨r_1, σ_2, hc, hF⟩ := kp_bd_s hF
    refine kp_ci h (kp_rS (As := [kp_iv a2]) (rest := []) C G h (kc_X10_isMinute  hc) q4_216 q4_217 q1_11 q4_218 hd_X10_isMinute (by decide) rfl hl.1 rfl (Nat.le_of_ble_eq_true rfl) dX10_knocks_9) (fun H locs h => ?_)
    refine kp_if_eq (tgt := 24) C dX10_knocks_12 (by decide) hF (fun hF => ?_) (fun hF => ?_)
    · refine kp_iconst C dX10_knocks_24 ?_
      exact kp_reti C hr hlk G h dX10_knocks_25 hF
    · refine kp_iload_n C dX10_knocks_15 rfl (lv_at hl 3 rfl) ?_
      refine kp_iconst C dX10_knocks_16 ?_
      refine kp_iconst C dX10_knocks_17 ?_
      obtain ⟨r_2, σ_3, hc, hF⟩ := kp_bd_s hF
      refine kp_ci h (kp_rS (As := [kp_iv a3, kp_iv 0, kp_iv 2]) (rest := []) C G h (kc_X10_in  hc) q4_128 q4_129 q1_11 q4_130 hd_X10_in (by decide) rfl hl.1 rfl (Nat.le_of_ble_eq_true rfl) dX10_knocks_18) (fun H locs h => ?_)
      refine kp_if_ne (tgt := 26) C dX10_knocks_21 (by decide) hF (fun hF => ?_) (fun hF => ?_)
      · refine kp_aload_n C dX10_knocks_26 rfl (lv_at hl 0 rfl) ?_
        obtain ⟨r_3, σ_4, hc, hF⟩ := kp_bd_s hF
        refine kp_cv h (kp_rV (k := 0) (As := []) (rest := []) C G h (kc_X10_goes  hc) q5_11 q5_13 q0_4_0 q1_11 q5_14 ⟨rfl, hd_X10_goes⟩ (by decide) kp_lM0 rfl rfl hl.1 rfl (Nat.le_of_ble_eq_true rfl) dX10_knocks_27) (fun H locs h => ?_)
        refine kp_aload_n C dX10_knocks_30 rfl (lv_at hl 0 rfl) ?_
        refine kp_iload_n C dX10_knocks_31 rfl (lv_at hl 1 rfl) ?_
        refine kp_iload_n C dX10_knocks_32 rfl (lv_at hl 2 rfl) ?_
        obtain ⟨r_4, σ_5, hc, hF⟩ := kp_bd_s hF
        refine kp_ci h (kp_rV (k := 0) (As := [kp_iv a1, kp_iv a2]) (rest := []) C G h (kc_X10_lengthOf  hc) q5_23 q5_25 q0_4_3 q1_11 q5_26 ⟨rfl, hd_X10_lengthOf⟩ (by decide) kp_lM0 rfl rfl hl.1 rfl (Nat.le_of_ble_eq_true rfl) dX10_knocks_33) (fun H locs h => ?_)
        refine kp_istore (lv' := fun x4_0 => [(4, kp_iv x4_0), (0, .ref (kp_ad X 0)), (1, kp_iv a1), (2, kp_iv a2), (3, kp_iv a3)]) C dX10_knocks_36 hl (by decide) (fun _ => rfl) hF (fun x4_0 ls hl hF => ?_)
        refine kp_iload_n C dX10_knocks_38 rfl (lv_at hl 4 rfl) ?_
        refine kp_if_ne (tgt := 47) C dX10_knocks_39 (by decide) hF (fun hF => ?_) (fun hF => ?_)
        · refine kp_iload_n C dX10_knocks_47 rfl (lv_at hl 4 rfl) ?_
          refine kp_iconst C dX10_knocks_48 ?_
          refine kp_icmp_ne (tgt := 59) C dX10_knocks_49 (by decide) hF (fun hF => ?_) (fun hF => ?_)
          · refine kp_aload_n C dX10_knocks_59 rfl (lv_at hl 1 rfl) ?_
            refine kp_iload_n C dX10_knocks_60 rfl (lv_at hl 2 rfl) ?_
            obtain ⟨r_5, σ_6, hc, hF⟩ := kp_bd_s hF
            refine kp_ci h (kp_rV (k := 0) (As := [kp_iv a1]) (rest := []) C G h (kc_X10_isStill  hc) q5_46 q5_48 q0_4_8 q1_11 q5_49 ⟨rfl, hd_X10_isStill⟩ (by decide) kp_lM0 rfl rfl hl.1 rfl (Nat.le_of_ble_eq_true rfl) dX10_knocks_61) (fun H locs h => ?_)
            refine kp_if_eq (tgt := 71) C dX10_knocks_64 (by decide) hF (fun hF => ?_) (fun hF => ?_)
            · refine kp_aload_n C dX10_knocks_71 rfl (lv_at hl 1 rfl) ?_
              refine kp_getr C G h kp_lM0 rfl inWX10 (j := 15) (by decide) q4_59 rfl dX10_knocks_72 ?_
              refine kp_bipush C dX10_knocks_75 rfl ?_
              refine kp_iload_n C dX10_knocks_77 rfl (lv_at hl 2 rfl) ?_
              refine kp_imul C dX10_knocks_78 ?_
              refine kp_iload_n C dX10_knocks_79 rfl (lv_at hl 3 rfl) ?_
              refine kp_iadd C dX10_knocks_80 ?_
              refine kp_iald C G h (n := 400) kp_lM6 (by decide) dX10_knocks_81 hF (fun hF => ?_)
              exact kp_reti C hr hlk G h dX10_knocks_82 hF
            · refine kp_iconst C dX10_knocks_67 ?_
              refine kp_goto (tgt := 82) C dX10_knocks_68 (by decide) ?_
              exact kp_reti C hr hlk G h dX10_knocks_82 hF
          · refine kp_aload_n C dX10_knocks_52 rfl (lv_at hl 1 rfl) ?_
            refine kp_geti C G h kp_lM0 rfl inWX10 (j := 12) (by decide) q4_56 rfl dX10_knocks_53 ?_
            refine kp_goto (tgt := 82) C dX10_knocks_56 (by decide) ?_
            exact kp_reti C hr hlk G h dX10_knocks_82 hF
        · refine kp_iload C dX10_knocks_42 (lv_at hl 0 rfl) ?_
          refine kp_goto (tgt := 82) C dX10_knocks_44 (by decide) ?_
          exact kp_reti C hr hlk G h dX10_knocks_82 hF
      · refine kp_iconst C dX10_knocks_24 ?_
        exact kp_reti C hr hlk G h dX10_knocks_25 hF
def kf_X10_isStruck  (a1 : Int) (σ_0 : kp_W) : kp_R :=
  kp_ck (0 ≤ (250 + a1) ∧ (250 + a1) < 1066) (kp_eq (σ_0 1 (Int.toNat (250 + a1))) 2 (some (1, σ_0)) (kp_ck (0 ≤ (250 + a1) ∧ (250 + a1) < 1066) (kp_eq (σ_0 1 (Int.toNat (250 + a1))) 5 (some (1, σ_0)) (some (0, σ_0)))))
set_option maxRecDepth 100000 in
set_option maxHeartbeats 4000000 in
theorem kc_X10_isStruck {l : Launch} {X : kp_X} {a1 : Int}  {σ_0 σ' : kp_W} {r : Int}   (hF : (kf_X10_isStruck a1 σ_0) = some (r, σ')) : kp_Met l yX10_isStruck cX10_isStruck 2 (some .boolean) 0 X kp_lM 10 σ_0 [.ref (kp_ad X 0), kp_iv a1] (kp_Qi X kp_lM 10 σ' r) := by
  refine kp_body pnX10 (Nat.le_of_ble_eq_true rfl) ?_
  intro p e s m args below meth c ls C hr hlk G h hl
  unfold kf_X10_isStruck at hF
  have hl : lv_has ls 2 [(0, .ref (kp_ad X 0)), (1, kp_iv a1)] := hl
  refine kp_aload_n C dX10_isStruck_0 rfl (lv_at hl 0 rfl) ?_
  refine kp_getr C G h kp_lM0 rfl inWX10 (j := 1) (by decide) q4_45 rfl dX10_isStruck_1 ?_
  refine kp_sipush C dX10_isStruck_4 rfl ?_
  refine kp_iload_n C dX10_isStruck_7 rfl (lv_at hl 1 rfl) ?_
  refine kp_iadd C dX10_isStruck_8 ?_
  refine kp_iald C G h (n := 1066) kp_lM1 (by decide) dX10_isStruck_9 hF (fun hF => ?_)
  refine kp_iconst C dX10_isStruck_10 ?_
  refine kp_icmp_eq (tgt := 28) C dX10_isStruck_11 (by decide) hF (fun hF => ?_) (fun hF => ?_)
  · refine kp_iconst C dX10_isStruck_28 ?_
    refine kp_goto (tgt := 33) C dX10_isStruck_29 (by decide) ?_
    exact kp_retz C hr hlk G h dX10_isStruck_33 (kp_ck_i (by decide) hF)
  · refine kp_aload_n C dX10_isStruck_14 rfl (lv_at hl 0 rfl) ?_
    refine kp_getr C G h kp_lM0 rfl inWX10 (j := 1) (by decide) q4_45 rfl dX10_isStruck_15 ?_
    refine kp_sipush C dX10_isStruck_18 rfl ?_
    refine kp_iload_n C dX10_isStruck_21 rfl (lv_at hl 1 rfl) ?_
    refine kp_iadd C dX10_isStruck_22 ?_
    refine kp_iald C G h (n := 1066) kp_lM1 (by decide) dX10_isStruck_23 hF (fun hF => ?_)
    refine kp_iconst C dX10_isStruck_24 ?_
    refine kp_icmp_ne (tgt := 32) C dX10_isStruck_25 (by decide) hF (fun hF => ?_) (fun hF => ?_)
    · refine kp_iconst C dX10_isStruck_32 ?_
      exact kp_retz C hr hlk G h dX10_isStruck_33 (kp_ck_i (by decide) hF)
    · refine kp_iconst C dX10_isStruck_28 ?_
      refine kp_goto (tgt := 33) C dX10_isStruck_29 (by decide) ?_
      exact kp_retz C hr hlk G h dX10_isStruck_33 (kp_ck_i (by decide) hF)
def kf_X10_loudOf  (a1 : Int) (a2 : Int) (a3 : Int) (σ_0 : kp_W) : kp_R :=
  kp_ck (0 ≤ (280 + a1) ∧ (280 + a1) < 1066) (kp_lt ((σ_0 1 (Int.toNat (280 + a1))) : Int) (fun x4_0 => kp_bd (kf_X10_isStruck a1 σ_0) (fun r_0 σ_1 => kp_jn (fun (x4_1 : Int) => kp_ck (0 ≤ (260 + a1) ∧ (260 + a1) < 1066) (kp_bd (kf_X10_size (a2 - (σ_1 1 (Int.toNat (260 + a1)))) σ_1) (fun r_1 σ_2 => kp_lt (r_1 : Int) (fun x5_0 => kp_bd (kf_X10_told 3 σ_2) (fun r_2 σ_3 => kp_lt ((x4_1 - (r_2 * x5_0)) : Int) (fun x6_0 => kp_ck (0 ≤ a3 ∧ a3 < 40) (kp_jn (fun (v_0 : Int) (σ_4 : kp_W) => kp_lt (v_0 : Int) (fun x7_0 => kp_jn (fun (v_1 : Int) => kp_lt (v_1 : Int) (fun x8_0 => kp_ls x8_0 0 (some (0, σ_4)) (some (x8_0, σ_4)))) (fun j131 => kp_ls x7_0 x6_0 (j131 x6_0) (j131 x7_0)))) (fun j115 => kp_jn (fun (σ_5 : kp_W) => kp_bd (kf_X10_told 2 σ_5) (fun r_3 σ_6 => j115 ((x4_1 - 5) - (r_3 * x5_0)) σ_6)) (fun j98 => kp_ls 0 (σ_3 5 (Int.toNat a3)) (j98 σ_3) (kp_bd (kf_X10_isStruck a1 σ_3) (fun r_4 σ_7 => kp_eq r_4 0 (j115 0 σ_7) (j98 σ_7)))))))))))) (fun j51 => kp_eq r_0 0 (j51 x4_0) (kp_ls 0 (σ_1 0 18) (kp_ls (x4_0 - (σ_1 0 18)) 1 (kp_lt (1 : Int) (fun x4_3 => j51 x4_3)) (kp_lt ((x4_0 - (σ_1 0 18)) : Int) (fun x4_2 => j51 x4_2))) (j51 x4_0))))))
set_option maxRecDepth 100000 in
set_option maxHeartbeats 4000000 in
theorem kc_X10_loudOf {l : Launch} {X : kp_X} {a1 : Int} {a2 : Int} {a3 : Int}  {σ_0 σ' : kp_W} {r : Int}   (hF : (kf_X10_loudOf a1 a2 a3 σ_0) = some (r, σ')) : kp_Met l yX10_loudOf cX10_loudOf 9 (some .int) 2 X kp_lM 10 σ_0 [.ref (kp_ad X 0), kp_iv a1, kp_iv a2, kp_iv a3] (kp_Qi X kp_lM 10 σ' r) := by
  refine kp_body pnX10 (Nat.le_of_ble_eq_true rfl) ?_
  intro p e s m args below meth c ls C hr hlk G h hl
  unfold kf_X10_loudOf at hF
  have hl : lv_has ls 9 [(0, .ref (kp_ad X 0)), (1, kp_iv a1), (2, kp_iv a2), (3, kp_iv a3)] := hl
  refine kp_aload_n C dX10_loudOf_0 rfl (lv_at hl 0 rfl) ?_
  refine kp_getr C G h kp_lM0 rfl inWX10 (j := 1) (by decide) q4_45 rfl dX10_loudOf_1 ?_
  refine kp_sipush C dX10_loudOf_4 rfl ?_
  refine kp_iload_n C dX10_loudOf_7 rfl (lv_at hl 1 rfl) ?_
  refine kp_iadd C dX10_loudOf_8 ?_
  refine kp_iald C G h (n := 1066) kp_lM1 (by decide) dX10_loudOf_9 hF (fun hF => ?_)
  refine kp_istore (lv' := fun x4_0 => [(4, kp_iv x4_0), (0, .ref (kp_ad X 0)), (1, kp_iv a1), (2, kp_iv a2), (3, kp_iv a3)]) C dX10_loudOf_10 hl (by decide) (fun _ => rfl) hF (fun x4_0 ls hl hF => ?_)
  refine kp_aload_n C dX10_loudOf_12 rfl (lv_at hl 1 rfl) ?_
  refine kp_iload_n C dX10_loudOf_13 rfl (lv_at hl 2 rfl) ?_
  obtain ⟨r_0, σ_1, hc, hF⟩ := kp_bd_s hF
  refine kp_ci h (kp_rV (k := 0) (As := [kp_iv a1]) (rest := []) C G h (kc_X10_isStruck  hc) q5_58 q5_60 q0_4_10 q1_11 q5_61 ⟨rfl, hd_X10_isStruck⟩ (by decide) kp_lM0 rfl rfl hl.1 rfl (Nat.le_of_ble_eq_true rfl) dX10_loudOf_14) (fun H locs h => ?_)
  obtain ⟨j51, ej51, hF⟩ := kp_jn_s hF
  have J51 : ∀ (x4_1 : Int), ∀ (H : Heap) (locs : List Loc) (ls : Array Slot), kp_H X kp_lM 10 s σ_1 H locs → lv_has ls 9 [(0, .ref (kp_ad X 0)), (1, kp_iv a1), (2, kp_iv a2), (3, kp_iv a3), (4, kp_iv x4_1)] → j51 x4_1 = some (r, σ') → W p l e (kp_rm 2) s m args below meth c H locs 0 0 (MQ below (kp_Qi X kp_lM 10 σ' r) args s 0 0 (kp_A X 10)) (F0 m 51 ls []) := by
    intro x4_1 H locs ls h hl hF
    rw [ej51] at hF
    refine kp_iload_n C dX10_loudOf_51 rfl (lv_at hl 2 rfl) ?_
    refine kp_aload_n C dX10_loudOf_52 rfl (lv_at hl 0 rfl) ?_
    refine kp_getr C G h kp_lM0 rfl inWX10 (j := 1) (by decide) q4_45 rfl dX10_loudOf_53 ?_
    refine kp_sipush C dX10_loudOf_56 rfl ?_
    refine kp_iload_n C dX10_loudOf_59 rfl (lv_at hl 1 rfl) ?_
    refine kp_iadd C dX10_loudOf_60 ?_
    refine kp_iald C G h (n := 1066) kp_lM1 (by decide) dX10_loudOf_61 hF (fun hF => ?_)
    refine kp_isub C dX10_loudOf_62 ?_
    obtain ⟨r_1, σ_2, hc, hF⟩ := kp_bd_s hF
    refine kp_ci h (kp_rS (As := [kp_iv (a2 - (σ_1 1 (Int.toNat (260 + a1))))]) (rest := []) C G h (kc_X10_size  hc) q5_31 q5_32 q1_11 q5_33 hd_X10_size (by decide) rfl hl.1 rfl (Nat.le_of_ble_eq_true rfl) dX10_loudOf_63) (fun H locs h => ?_)
    refine kp_istore (lv' := fun x5_0 => [(5, kp_iv x5_0), (0, .ref (kp_ad X 0)), (1, kp_iv a1), (2, kp_iv a2), (3, kp_iv a3), (4, kp_iv x4_1)]) C dX10_loudOf_66 hl (by decide) (fun _ => rfl) hF (fun x5_0 ls hl hF => ?_)
    refine kp_iload C dX10_loudOf_68 (lv_at hl 5 rfl) ?_
    refine kp_aload_n C dX10_loudOf_70 rfl (lv_at hl 1 rfl) ?_
    refine kp_iconst C dX10_loudOf_71 ?_
    obtain ⟨r_2, σ_3, hc, hF⟩ := kp_bd_s hF
    refine kp_ci h (kp_rV (k := 0) (As := [kp_iv 3]) (rest := [kp_iv x4_1]) C G h (kc_X10_told  hc) q4_227 q4_205 q4_206 q1_11 q4_207 ⟨rfl, hd_X10_told⟩ (by decide) kp_lM0 rfl rfl hl.1 rfl (Nat.le_of_ble_eq_true rfl) dX10_loudOf_72) (fun H locs h => ?_)
    refine kp_iload C dX10_loudOf_75 (lv_at hl 0 rfl) ?_
    refine kp_imul C dX10_loudOf_77 ?_
    refine kp_isub C dX10_loudOf_78 ?_
    refine kp_istore (lv' := fun x6_0 => [(6, kp_iv x6_0), (5, kp_iv x5_0), (0, .ref (kp_ad X 0)), (1, kp_iv a1), (2, kp_iv a2), (3, kp_iv a3), (4, kp_iv x4_1)]) C dX10_loudOf_79 hl (by decide) (fun _ => rfl) hF (fun x6_0 ls hl hF => ?_)
    refine kp_aload_n C dX10_loudOf_81 rfl (lv_at hl 2 rfl) ?_
    refine kp_getr C G h kp_lM0 rfl inWX10 (j := 14) (by decide) q4_58 rfl dX10_loudOf_82 ?_
    refine kp_iload_n C dX10_loudOf_85 rfl (lv_at hl 5 rfl) ?_
    refine kp_iald C G h (n := 40) kp_lM5 (by decide) dX10_loudOf_86 hF (fun hF => ?_)
    obtain ⟨j115, ej115, hF⟩ := kp_jn_s hF
    have J115 : ∀ (v_0 : Int), ∀ (σ_4 : kp_W), ∀ (H : Heap) (locs : List Loc) (ls : Array Slot), kp_H X kp_lM 10 s σ_4 H locs → lv_has ls 9 [(6, kp_iv x6_0)] → j115 v_0 σ_4 = some (r, σ') → W p l e (kp_rm 2) s m args below meth c H locs 0 0 (MQ below (kp_Qi X kp_lM 10 σ' r) args s 0 0 (kp_A X 10)) (F0 m 115 ls [kp_iv v_0]) := by
      intro v_0 σ_4 H locs ls h hl hF
      rw [ej115] at hF
      refine kp_istore (lv' := fun x7_0 => [(7, kp_iv x7_0), (6, kp_iv x6_0)]) C dX10_loudOf_115 hl (by decide) (fun _ => rfl) hF (fun x7_0 ls hl hF => ?_)
      refine kp_iload C dX10_loudOf_117 (lv_at hl 1 rfl) ?_
      refine kp_iload C dX10_loudOf_119 (lv_at hl 0 rfl) ?_
      obtain ⟨j131, ej131, hF⟩ := kp_jn_s hF
      have J131 : ∀ (v_1 : Int), ∀ (H : Heap) (locs : List Loc) (ls : Array Slot), kp_H X kp_lM 10 s σ_4 H locs → lv_has ls 9 [] → j131 v_1 = some (r, σ') → W p l e (kp_rm 2) s m args below meth c H locs 0 0 (MQ below (kp_Qi X kp_lM 10 σ' r) args s 0 0 (kp_A X 10)) (F0 m 131 ls [kp_iv v_1]) := by
        intro v_1 H locs ls h hl hF
        rw [ej131] at hF
        refine kp_istore (lv' := fun x8_0 => [(8, kp_iv x8_0)]) C dX10_loudOf_131 hl (by decide) (fun _ => rfl) hF (fun x8_0 ls hl hF => ?_)
        refine kp_iload C dX10_loudOf_133 (lv_at hl 0 rfl) ?_
        refine kp_if_ge (tgt := 142) C dX10_loudOf_135 (by decide) hF (fun hF => ?_) (fun hF => ?_)
        · refine kp_iload C dX10_loudOf_142 (lv_at hl 0 rfl) ?_
          exact kp_reti C hr hlk G h dX10_loudOf_144 hF
        · refine kp_iconst C dX10_loudOf_138 ?_
          refine kp_goto (tgt := 144) C dX10_loudOf_139 (by decide) ?_
          exact kp_reti C hr hlk G h dX10_loudOf_144 hF
      clear ej131
      refine kp_icmp_le (tgt := 129) C dX10_loudOf_121 (by decide) hF (fun hF => ?_) (fun hF => ?_)
      · refine kp_iload C dX10_loudOf_129 (lv_at hl 0 rfl) ?_
        exact J131 _ _ _ _ h (lv_sub hl [] rfl) hF
      · refine kp_iload C dX10_loudOf_124 (lv_at hl 1 rfl) ?_
        refine kp_goto (tgt := 131) C dX10_loudOf_126 (by decide) ?_
        exact J131 _ _ _ _ h (lv_sub hl [] rfl) hF
    clear ej115
    obtain ⟨j98, ej98, hF⟩ := kp_jn_s hF
    have J98 : ∀ (σ_5 : kp_W), ∀ (H : Heap) (locs : List Loc) (ls : Array Slot), kp_H X kp_lM 10 s σ_5 H locs → lv_has ls 9 [(0, .ref (kp_ad X 0)), (4, kp_iv x4_1), (5, kp_iv x5_0), (6, kp_iv x6_0)] → j98 σ_5 = some (r, σ') → W p l e (kp_rm 2) s m args below meth c H locs 0 0 (MQ below (kp_Qi X kp_lM 10 σ' r) args s 0 0 (kp_A X 10)) (F0 m 98 ls []) := by
      intro σ_5 H locs ls h hl hF
      rw [ej98] at hF
      refine kp_iload C dX10_loudOf_98 (lv_at hl 1 rfl) ?_
      refine kp_iconst C dX10_loudOf_100 ?_
      refine kp_isub C dX10_loudOf_101 ?_
      refine kp_aload_n C dX10_loudOf_102 rfl (lv_at hl 0 rfl) ?_
      refine kp_iconst C dX10_loudOf_103 ?_
      obtain ⟨r_3, σ_6, hc, hF⟩ := kp_bd_s hF
      refine kp_ci h (kp_rV (k := 0) (As := [kp_iv 2]) (rest := [kp_iv (x4_1 - 5)]) C G h (kc_X10_told  hc) q4_227 q4_205 q4_206 q1_11 q4_207 ⟨rfl, hd_X10_told⟩ (by decide) kp_lM0 rfl rfl hl.1 rfl (Nat.le_of_ble_eq_true rfl) dX10_loudOf_104) (fun H locs h => ?_)
      refine kp_iload C dX10_loudOf_107 (lv_at hl 2 rfl) ?_
      refine kp_imul C dX10_loudOf_109 ?_
      refine kp_isub C dX10_loudOf_110 ?_
      refine kp_goto (tgt := 115) C dX10_loudOf_111 (by decide) ?_
      exact J115 _ _ _ _ _ h (lv_sub hl [3] rfl) hF
    clear ej98
    refine kp_if_gt (tgt := 98) C dX10_loudOf_87 (by decide) hF (fun hF => ?_) (fun hF => ?_)
    · exact J98 _ _ _ _ h (lv_sub hl [2, 6, 1, 0] rfl) hF
    · refine kp_aload_n C dX10_loudOf_90 rfl (lv_at hl 2 rfl) ?_
      refine kp_iload_n C dX10_loudOf_91 rfl (lv_at hl 3 rfl) ?_
      obtain ⟨r_4, σ_7, hc, hF⟩ := kp_bd_s hF
      refine kp_ci h (kp_rV (k := 0) (As := [kp_iv a1]) (rest := []) C G h (kc_X10_isStruck  hc) q5_58 q5_60 q0_4_10 q1_11 q5_61 ⟨rfl, hd_X10_isStruck⟩ (by decide) kp_lM0 rfl rfl hl.1 rfl (Nat.le_of_ble_eq_true rfl) dX10_loudOf_92) (fun H locs h => ?_)
      refine kp_if_eq (tgt := 114) C dX10_loudOf_95 (by decide) hF (fun hF => ?_) (fun hF => ?_)
      · refine kp_iconst C dX10_loudOf_114 ?_
        exact J115 _ _ _ _ _ h (lv_sub hl [0] rfl) hF
      · exact J98 _ _ _ _ h (lv_sub hl [2, 6, 1, 0] rfl) hF
  clear ej51
  refine kp_if_eq (tgt := 51) C dX10_loudOf_17 (by decide) hF (fun hF => ?_) (fun hF => ?_)
  · exact J51 _ _ _ _ h (lv_sub hl [1, 2, 3, 4, 0] rfl) hF
  · refine kp_aload_n C dX10_loudOf_20 rfl (lv_at hl 1 rfl) ?_
    refine kp_geti C G h kp_lM0 rfl inWX10 (j := 18) (by decide) q4_62 rfl dX10_loudOf_21 ?_
    refine kp_if_le (tgt := 51) C dX10_loudOf_24 (by decide) hF (fun hF => ?_) (fun hF => ?_)
    · exact J51 _ _ _ _ h (lv_sub hl [1, 2, 3, 4, 0] rfl) hF
    · refine kp_iload C dX10_loudOf_27 (lv_at hl 0 rfl) ?_
      refine kp_aload_n C dX10_loudOf_29 rfl (lv_at hl 1 rfl) ?_
      refine kp_geti C G h kp_lM0 rfl inWX10 (j := 18) (by decide) q4_62 rfl dX10_loudOf_30 ?_
      refine kp_isub C dX10_loudOf_33 ?_
      refine kp_iconst C dX10_loudOf_34 ?_
      refine kp_icmp_ge (tgt := 42) C dX10_loudOf_35 (by decide) hF (fun hF => ?_) (fun hF => ?_)
      · refine kp_iload C dX10_loudOf_42 (lv_at hl 0 rfl) ?_
        refine kp_aload_n C dX10_loudOf_44 rfl (lv_at hl 1 rfl) ?_
        refine kp_geti C G h kp_lM0 rfl inWX10 (j := 18) (by decide) q4_62 rfl dX10_loudOf_45 ?_
        refine kp_isub C dX10_loudOf_48 ?_
        refine kp_istore (lv' := fun x4_2 => [(4, kp_iv x4_2), (0, .ref (kp_ad X 0)), (1, kp_iv a1), (2, kp_iv a2), (3, kp_iv a3)]) C dX10_loudOf_49 hl (by decide) (fun _ => rfl) hF (fun x4_2 ls hl hF => ?_)
        exact J51 _ _ _ _ h (lv_sub hl [1, 2, 3, 4, 0] rfl) hF
      · refine kp_iconst C dX10_loudOf_38 ?_
        refine kp_goto (tgt := 49) C dX10_loudOf_39 (by decide) ?_
        refine kp_istore (lv' := fun x4_3 => [(4, kp_iv x4_3), (0, .ref (kp_ad X 0)), (1, kp_iv a1), (2, kp_iv a2), (3, kp_iv a3)]) C dX10_loudOf_49 hl (by decide) (fun _ => rfl) hF (fun x4_3 ls hl hF => ?_)
        exact J51 _ _ _ _ h (lv_sub hl [1, 2, 3, 4, 0] rfl) hF
def kf_X10_loud  (a1 : Int) (a2 : Int) (a3 : Int) (σ_0 : kp_W) : kp_R :=
  kp_bd (kf_X10_isNoise a1 σ_0) (fun r_0 σ_1 => kp_eq r_0 0 (some ((-1), σ_1)) (kp_bd (kf_X10_isPlace a2 σ_1) (fun r_1 σ_2 => kp_eq r_1 0 (some ((-1), σ_2)) (kp_bd (kf_X10_isMinute a3 σ_2) (fun r_2 σ_3 => kp_eq r_2 0 (some ((-1), σ_3)) (kp_bd (kf_X10_warms σ_3) (fun r_3 σ_4 => kp_bd (kf_X10_loudOf a1 a2 a3 σ_4) (fun r_4 σ_5 => some (r_4, σ_5)))))))))
set_option maxRecDepth 100000 in
set_option maxHeartbeats 4000000 in
theorem kc_X10_loud {l : Launch} {X : kp_X} {a1 : Int} {a2 : Int} {a3 : Int}  {σ_0 σ' : kp_W} {r : Int}   (hF : (kf_X10_loud a1 a2 a3 σ_0) = some (r, σ')) : kp_Met l yX10_loud cX10_loud 4 (some .int) 3 X kp_lM 10 σ_0 [.ref (kp_ad X 0), kp_iv a1, kp_iv a2, kp_iv a3] (kp_Qi X kp_lM 10 σ' r) := by
  refine kp_body pnX10 (Nat.le_of_ble_eq_true rfl) ?_
  intro p e s m args below meth c ls C hr hlk G h hl
  unfold kf_X10_loud at hF
  have hl : lv_has ls 4 [(0, .ref (kp_ad X 0)), (1, kp_iv a1), (2, kp_iv a2), (3, kp_iv a3)] := hl
  refine kp_aload_n C dX10_loud_0 rfl (lv_at hl 0 rfl) ?_
  refine kp_iload_n C dX10_loud_1 rfl (lv_at hl 1 rfl) ?_
  obtain ⟨r_0, σ_1, hc, hF⟩ := kp_bd_s hF
  refine kp_ci h (kp_rV (k := 0) (As := [kp_iv a1]) (rest := []) C G h (kc_X10_isNoise  hc) q4_239 q5_1 q0_3_15 q1_11 q5_2 ⟨rfl, hd_X10_isNoise⟩ (by decide) kp_lM0 rfl rfl hl.1 rfl (Nat.le_of_ble_eq_true rfl) dX10_loud_2) (fun H locs h => ?_)
  refine kp_if_eq (tgt := 22) C dX10_loud_5 (by decide) hF (fun hF => ?_) (fun hF => ?_)
  · refine kp_iconst C dX10_loud_22 ?_
    exact kp_reti C hr hlk G h dX10_loud_23 hF
  · refine kp_iload_n C dX10_loud_8 rfl (lv_at hl 2 rfl) ?_
    obtain ⟨r_1, σ_2, hc, hF⟩ := kp_bd_s hF
    refine kp_ci h (kp_rS (As := [kp_iv a2]) (rest := []) C G h (kc_X10_isPlace  hc) q4_232 q4_233 q1_11 q4_234 hd_X10_isPlace (by decide) rfl hl.1 rfl (Nat.le_of_ble_eq_true rfl) dX10_loud_9) (fun H locs h => ?_)
    refine kp_if_eq (tgt := 22) C dX10_loud_12 (by decide) hF (fun hF => ?_) (fun hF => ?_)
    · refine kp_iconst C dX10_loud_22 ?_
      exact kp_reti C hr hlk G h dX10_loud_23 hF
    · refine kp_iload_n C dX10_loud_15 rfl (lv_at hl 3 rfl) ?_
      obtain ⟨r_2, σ_3, hc, hF⟩ := kp_bd_s hF
      refine kp_ci h (kp_rS (As := [kp_iv a3]) (rest := []) C G h (kc_X10_isMinute  hc) q4_216 q4_217 q1_11 q4_218 hd_X10_isMinute (by decide) rfl hl.1 rfl (Nat.le_of_ble_eq_true rfl) dX10_loud_16) (fun H locs h => ?_)
      refine kp_if_ne (tgt := 24) C dX10_loud_19 (by decide) hF (fun hF => ?_) (fun hF => ?_)
      · refine kp_aload_n C dX10_loud_24 rfl (lv_at hl 0 rfl) ?_
        obtain ⟨r_3, σ_4, hc, hF⟩ := kp_bd_s hF
        refine kp_cv h (kp_rV (k := 0) (As := []) (rest := []) C G h (kc_X10_warms  hc) q4_219 q4_221 q0_3_13 q1_11 q4_222 ⟨rfl, hd_X10_warms⟩ (by decide) kp_lM0 rfl rfl hl.1 rfl (Nat.le_of_ble_eq_true rfl) dX10_loud_25) (fun H locs h => ?_)
        refine kp_aload_n C dX10_loud_28 rfl (lv_at hl 0 rfl) ?_
        refine kp_iload_n C dX10_loud_29 rfl (lv_at hl 1 rfl) ?_
        refine kp_iload_n C dX10_loud_30 rfl (lv_at hl 2 rfl) ?_
        refine kp_iload_n C dX10_loud_31 rfl (lv_at hl 3 rfl) ?_
        obtain ⟨r_4, σ_5, hc, hF⟩ := kp_bd_s hF
        refine kp_ci h (kp_rV (k := 0) (As := [kp_iv a1, kp_iv a2, kp_iv a3]) (rest := []) C G h (kc_X10_loudOf  hc) q5_54 q5_56 q0_4_9 q1_11 q5_57 ⟨rfl, hd_X10_loudOf⟩ (by decide) kp_lM0 rfl rfl hl.1 rfl (Nat.le_of_ble_eq_true rfl) dX10_loud_32) (fun H locs h => ?_)
        exact kp_reti C hr hlk G h dX10_loud_35 hF
      · refine kp_iconst C dX10_loud_22 ?_
        exact kp_reti C hr hlk G h dX10_loud_23 hF
def kl_X10_moving_4  : Nat → Int → Int → kp_W → (Int → kp_W → kp_R) → kp_R
  | 0, _, _, _, _ => none
  | n + 1, x1_1, x2_1, σ_1, k => kp_ls x2_1 (σ_1 1 0) (kp_bd (kf_X10_isStill x2_1 σ_1) (fun r_0 σ_3 => kp_eq r_0 0 (kp_ck (0 ≤ x2_1 ∧ x2_1 < 32) (kp_lt ((kp_or x1_1 (1 * 2 ^ (Int.toNat x2_1))) : Int) (fun x1_3 => kp_lt (x2_1 + 1) (fun x2_2 => kl_X10_moving_4 n x1_3 x2_2 σ_3 k)))) (kp_lt ((kp_or x1_1 0) : Int) (fun x1_4 => kp_lt (x2_1 + 1) (fun x2_3 => kl_X10_moving_4 n x1_4 x2_3 σ_3 k))))) (k x1_1 σ_1)
def kf_X10_moving   (σ_0 : kp_W) : kp_R :=
  kp_lt (0 : Int) (fun x1_0 => kp_lt (0 : Int) (fun x2_0 => kl_X10_moving_4 kp_fu x1_0 x2_0 σ_0 (fun (x1_2 : Int) (σ_2 : kp_W) => some (x1_2, σ_2))))
set_option maxRecDepth 100000 in
set_option maxHeartbeats 4000000 in
theorem kc_X10_moving {l : Launch} {X : kp_X}  {σ_0 σ' : kp_W} {r : Int}   (hF : (kf_X10_moving σ_0) = some (r, σ')) : kp_Met l yX10_moving cX10_moving 3 (some .int) 1 X kp_lM 10 σ_0 [.ref (kp_ad X 0)] (kp_Qi X kp_lM 10 σ' r) := by
  refine kp_body pnX10 (Nat.le_of_ble_eq_true rfl) ?_
  intro p e s m args below meth c ls C hr hlk G h hl
  unfold kf_X10_moving at hF
  have hl : lv_has ls 3 [(0, .ref (kp_ad X 0))] := hl
  refine kp_iconst C dX10_moving_0 ?_
  refine kp_istore_n (lv' := fun x1_0 => [(1, kp_iv x1_0), (0, .ref (kp_ad X 0))]) C dX10_moving_1 rfl hl (by decide) (fun _ => rfl) hF (fun x1_0 ls hl hF => ?_)
  refine kp_iconst C dX10_moving_2 ?_
  refine kp_istore_n (lv' := fun x2_0 => [(2, kp_iv x2_0), (1, kp_iv x1_0), (0, .ref (kp_ad X 0))]) C dX10_moving_3 rfl hl (by decide) (fun _ => rfl) hF (fun x2_0 ls hl hF => ?_)
  have L4 : ∀ (n : Nat) (x1_1 : Int) (x2_1 : Int) (σ_1 : kp_W) (k : Int → kp_W → kp_R) (H : Heap) (locs : List Loc) (ls : Array Slot), kp_H X kp_lM 10 s σ_1 H locs → lv_has ls 3 [(0, .ref (kp_ad X 0)), (1, kp_iv x1_1), (2, kp_iv x2_1)] → (∀ (x1_2 : Int) (σ_2 : kp_W) (H : Heap) (locs : List Loc) (ls : Array Slot), kp_H X kp_lM 10 s σ_2 H locs → lv_has ls 3 [(1, kp_iv x1_2)] → k x1_2 σ_2 = some (r, σ') → W p l e (kp_rm 1) s m args below meth c H locs 0 0 (MQ below (kp_Qi X kp_lM 10 σ' r) args s 0 0 (kp_A X 10)) (F0 m 38 ls [])) → kl_X10_moving_4 n x1_1 x2_1 σ_1 k = some (r, σ') → W p l e (kp_rm 1) s m args below meth c H locs 0 0 (MQ below (kp_Qi X kp_lM 10 σ' r) args s 0 0 (kp_A X 10)) (F0 m 4 ls []) := by
    intro n
    induction n with
    | zero =>
      intro x1_1 x2_1 σ_1 k H locs ls h hl K hF
      rw [kl_X10_moving_4] at hF
      cases hF
    | succ n ih =>
      intro x1_1 x2_1 σ_1 k H locs ls h hl K hF
      rw [kl_X10_moving_4] at hF
      refine kp_iload_n C dX10_moving_4 rfl (lv_at hl 2 rfl) ?_
      refine kp_aload_n C dX10_moving_5 rfl (lv_at hl 0 rfl) ?_
      refine kp_getr C G h kp_lM0 rfl inWX10 (j := 1) (by decide) q4_45 rfl dX10_moving_6 ?_
      refine kp_iconst C dX10_moving_9 ?_
      refine kp_iald0 C G h (i := 0) (n := 1066) kp_lM1 (by decide) (by decide) dX10_moving_10 ?_
      refine kp_icmp_ge (tgt := 38) C dX10_moving_11 (by decide) hF (fun hF => ?_) (fun hF => ?_)
      · exact K _ _ _ _ _ h (lv_sub hl [1] rfl) hF
      · refine kp_iload_n C dX10_moving_14 rfl (lv_at hl 1 rfl) ?_
        refine kp_aload_n C dX10_moving_15 rfl (lv_at hl 0 rfl) ?_
        refine kp_iload_n C dX10_moving_16 rfl (lv_at hl 2 rfl) ?_
        obtain ⟨r_0, σ_3, hc, hF⟩ := kp_bd_s hF
        refine kp_ci h (kp_rV (k := 0) (As := [kp_iv x2_1]) (rest := [kp_iv x1_1]) C G h (kc_X10_isStill  hc) q5_46 q5_48 q0_4_8 q1_11 q5_49 ⟨rfl, hd_X10_isStill⟩ (by decide) kp_lM0 rfl rfl hl.1 rfl (Nat.le_of_ble_eq_true rfl) dX10_moving_17) (fun H locs h => ?_)
        refine kp_if_eq (tgt := 27) C dX10_moving_20 (by decide) hF (fun hF => ?_) (fun hF => ?_)
        · refine kp_iconst C dX10_moving_27 ?_
          refine kp_iload_n C dX10_moving_28 rfl (lv_at hl 2 rfl) ?_
          refine kp_xishl C dX10_moving_29 hF (fun hF => ?_)
          refine kp_xior C dX10_moving_30 ?_
          refine kp_istore_n (lv' := fun x1_3 => [(1, kp_iv x1_3), (0, .ref (kp_ad X 0)), (2, kp_iv x2_1)]) C dX10_moving_31 rfl hl (by decide) (fun _ => rfl) hF (fun x1_3 ls hl hF => ?_)
          refine kp_iinc (k := 2) (lv' := fun x2_2 => [(2, kp_iv x2_2), (1, kp_iv x1_3), (0, .ref (kp_ad X 0))]) C dX10_moving_32 hl rfl (by decide) (fun _ => rfl) hF (fun x2_2 ls hl hF => ?_)
          refine kp_goto (tgt := 4) C dX10_moving_35 (by decide) ?_
          exact ih _ _ _ k _ _ _ h (lv_sub hl [2, 1, 0] rfl) K hF
        · refine kp_iconst C dX10_moving_23 ?_
          refine kp_goto (tgt := 30) C dX10_moving_24 (by decide) ?_
          refine kp_xior C dX10_moving_30 ?_
          refine kp_istore_n (lv' := fun x1_4 => [(1, kp_iv x1_4), (0, .ref (kp_ad X 0)), (2, kp_iv x2_1)]) C dX10_moving_31 rfl hl (by decide) (fun _ => rfl) hF (fun x1_4 ls hl hF => ?_)
          refine kp_iinc (k := 2) (lv' := fun x2_3 => [(2, kp_iv x2_3), (1, kp_iv x1_4), (0, .ref (kp_ad X 0))]) C dX10_moving_32 hl rfl (by decide) (fun _ => rfl) hF (fun x2_3 ls hl hF => ?_)
          refine kp_goto (tgt := 4) C dX10_moving_35 (by decide) ?_
          exact ih _ _ _ k _ _ _ h (lv_sub hl [2, 1, 0] rfl) K hF
  refine L4 kp_fu _ _ _ _ _ _ _ h (lv_sub hl [2, 1, 0] rfl) (fun x1_2 σ_2 H locs ls h hl hF => ?_) hF
  clear L4
  refine kp_iload_n C dX10_moving_38 rfl (lv_at hl 0 rfl) ?_
  exact kp_reti C hr hlk G h dX10_moving_39 hF
def kl_X10_heardOf_6 (a1 : Int) (a2 : Int) (a3 : Int) : Nat → Int → Int → kp_W → (Int → kp_W → kp_R) → kp_R
  | 0, _, _, _, _ => none
  | n + 1, x4_1, x5_1, σ_1, k => kp_ls x5_1 (σ_1 1 0) (kp_ck (kp_in a1 ∧ 0 ≤ x5_1 ∧ x5_1 < 32) (kp_jn (fun (v_0 : Int) (σ_3 : kp_W) => kp_lt (v_0 : Int) (fun x6_0 => kp_eq x6_0 0 (kp_lt ((x4_1 + 0) : Int) (fun x4_3 => kp_lt (x5_1 + 1) (fun x5_2 => kl_X10_heardOf_6 a1 a2 a3 n x4_3 x5_2 σ_3 k))) (kp_ck (0 ≤ ((40 * x5_1) + a3) ∧ ((40 * x5_1) + a3) < 400) (kp_lt ((x4_1 + (σ_3 6 (Int.toNat ((40 * x5_1) + a3)))) : Int) (fun x4_4 => kp_lt (x5_1 + 1) (fun x5_3 => kl_X10_heardOf_6 a1 a2 a3 n x4_4 x5_3 σ_3 k)))))) (fun j63 => kp_jn (fun (σ_4 : kp_W) => j63 0 σ_4) (fun j62 => kp_eq (kp_and (a1 / 2 ^ (Int.toNat x5_1)) 1) 1 (kp_ck (0 ≤ ((40 * x5_1) + a3) ∧ ((40 * x5_1) + a3) < 400) (kp_ls 0 (σ_1 6 (Int.toNat ((40 * x5_1) + a3))) (kp_bd (kf_X10_loudOf x5_1 a2 a3 σ_1) (fun r_0 σ_5 => kp_bd (kf_X10_told 4 σ_5) (fun r_1 σ_6 => kp_ls r_0 r_1 (j62 σ_6) (j63 1 σ_6)))) (j62 σ_1))) (j62 σ_1))))) (k x4_1 σ_1)
def kf_X10_heardOf  (a1 : Int) (a2 : Int) (a3 : Int) (σ_0 : kp_W) : kp_R :=
  kp_lt (0 : Int) (fun x4_0 => kp_lt (0 : Int) (fun x5_0 => kl_X10_heardOf_6 a1 a2 a3 kp_fu x4_0 x5_0 σ_0 (fun (x4_2 : Int) (σ_2 : kp_W) => some (x4_2, σ_2))))
set_option maxRecDepth 100000 in
set_option maxHeartbeats 4000000 in
theorem kc_X10_heardOf {l : Launch} {X : kp_X} {a1 : Int} {a2 : Int} {a3 : Int}  {σ_0 σ' : kp_W} {r : Int}   (hF : (kf_X10_heardOf a1 a2 a3 σ_0) = some (r, σ')) : kp_Met l yX10_heardOf cX10_heardOf 7 (some .int) 3 X kp_lM 10 σ_0 [.ref (kp_ad X 0), kp_iv a1, kp_iv a2, kp_iv a3] (kp_Qi X kp_lM 10 σ' r) := by
  refine kp_body pnX10 (Nat.le_of_ble_eq_true rfl) ?_
  intro p e s m args below meth c ls C hr hlk G h hl
  unfold kf_X10_heardOf at hF
  have hl : lv_has ls 7 [(0, .ref (kp_ad X 0)), (1, kp_iv a1), (2, kp_iv a2), (3, kp_iv a3)] := hl
  refine kp_iconst C dX10_heardOf_0 ?_
  refine kp_istore (lv' := fun x4_0 => [(4, kp_iv x4_0), (0, .ref (kp_ad X 0)), (1, kp_iv a1), (2, kp_iv a2), (3, kp_iv a3)]) C dX10_heardOf_1 hl (by decide) (fun _ => rfl) hF (fun x4_0 ls hl hF => ?_)
  refine kp_iconst C dX10_heardOf_3 ?_
  refine kp_istore (lv' := fun x5_0 => [(5, kp_iv x5_0), (4, kp_iv x4_0), (0, .ref (kp_ad X 0)), (1, kp_iv a1), (2, kp_iv a2), (3, kp_iv a3)]) C dX10_heardOf_4 hl (by decide) (fun _ => rfl) hF (fun x5_0 ls hl hF => ?_)
  have L6 : ∀ (n : Nat) (x4_1 : Int) (x5_1 : Int) (σ_1 : kp_W) (k : Int → kp_W → kp_R) (H : Heap) (locs : List Loc) (ls : Array Slot), kp_H X kp_lM 10 s σ_1 H locs → lv_has ls 7 [(0, .ref (kp_ad X 0)), (1, kp_iv a1), (2, kp_iv a2), (3, kp_iv a3), (4, kp_iv x4_1), (5, kp_iv x5_1)] → (∀ (x4_2 : Int) (σ_2 : kp_W) (H : Heap) (locs : List Loc) (ls : Array Slot), kp_H X kp_lM 10 s σ_2 H locs → lv_has ls 7 [(4, kp_iv x4_2)] → k x4_2 σ_2 = some (r, σ') → W p l e (kp_rm 3) s m args below meth c H locs 0 0 (MQ below (kp_Qi X kp_lM 10 σ' r) args s 0 0 (kp_A X 10)) (F0 m 97 ls [])) → kl_X10_heardOf_6 a1 a2 a3 n x4_1 x5_1 σ_1 k = some (r, σ') → W p l e (kp_rm 3) s m args below meth c H locs 0 0 (MQ below (kp_Qi X kp_lM 10 σ' r) args s 0 0 (kp_A X 10)) (F0 m 6 ls []) := by
    intro n
    induction n with
    | zero =>
      intro x4_1 x5_1 σ_1 k H locs ls h hl K hF
      rw [kl_X10_heardOf_6] at hF
      cases hF
    | succ n ih =>
      intro x4_1 x5_1 σ_1 k H locs ls h hl K hF
      rw [kl_X10_heardOf_6] at hF
      refine kp_iload C dX10_heardOf_6 (lv_at hl 5 rfl) ?_
      refine kp_aload_n C dX10_heardOf_8 rfl (lv_at hl 0 rfl) ?_
      refine kp_getr C G h kp_lM0 rfl inWX10 (j := 1) (by decide) q4_45 rfl dX10_heardOf_9 ?_
      refine kp_iconst C dX10_heardOf_12 ?_
      refine kp_iald0 C G h (i := 0) (n := 1066) kp_lM1 (by decide) (by decide) dX10_heardOf_13 ?_
      refine kp_icmp_ge (tgt := 97) C dX10_heardOf_14 (by decide) hF (fun hF => ?_) (fun hF => ?_)
      · exact K _ _ _ _ _ h (lv_sub hl [4] rfl) hF
      · refine kp_iload_n C dX10_heardOf_17 rfl (lv_at hl 1 rfl) ?_
        refine kp_iload C dX10_heardOf_18 (lv_at hl 5 rfl) ?_
        refine kp_xishr C dX10_heardOf_20 hF (fun hF => ?_)
        refine kp_iconst C dX10_heardOf_21 ?_
        refine kp_xiand C dX10_heardOf_22 ?_
        refine kp_iconst C dX10_heardOf_23 ?_
        obtain ⟨j63, ej63, hF⟩ := kp_jn_s hF
        have J63 : ∀ (v_0 : Int), ∀ (σ_3 : kp_W), ∀ (H : Heap) (locs : List Loc) (ls : Array Slot), kp_H X kp_lM 10 s σ_3 H locs → lv_has ls 7 [(0, .ref (kp_ad X 0)), (1, kp_iv a1), (2, kp_iv a2), (3, kp_iv a3), (4, kp_iv x4_1), (5, kp_iv x5_1)] → j63 v_0 σ_3 = some (r, σ') → W p l e (kp_rm 3) s m args below meth c H locs 0 0 (MQ below (kp_Qi X kp_lM 10 σ' r) args s 0 0 (kp_A X 10)) (F0 m 63 ls [kp_iv v_0]) := by
          intro v_0 σ_3 H locs ls h hl hF
          rw [ej63] at hF
          refine kp_istore (lv' := fun x6_0 => [(6, kp_iv x6_0), (0, .ref (kp_ad X 0)), (1, kp_iv a1), (2, kp_iv a2), (3, kp_iv a3), (4, kp_iv x4_1), (5, kp_iv x5_1)]) C dX10_heardOf_63 hl (by decide) (fun _ => rfl) hF (fun x6_0 ls hl hF => ?_)
          refine kp_iload C dX10_heardOf_65 (lv_at hl 5 rfl) ?_
          refine kp_iload C dX10_heardOf_67 (lv_at hl 0 rfl) ?_
          refine kp_if_eq (tgt := 87) C dX10_heardOf_69 (by decide) hF (fun hF => ?_) (fun hF => ?_)
          · refine kp_iconst C dX10_heardOf_87 ?_
            refine kp_iadd C dX10_heardOf_88 ?_
            refine kp_istore (lv' := fun x4_3 => [(4, kp_iv x4_3), (6, kp_iv x6_0), (0, .ref (kp_ad X 0)), (1, kp_iv a1), (2, kp_iv a2), (3, kp_iv a3), (5, kp_iv x5_1)]) C dX10_heardOf_89 hl (by decide) (fun _ => rfl) hF (fun x4_3 ls hl hF => ?_)
            refine kp_iinc (k := 6) (lv' := fun x5_2 => [(5, kp_iv x5_2), (4, kp_iv x4_3), (6, kp_iv x6_0), (0, .ref (kp_ad X 0)), (1, kp_iv a1), (2, kp_iv a2), (3, kp_iv a3)]) C dX10_heardOf_91 hl rfl (by decide) (fun _ => rfl) hF (fun x5_2 ls hl hF => ?_)
            refine kp_goto (tgt := 6) C dX10_heardOf_94 (by decide) ?_
            exact ih _ _ _ k _ _ _ h (lv_sub hl [3, 4, 5, 6, 1, 0] rfl) K hF
          · refine kp_aload_n C dX10_heardOf_72 rfl (lv_at hl 1 rfl) ?_
            refine kp_getr C G h kp_lM0 rfl inWX10 (j := 15) (by decide) q4_59 rfl dX10_heardOf_73 ?_
            refine kp_bipush C dX10_heardOf_76 rfl ?_
            refine kp_iload C dX10_heardOf_78 (lv_at hl 6 rfl) ?_
            refine kp_imul C dX10_heardOf_80 ?_
            refine kp_iload_n C dX10_heardOf_81 rfl (lv_at hl 4 rfl) ?_
            refine kp_iadd C dX10_heardOf_82 ?_
            refine kp_iald C G h (n := 400) kp_lM6 (by decide) dX10_heardOf_83 hF (fun hF => ?_)
            refine kp_goto (tgt := 88) C dX10_heardOf_84 (by decide) ?_
            refine kp_iadd C dX10_heardOf_88 ?_
            refine kp_istore (lv' := fun x4_4 => [(4, kp_iv x4_4), (6, kp_iv x6_0), (0, .ref (kp_ad X 0)), (1, kp_iv a1), (2, kp_iv a2), (3, kp_iv a3), (5, kp_iv x5_1)]) C dX10_heardOf_89 hl (by decide) (fun _ => rfl) hF (fun x4_4 ls hl hF => ?_)
            refine kp_iinc (k := 6) (lv' := fun x5_3 => [(5, kp_iv x5_3), (4, kp_iv x4_4), (6, kp_iv x6_0), (0, .ref (kp_ad X 0)), (1, kp_iv a1), (2, kp_iv a2), (3, kp_iv a3)]) C dX10_heardOf_91 hl rfl (by decide) (fun _ => rfl) hF (fun x5_3 ls hl hF => ?_)
            refine kp_goto (tgt := 6) C dX10_heardOf_94 (by decide) ?_
            exact ih _ _ _ k _ _ _ h (lv_sub hl [3, 4, 5, 6, 1, 0] rfl) K hF
        clear ej63
        obtain ⟨j62, ej62, hF⟩ := kp_jn_s hF
        have J62 : ∀ (σ_4 : kp_W), ∀ (H : Heap) (locs : List Loc) (ls : Array Slot), kp_H X kp_lM 10 s σ_4 H locs → lv_has ls 7 [(0, .ref (kp_ad X 0)), (1, kp_iv a1), (2, kp_iv a2), (3, kp_iv a3), (4, kp_iv x4_1), (5, kp_iv x5_1)] → j62 σ_4 = some (r, σ') → W p l e (kp_rm 3) s m args below meth c H locs 0 0 (MQ below (kp_Qi X kp_lM 10 σ' r) args s 0 0 (kp_A X 10)) (F0 m 62 ls []) := by
          intro σ_4 H locs ls h hl hF
          rw [ej62] at hF
          refine kp_iconst C dX10_heardOf_62 ?_
          exact J63 _ _ _ _ _ h (lv_sub hl [0, 1, 2, 3, 4, 5] rfl) hF
        clear ej62
        refine kp_icmp_ne (tgt := 62) C dX10_heardOf_24 (by decide) hF (fun hF => ?_) (fun hF => ?_)
        · exact J62 _ _ _ _ h (lv_sub hl [0, 1, 2, 3, 4, 5] rfl) hF
        · refine kp_aload_n C dX10_heardOf_27 rfl (lv_at hl 0 rfl) ?_
          refine kp_getr C G h kp_lM0 rfl inWX10 (j := 15) (by decide) q4_59 rfl dX10_heardOf_28 ?_
          refine kp_bipush C dX10_heardOf_31 rfl ?_
          refine kp_iload C dX10_heardOf_33 (lv_at hl 5 rfl) ?_
          refine kp_imul C dX10_heardOf_35 ?_
          refine kp_iload_n C dX10_heardOf_36 rfl (lv_at hl 3 rfl) ?_
          refine kp_iadd C dX10_heardOf_37 ?_
          refine kp_iald C G h (n := 400) kp_lM6 (by decide) dX10_heardOf_38 hF (fun hF => ?_)
          refine kp_if_le (tgt := 62) C dX10_heardOf_39 (by decide) hF (fun hF => ?_) (fun hF => ?_)
          · exact J62 _ _ _ _ h (lv_sub hl [0, 1, 2, 3, 4, 5] rfl) hF
          · refine kp_aload_n C dX10_heardOf_42 rfl (lv_at hl 0 rfl) ?_
            refine kp_iload C dX10_heardOf_43 (lv_at hl 5 rfl) ?_
            refine kp_iload_n C dX10_heardOf_45 rfl (lv_at hl 2 rfl) ?_
            refine kp_iload_n C dX10_heardOf_46 rfl (lv_at hl 3 rfl) ?_
            obtain ⟨r_0, σ_5, hc, hF⟩ := kp_bd_s hF
            refine kp_ci h (kp_rV (k := 0) (As := [kp_iv x5_1, kp_iv a2, kp_iv a3]) (rest := []) C G h (kc_X10_loudOf  hc) q5_54 q5_56 q0_4_9 q1_11 q5_57 ⟨rfl, hd_X10_loudOf⟩ (by decide) kp_lM0 rfl rfl hl.1 rfl (Nat.le_of_ble_eq_true rfl) dX10_heardOf_47) (fun H locs h => ?_)
            refine kp_aload_n C dX10_heardOf_50 rfl (lv_at hl 0 rfl) ?_
            refine kp_iconst C dX10_heardOf_51 ?_
            obtain ⟨r_1, σ_6, hc, hF⟩ := kp_bd_s hF
            refine kp_ci h (kp_rV (k := 0) (As := [kp_iv 4]) (rest := [kp_iv r_0]) C G h (kc_X10_told  hc) q4_227 q4_205 q4_206 q1_11 q4_207 ⟨rfl, hd_X10_told⟩ (by decide) kp_lM0 rfl rfl hl.1 rfl (Nat.le_of_ble_eq_true rfl) dX10_heardOf_52) (fun H locs h => ?_)
            refine kp_icmp_lt (tgt := 62) C dX10_heardOf_55 (by decide) hF (fun hF => ?_) (fun hF => ?_)
            · exact J62 _ _ _ _ h (lv_sub hl [0, 1, 2, 3, 4, 5] rfl) hF
            · refine kp_iconst C dX10_heardOf_58 ?_
              refine kp_goto (tgt := 63) C dX10_heardOf_59 (by decide) ?_
              exact J63 _ _ _ _ _ h (lv_sub hl [0, 1, 2, 3, 4, 5] rfl) hF
  refine L6 kp_fu _ _ _ _ _ _ _ h (lv_sub hl [2, 3, 4, 5, 1, 0] rfl) (fun x4_2 σ_2 H locs ls h hl hF => ?_) hF
  clear L6
  refine kp_iload C dX10_heardOf_97 (lv_at hl 0 rfl) ?_
  exact kp_reti C hr hlk G h dX10_heardOf_99 hF
