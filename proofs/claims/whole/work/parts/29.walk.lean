-- by program (wip/whole/gen/drive.py)
def kf_X10_in  (a1 : Int) (a2 : Int) (a3 : Int) (σ_0 : kp_W) : kp_R :=
  kp_ls a1 a2 (some (0, σ_0)) (kp_ls a3 a1 (some (0, σ_0)) (some (1, σ_0)))
set_option maxRecDepth 100000 in
set_option maxHeartbeats 4000000 in
theorem kc_X10_in {l : Launch} {X : kp_X} {a1 : Int} {a2 : Int} {a3 : Int}  {σ_0 σ' : kp_W} {r : Int}   (hF : (kf_X10_in a1 a2 a3 σ_0) = some (r, σ')) : kp_Met l yX10_in cX10_in 3 (some .boolean) 0 X kp_lM 10 σ_0 [kp_iv a1, kp_iv a2, kp_iv a3] (kp_Qi X kp_lM 10 σ' r) := by
  refine kp_body pnX10 (Nat.le_of_ble_eq_true rfl) ?_
  intro p e s m args below meth c ls C hr hlk G h hl
  unfold kf_X10_in at hF
  have hl : lv_has ls 3 [(0, kp_iv a1), (1, kp_iv a2), (2, kp_iv a3)] := hl
  refine kp_iload_n C dX10_in_0 rfl (lv_at hl 0 rfl) ?_
  refine kp_iload_n C dX10_in_1 rfl (lv_at hl 1 rfl) ?_
  refine kp_icmp_lt (tgt := 14) C dX10_in_2 (by decide) hF (fun hF => ?_) (fun hF => ?_)
  · refine kp_iconst C dX10_in_14 ?_
    exact kp_retz C hr hlk G h dX10_in_15 (kp_ck_i (by decide) hF)
  · refine kp_iload_n C dX10_in_5 rfl (lv_at hl 0 rfl) ?_
    refine kp_iload_n C dX10_in_6 rfl (lv_at hl 2 rfl) ?_
    refine kp_icmp_gt (tgt := 14) C dX10_in_7 (by decide) hF (fun hF => ?_) (fun hF => ?_)
    · refine kp_iconst C dX10_in_14 ?_
      exact kp_retz C hr hlk G h dX10_in_15 (kp_ck_i (by decide) hF)
    · refine kp_iconst C dX10_in_10 ?_
      refine kp_goto (tgt := 15) C dX10_in_11 (by decide) ?_
      exact kp_retz C hr hlk G h dX10_in_15 (kp_ck_i (by decide) hF)
def kf_X10_size  (a1 : Int) (σ_0 : kp_W) : kp_R :=
  kp_ls a1 0 (some ((-a1), σ_0)) (some (a1, σ_0))
set_option maxRecDepth 100000 in
set_option maxHeartbeats 4000000 in
theorem kc_X10_size {l : Launch} {X : kp_X} {a1 : Int}  {σ_0 σ' : kp_W} {r : Int}   (hF : (kf_X10_size a1 σ_0) = some (r, σ')) : kp_Met l yX10_size cX10_size 1 (some .int) 0 X kp_lM 10 σ_0 [kp_iv a1] (kp_Qi X kp_lM 10 σ' r) := by
  refine kp_body pnX10 (Nat.le_of_ble_eq_true rfl) ?_
  intro p e s m args below meth c ls C hr hlk G h hl
  unfold kf_X10_size at hF
  have hl : lv_has ls 1 [(0, kp_iv a1)] := hl
  refine kp_iload_n C dX10_size_0 rfl (lv_at hl 0 rfl) ?_
  refine kp_if_ge (tgt := 9) C dX10_size_1 (by decide) hF (fun hF => ?_) (fun hF => ?_)
  · refine kp_iload_n C dX10_size_9 rfl (lv_at hl 0 rfl) ?_
    exact kp_reti C hr hlk G h dX10_size_10 hF
  · refine kp_iload_n C dX10_size_4 rfl (lv_at hl 0 rfl) ?_
    refine kp_ineg C dX10_size_5 ?_
    refine kp_goto (tgt := 10) C dX10_size_6 (by decide) ?_
    exact kp_reti C hr hlk G h dX10_size_10 hF
def kf_X10_isNoise  (a1 : Int) (σ_0 : kp_W) : kp_R :=
  kp_bd (kf_X10_in a1 0 ((σ_0 1 0) - 1) σ_0) (fun r_0 σ_1 => kp_ck (r_0 = 0 ∨ r_0 = 1) (some (r_0, σ_1)))
set_option maxRecDepth 100000 in
set_option maxHeartbeats 4000000 in
theorem kc_X10_isNoise {l : Launch} {X : kp_X} {a1 : Int}  {σ_0 σ' : kp_W} {r : Int}   (hF : (kf_X10_isNoise a1 σ_0) = some (r, σ')) : kp_Met l yX10_isNoise cX10_isNoise 2 (some .boolean) 1 X kp_lM 10 σ_0 [.ref (kp_ad X 0), kp_iv a1] (kp_Qi X kp_lM 10 σ' r) := by
  refine kp_body pnX10 (Nat.le_of_ble_eq_true rfl) ?_
  intro p e s m args below meth c ls C hr hlk G h hl
  unfold kf_X10_isNoise at hF
  have hl : lv_has ls 2 [(0, .ref (kp_ad X 0)), (1, kp_iv a1)] := hl
  refine kp_iload_n C dX10_isNoise_0 rfl (lv_at hl 1 rfl) ?_
  refine kp_iconst C dX10_isNoise_1 ?_
  refine kp_aload_n C dX10_isNoise_2 rfl (lv_at hl 0 rfl) ?_
  refine kp_getr C G h kp_lM0 rfl inWX10 (j := 1) (by decide) q4_45 rfl dX10_isNoise_3 ?_
  refine kp_iconst C dX10_isNoise_6 ?_
  refine kp_iald0 C G h (i := 0) (n := 1066) kp_lM1 (by decide) (by decide) dX10_isNoise_7 ?_
  refine kp_iconst C dX10_isNoise_8 ?_
  refine kp_isub C dX10_isNoise_9 ?_
  obtain ⟨r_0, σ_1, hc, hF⟩ := kp_bd_s hF
  refine kp_ci h (kp_rS (As := [kp_iv a1, kp_iv 0, kp_iv ((σ_0 1 0) - 1)]) (rest := []) C G h (kc_X10_in  hc) q4_128 q4_129 q1_11 q4_130 hd_X10_in (by decide) rfl hl.1 rfl (Nat.le_of_ble_eq_true rfl) dX10_isNoise_10) (fun H locs h => ?_)
  exact kp_retz C hr hlk G h dX10_isNoise_13 hF
def kf_X10_isPlace  (a1 : Int) (σ_0 : kp_W) : kp_R :=
  kp_bd (kf_X10_in a1 0 9 σ_0) (fun r_0 σ_1 => kp_ck (r_0 = 0 ∨ r_0 = 1) (some (r_0, σ_1)))
set_option maxRecDepth 100000 in
set_option maxHeartbeats 4000000 in
theorem kc_X10_isPlace {l : Launch} {X : kp_X} {a1 : Int}  {σ_0 σ' : kp_W} {r : Int}   (hF : (kf_X10_isPlace a1 σ_0) = some (r, σ')) : kp_Met l yX10_isPlace cX10_isPlace 1 (some .boolean) 1 X kp_lM 10 σ_0 [kp_iv a1] (kp_Qi X kp_lM 10 σ' r) := by
  refine kp_body pnX10 (Nat.le_of_ble_eq_true rfl) ?_
  intro p e s m args below meth c ls C hr hlk G h hl
  unfold kf_X10_isPlace at hF
  have hl : lv_has ls 1 [(0, kp_iv a1)] := hl
  refine kp_iload_n C dX10_isPlace_0 rfl (lv_at hl 0 rfl) ?_
  refine kp_iconst C dX10_isPlace_1 ?_
  refine kp_bipush C dX10_isPlace_2 rfl ?_
  obtain ⟨r_0, σ_1, hc, hF⟩ := kp_bd_s hF
  refine kp_ci h (kp_rS (As := [kp_iv a1, kp_iv 0, kp_iv 9]) (rest := []) C G h (kc_X10_in  hc) q4_128 q4_129 q1_11 q4_130 hd_X10_in (by decide) rfl hl.1 rfl (Nat.le_of_ble_eq_true rfl) dX10_isPlace_4) (fun H locs h => ?_)
  exact kp_retz C hr hlk G h dX10_isPlace_7 hF
def kf_X10_isMinute  (a1 : Int) (σ_0 : kp_W) : kp_R :=
  kp_bd (kf_X10_in a1 0 39 σ_0) (fun r_0 σ_1 => kp_ck (r_0 = 0 ∨ r_0 = 1) (some (r_0, σ_1)))
set_option maxRecDepth 100000 in
set_option maxHeartbeats 4000000 in
theorem kc_X10_isMinute {l : Launch} {X : kp_X} {a1 : Int}  {σ_0 σ' : kp_W} {r : Int}   (hF : (kf_X10_isMinute a1 σ_0) = some (r, σ')) : kp_Met l yX10_isMinute cX10_isMinute 1 (some .boolean) 1 X kp_lM 10 σ_0 [kp_iv a1] (kp_Qi X kp_lM 10 σ' r) := by
  refine kp_body pnX10 (Nat.le_of_ble_eq_true rfl) ?_
  intro p e s m args below meth c ls C hr hlk G h hl
  unfold kf_X10_isMinute at hF
  have hl : lv_has ls 1 [(0, kp_iv a1)] := hl
  refine kp_iload_n C dX10_isMinute_0 rfl (lv_at hl 0 rfl) ?_
  refine kp_iconst C dX10_isMinute_1 ?_
  refine kp_bipush C dX10_isMinute_2 rfl ?_
  obtain ⟨r_0, σ_1, hc, hF⟩ := kp_bd_s hF
  refine kp_ci h (kp_rS (As := [kp_iv a1, kp_iv 0, kp_iv 39]) (rest := []) C G h (kc_X10_in  hc) q4_128 q4_129 q1_11 q4_130 hd_X10_in (by decide) rfl hl.1 rfl (Nat.le_of_ble_eq_true rfl) dX10_isMinute_4) (fun H locs h => ?_)
  exact kp_retz C hr hlk G h dX10_isMinute_7 hF
def kl_X10_day_34 (a1 : Int) (a2 : Int) : Nat → Int → Int → kp_W → (Int → kp_W → kp_R) → kp_R
  | 0, _, _, _, _ => none
  | n + 1, x4_1, x5_1, σ_2, k => kp_ls x5_1 40 (kp_lt (((130 + (40 * a1)) + x5_1) : Int) (fun x6_0 => kp_ck (0 ≤ x6_0 ∧ x6_0 < 1066) (kp_lt ((x4_1 + (σ_2 1 (Int.toNat x6_0))) : Int) (fun x4_3 => kp_ck (kp_inL a2 ∧ 0 ≤ x5_1 ∧ x5_1 < 64) (kp_ck (0 ≤ x6_0 ∧ x6_0 < 1066) (kp_lt (kp_up σ_2 1 (Int.toNat x6_0) (kp_andL (a2 / 2 ^ (Int.toNat x5_1)) 1)) (fun σ_4 => kp_lt (x5_1 + 1) (fun x5_2 => kl_X10_day_34 a1 a2 n x4_3 x5_2 σ_4 k)))))))) (k x4_1 σ_2)
def kf_X10_day  (a1 : Int) (a2 : Int) (σ_0 : kp_W) : kp_R :=
  kp_bd (kf_X10_in a1 0 2 σ_0) (fun r_0 σ_1 => kp_eq r_0 0 (some ((-1), σ_1)) (kp_ck (kp_inL a2 ∧ kp_inL 0) (kp_ls (kp_cmp a2 0) 0 (some ((-2), σ_1)) (kp_ck (kp_inL a2 ∧ kp_inL 1099511627776) (kp_ls (kp_cmp a2 1099511627776) 0 (kp_lt (0 : Int) (fun x4_0 => kp_lt (0 : Int) (fun x5_0 => kl_X10_day_34 a1 a2 kp_fu x4_0 x5_0 σ_1 (fun (x4_2 : Int) (σ_3 : kp_W) => some (x4_2, σ_3))))) (some ((-2), σ_1)))))))
set_option maxRecDepth 100000 in
set_option maxHeartbeats 4000000 in
theorem kc_X10_day {l : Launch} {X : kp_X} {a1 : Int} {a2 : Int}  {σ_0 σ' : kp_W} {r : Int}   (hF : (kf_X10_day a1 a2 σ_0) = some (r, σ')) : kp_Met l yX10_day cX10_day 7 (some .int) 1 X kp_lM 10 σ_0 [.ref (kp_ad X 0), kp_iv a1, kp_jv a2] (kp_Qi X kp_lM 10 σ' r) := by
  refine kp_body pnX10 (Nat.le_of_ble_eq_true rfl) ?_
  intro p e s m args below meth c ls C hr hlk G h hl
  unfold kf_X10_day at hF
  have hl : lv_has ls 7 [(0, .ref (kp_ad X 0)), (1, kp_iv a1), (2, kp_jv a2)] := hl
  refine kp_iload_n C dX10_day_0 rfl (lv_at hl 1 rfl) ?_
  refine kp_iconst C dX10_day_1 ?_
  refine kp_iconst C dX10_day_2 ?_
  obtain ⟨r_0, σ_1, hc, hF⟩ := kp_bd_s hF
  refine kp_ci h (kp_rS (As := [kp_iv a1, kp_iv 0, kp_iv 2]) (rest := []) C G h (kc_X10_in  hc) q4_128 q4_129 q1_11 q4_130 hd_X10_in (by decide) rfl hl.1 rfl (Nat.le_of_ble_eq_true rfl) dX10_day_3) (fun H locs h => ?_)
  refine kp_if_ne (tgt := 11) C dX10_day_6 (by decide) hF (fun hF => ?_) (fun hF => ?_)
  · refine kp_lload_n C dX10_day_11 rfl (lv_at hl 2 rfl) ?_
    refine kp_lconst (v := 0) C dX10_day_12 rfl ?_
    refine kp_xlcmp C dX10_day_13 hF (fun hF => ?_)
    refine kp_if_lt (tgt := 25) C dX10_day_14 (by decide) hF (fun hF => ?_) (fun hF => ?_)
    · refine kp_bipush C dX10_day_25 rfl ?_
      exact kp_reti C hr hlk G h dX10_day_27 hF
    · refine kp_lload_n C dX10_day_17 rfl (lv_at hl 2 rfl) ?_
      refine kp_ldc2 (n := 1099511627776) C q4_131 rfl dX10_day_18 ?_
      refine kp_xlcmp C dX10_day_21 hF (fun hF => ?_)
      refine kp_if_lt (tgt := 28) C dX10_day_22 (by decide) hF (fun hF => ?_) (fun hF => ?_)
      · refine kp_iconst C dX10_day_28 ?_
        refine kp_istore (lv' := fun x4_0 => [(4, kp_iv x4_0), (0, .ref (kp_ad X 0)), (1, kp_iv a1), (2, kp_jv a2)]) C dX10_day_29 hl (by decide) (fun _ => rfl) hF (fun x4_0 ls hl hF => ?_)
        refine kp_iconst C dX10_day_31 ?_
        refine kp_istore (lv' := fun x5_0 => [(5, kp_iv x5_0), (4, kp_iv x4_0), (0, .ref (kp_ad X 0)), (1, kp_iv a1), (2, kp_jv a2)]) C dX10_day_32 hl (by decide) (fun _ => rfl) hF (fun x5_0 ls hl hF => ?_)
        have L34 : ∀ (n : Nat) (x4_1 : Int) (x5_1 : Int) (σ_2 : kp_W) (k : Int → kp_W → kp_R) (H : Heap) (locs : List Loc) (ls : Array Slot), kp_H X kp_lM 10 s σ_2 H locs → lv_has ls 7 [(0, .ref (kp_ad X 0)), (1, kp_iv a1), (2, kp_jv a2), (4, kp_iv x4_1), (5, kp_iv x5_1)] → (∀ (x4_2 : Int) (σ_3 : kp_W) (H : Heap) (locs : List Loc) (ls : Array Slot), kp_H X kp_lM 10 s σ_3 H locs → lv_has ls 7 [(4, kp_iv x4_2)] → k x4_2 σ_3 = some (r, σ') → W p l e (kp_rm 1) s m args below meth c H locs 0 0 (MQ below (kp_Qi X kp_lM 10 σ' r) args s 0 0 (kp_A X 10)) (F0 m 86 ls [])) → kl_X10_day_34 a1 a2 n x4_1 x5_1 σ_2 k = some (r, σ') → W p l e (kp_rm 1) s m args below meth c H locs 0 0 (MQ below (kp_Qi X kp_lM 10 σ' r) args s 0 0 (kp_A X 10)) (F0 m 34 ls []) := by
          intro n
          induction n with
          | zero =>
            intro x4_1 x5_1 σ_2 k H locs ls h hl K hF
            rw [kl_X10_day_34] at hF
            cases hF
          | succ n ih =>
            intro x4_1 x5_1 σ_2 k H locs ls h hl K hF
            rw [kl_X10_day_34] at hF
            refine kp_iload C dX10_day_34 (lv_at hl 4 rfl) ?_
            refine kp_bipush C dX10_day_36 rfl ?_
            refine kp_icmp_ge (tgt := 86) C dX10_day_38 (by decide) hF (fun hF => ?_) (fun hF => ?_)
            · exact K _ _ _ _ _ h (lv_sub hl [3] rfl) hF
            · refine kp_sipush C dX10_day_41 rfl ?_
              refine kp_bipush C dX10_day_44 rfl ?_
              refine kp_iload_n C dX10_day_46 rfl (lv_at hl 1 rfl) ?_
              refine kp_imul C dX10_day_47 ?_
              refine kp_iadd C dX10_day_48 ?_
              refine kp_iload C dX10_day_49 (lv_at hl 4 rfl) ?_
              refine kp_iadd C dX10_day_51 ?_
              refine kp_istore (lv' := fun x6_0 => [(6, kp_iv x6_0), (0, .ref (kp_ad X 0)), (1, kp_iv a1), (2, kp_jv a2), (4, kp_iv x4_1), (5, kp_iv x5_1)]) C dX10_day_52 hl (by decide) (fun _ => rfl) hF (fun x6_0 ls hl hF => ?_)
              refine kp_iload C dX10_day_54 (lv_at hl 4 rfl) ?_
              refine kp_aload_n C dX10_day_56 rfl (lv_at hl 1 rfl) ?_
              refine kp_getr C G h kp_lM0 rfl inWX10 (j := 1) (by decide) q4_45 rfl dX10_day_57 ?_
              refine kp_iload C dX10_day_60 (lv_at hl 0 rfl) ?_
              refine kp_iald C G h (n := 1066) kp_lM1 (by decide) dX10_day_62 hF (fun hF => ?_)
              refine kp_iadd C dX10_day_63 ?_
              refine kp_istore (lv' := fun x4_3 => [(4, kp_iv x4_3), (6, kp_iv x6_0), (0, .ref (kp_ad X 0)), (1, kp_iv a1), (2, kp_jv a2), (5, kp_iv x5_1)]) C dX10_day_64 hl (by decide) (fun _ => rfl) hF (fun x4_3 ls hl hF => ?_)
              refine kp_aload_n C dX10_day_66 rfl (lv_at hl 2 rfl) ?_
              refine kp_getr C G h kp_lM0 rfl inWX10 (j := 1) (by decide) q4_45 rfl dX10_day_67 ?_
              refine kp_iload C dX10_day_70 (lv_at hl 1 rfl) ?_
              refine kp_lload_n C dX10_day_72 rfl (lv_at hl 4 rfl) ?_
              refine kp_iload C dX10_day_73 (lv_at hl 5 rfl) ?_
              refine kp_xlshr C dX10_day_75 hF (fun hF => ?_)
              refine kp_lconst (v := 1) C dX10_day_76 rfl ?_
              refine kp_xland C dX10_day_77 ?_
              refine kp_xl2i C dX10_day_78 ?_
              refine kp_iast C G h (n := 1066) kp_lM1 (by decide) dX10_day_79 hF (fun σ_4 H locs h hF => ?_)
              refine kp_iinc (k := 5) (lv' := fun x5_2 => [(5, kp_iv x5_2), (4, kp_iv x4_3), (6, kp_iv x6_0), (0, .ref (kp_ad X 0)), (1, kp_iv a1), (2, kp_jv a2)]) C dX10_day_80 hl rfl (by decide) (fun _ => rfl) hF (fun x5_2 ls hl hF => ?_)
              refine kp_goto (tgt := 34) C dX10_day_83 (by decide) ?_
              exact ih _ _ _ k _ _ _ h (lv_sub hl [3, 4, 5, 1, 0] rfl) K hF
        refine L34 kp_fu _ _ _ _ _ _ _ h (lv_sub hl [2, 3, 4, 1, 0] rfl) (fun x4_2 σ_3 H locs ls h hl hF => ?_) hF
        clear L34
        refine kp_iload C dX10_day_86 (lv_at hl 0 rfl) ?_
        exact kp_reti C hr hlk G h dX10_day_88 hF
      · refine kp_bipush C dX10_day_25 rfl ?_
        exact kp_reti C hr hlk G h dX10_day_27 hF
  · refine kp_iconst C dX10_day_9 ?_
    exact kp_reti C hr hlk G h dX10_day_10 hF
def kl_X10_feed_34 (a1 : Int) : Nat → Int → kp_W → (kp_W → kp_R) → kp_R
  | 0, _, _, _ => none
  | n + 1, x4_1, σ_2, k => kp_ls x4_1 0 (k σ_2) (kp_ck (kp_inL a1 ∧ 0 ≤ (8 * x4_1) ∧ (8 * x4_1) < 64) (kp_ck (0 ≤ (10 + (σ_2 1 3)) ∧ (10 + (σ_2 1 3)) < 1066) (kp_lt (kp_up σ_2 1 (Int.toNat (10 + (σ_2 1 3))) (kp_andL (a1 / 2 ^ (Int.toNat (8 * x4_1))) 255)) (fun σ_4 => kp_lt (kp_up σ_4 1 3 ((σ_4 1 3) + 1)) (fun σ_5 => kp_lt (x4_1 + (-1)) (fun x4_2 => kl_X10_feed_34 a1 n x4_2 σ_5 k))))))
def kf_X10_feed  (a1 : Int) (a2 : Int) (σ_0 : kp_W) : kp_R :=
  kp_bd (kf_X10_in a2 1 8 σ_0) (fun r_0 σ_1 => kp_eq r_0 0 (some ((-2), σ_1)) (kp_ls 120 ((σ_1 1 3) + a2) (some ((-4), σ_1)) (kp_lt ((a2 - 1) : Int) (fun x4_0 => kl_X10_feed_34 a1 kp_fu x4_0 σ_1 (fun (σ_3 : kp_W) => some ((σ_3 1 3), σ_3))))))
set_option maxRecDepth 100000 in
set_option maxHeartbeats 4000000 in
theorem kc_X10_feed {l : Launch} {X : kp_X} {a1 : Int} {a2 : Int}  {σ_0 σ' : kp_W} {r : Int}   (hF : (kf_X10_feed a1 a2 σ_0) = some (r, σ')) : kp_Met l yX10_feed cX10_feed 5 (some .int) 1 X kp_lM 10 σ_0 [.ref (kp_ad X 0), kp_jv a1, kp_iv a2] (kp_Qi X kp_lM 10 σ' r) := by
  refine kp_body pnX10 (Nat.le_of_ble_eq_true rfl) ?_
  intro p e s m args below meth c ls C hr hlk G h hl
  unfold kf_X10_feed at hF
  have hl : lv_has ls 5 [(0, .ref (kp_ad X 0)), (1, kp_jv a1), (3, kp_iv a2)] := hl
  refine kp_iload_n C dX10_feed_0 rfl (lv_at hl 2 rfl) ?_
  refine kp_iconst C dX10_feed_1 ?_
  refine kp_bipush C dX10_feed_2 rfl ?_
  obtain ⟨r_0, σ_1, hc, hF⟩ := kp_bd_s hF
  refine kp_ci h (kp_rS (As := [kp_iv a2, kp_iv 1, kp_iv 8]) (rest := []) C G h (kc_X10_in  hc) q4_128 q4_129 q1_11 q4_130 hd_X10_in (by decide) rfl hl.1 rfl (Nat.le_of_ble_eq_true rfl) dX10_feed_4) (fun H locs h => ?_)
  refine kp_if_ne (tgt := 13) C dX10_feed_7 (by decide) hF (fun hF => ?_) (fun hF => ?_)
  · refine kp_aload_n C dX10_feed_13 rfl (lv_at hl 0 rfl) ?_
    refine kp_getr C G h kp_lM0 rfl inWX10 (j := 1) (by decide) q4_45 rfl dX10_feed_14 ?_
    refine kp_iconst C dX10_feed_17 ?_
    refine kp_iald0 C G h (i := 3) (n := 1066) kp_lM1 (by decide) (by decide) dX10_feed_18 ?_
    refine kp_iload_n C dX10_feed_19 rfl (lv_at hl 2 rfl) ?_
    refine kp_iadd C dX10_feed_20 ?_
    refine kp_bipush C dX10_feed_21 rfl ?_
    refine kp_icmp_le (tgt := 29) C dX10_feed_23 (by decide) hF (fun hF => ?_) (fun hF => ?_)
    · refine kp_iload_n C dX10_feed_29 rfl (lv_at hl 2 rfl) ?_
      refine kp_iconst C dX10_feed_30 ?_
      refine kp_isub C dX10_feed_31 ?_
      refine kp_istore (lv' := fun x4_0 => [(4, kp_iv x4_0), (0, .ref (kp_ad X 0)), (1, kp_jv a1), (3, kp_iv a2)]) C dX10_feed_32 hl (by decide) (fun _ => rfl) hF (fun x4_0 ls hl hF => ?_)
      have L34 : ∀ (n : Nat) (x4_1 : Int) (σ_2 : kp_W) (k : kp_W → kp_R) (H : Heap) (locs : List Loc) (ls : Array Slot), kp_H X kp_lM 10 s σ_2 H locs → lv_has ls 5 [(0, .ref (kp_ad X 0)), (1, kp_jv a1), (4, kp_iv x4_1)] → (∀ (σ_3 : kp_W) (H : Heap) (locs : List Loc) (ls : Array Slot), kp_H X kp_lM 10 s σ_3 H locs → lv_has ls 5 [(0, .ref (kp_ad X 0))] → k σ_3 = some (r, σ') → W p l e (kp_rm 1) s m args below meth c H locs 0 0 (MQ below (kp_Qi X kp_lM 10 σ' r) args s 0 0 (kp_A X 10)) (F0 m 81 ls [])) → kl_X10_feed_34 a1 n x4_1 σ_2 k = some (r, σ') → W p l e (kp_rm 1) s m args below meth c H locs 0 0 (MQ below (kp_Qi X kp_lM 10 σ' r) args s 0 0 (kp_A X 10)) (F0 m 34 ls []) := by
        intro n
        induction n with
        | zero =>
          intro x4_1 σ_2 k H locs ls h hl K hF
          rw [kl_X10_feed_34] at hF
          cases hF
        | succ n ih =>
          intro x4_1 σ_2 k H locs ls h hl K hF
          rw [kl_X10_feed_34] at hF
          refine kp_iload C dX10_feed_34 (lv_at hl 2 rfl) ?_
          refine kp_if_lt (tgt := 81) C dX10_feed_36 (by decide) hF (fun hF => ?_) (fun hF => ?_)
          · exact K _ _ _ _ h (lv_sub hl [0] rfl) hF
          · refine kp_aload_n C dX10_feed_39 rfl (lv_at hl 0 rfl) ?_
            refine kp_getr C G h kp_lM0 rfl inWX10 (j := 1) (by decide) q4_45 rfl dX10_feed_40 ?_
            refine kp_bipush C dX10_feed_43 rfl ?_
            refine kp_aload_n C dX10_feed_45 rfl (lv_at hl 0 rfl) ?_
            refine kp_getr C G h kp_lM0 rfl inWX10 (j := 1) (by decide) q4_45 rfl dX10_feed_46 ?_
            refine kp_iconst C dX10_feed_49 ?_
            refine kp_iald0 C G h (i := 3) (n := 1066) kp_lM1 (by decide) (by decide) dX10_feed_50 ?_
            refine kp_iadd C dX10_feed_51 ?_
            refine kp_lload_n C dX10_feed_52 rfl (lv_at hl 1 rfl) ?_
            refine kp_bipush C dX10_feed_53 rfl ?_
            refine kp_iload C dX10_feed_55 (lv_at hl 2 rfl) ?_
            refine kp_imul C dX10_feed_57 ?_
            refine kp_xlshr C dX10_feed_58 hF (fun hF => ?_)
            refine kp_ldc2 (n := 255) C q4_136 rfl dX10_feed_59 ?_
            refine kp_xland C dX10_feed_62 ?_
            refine kp_xl2i C dX10_feed_63 ?_
            refine kp_iast C G h (n := 1066) kp_lM1 (by decide) dX10_feed_64 hF (fun σ_4 H locs h hF => ?_)
            refine kp_aload_n C dX10_feed_65 rfl (lv_at hl 0 rfl) ?_
            refine kp_getr C G h kp_lM0 rfl inWX10 (j := 1) (by decide) q4_45 rfl dX10_feed_66 ?_
            refine kp_iconst C dX10_feed_69 ?_
            refine kp_dup2 C dX10_feed_70 rfl rfl ?_
            refine kp_iald0 C G h (i := 3) (n := 1066) kp_lM1 (by decide) (by decide) dX10_feed_71 ?_
            refine kp_iconst C dX10_feed_72 ?_
            refine kp_iadd C dX10_feed_73 ?_
            have hF := kp_ck_i (c := 0 ≤ (3 : Int) ∧ (3 : Int) < 1066) (by decide) hF
            refine kp_iast C G h (n := 1066) kp_lM1 (by decide) dX10_feed_74 hF (fun σ_5 H locs h hF => ?_)
            refine kp_iinc (k := 2) (lv' := fun x4_2 => [(4, kp_iv x4_2), (0, .ref (kp_ad X 0)), (1, kp_jv a1)]) C dX10_feed_75 hl rfl (by decide) (fun _ => rfl) hF (fun x4_2 ls hl hF => ?_)
            refine kp_goto (tgt := 34) C dX10_feed_78 (by decide) ?_
            exact ih _ _ k _ _ _ h (lv_sub hl [1, 2, 0] rfl) K hF
      refine L34 kp_fu _ _ _ _ _ _ h (lv_sub hl [1, 2, 0] rfl) (fun σ_3 H locs ls h hl hF => ?_) hF
      clear L34
      refine kp_aload_n C dX10_feed_81 rfl (lv_at hl 0 rfl) ?_
      refine kp_getr C G h kp_lM0 rfl inWX10 (j := 1) (by decide) q4_45 rfl dX10_feed_82 ?_
      refine kp_iconst C dX10_feed_85 ?_
      refine kp_iald0 C G h (i := 3) (n := 1066) kp_lM1 (by decide) (by decide) dX10_feed_86 ?_
      exact kp_reti C hr hlk G h dX10_feed_87 hF
    · refine kp_bipush C dX10_feed_26 rfl ?_
      exact kp_reti C hr hlk G h dX10_feed_28 hF
  · refine kp_bipush C dX10_feed_10 rfl ?_
    exact kp_reti C hr hlk G h dX10_feed_12 hF
def kf_X10_here   (σ_0 : kp_W) : kp_R :=
  kp_ls (σ_0 0 5) (σ_0 0 6) (kp_ck (0 ≤ (10 + (σ_0 0 5)) ∧ (10 + (σ_0 0 5)) < 1066) (some ((σ_0 1 (Int.toNat (10 + (σ_0 0 5)))), σ_0))) (some ((-1), σ_0))
set_option maxRecDepth 100000 in
set_option maxHeartbeats 4000000 in
theorem kc_X10_here {l : Launch} {X : kp_X}  {σ_0 σ' : kp_W} {r : Int}   (hF : (kf_X10_here σ_0) = some (r, σ')) : kp_Met l yX10_here cX10_here 1 (some .int) 0 X kp_lM 10 σ_0 [.ref (kp_ad X 0)] (kp_Qi X kp_lM 10 σ' r) := by
  refine kp_body pnX10 (Nat.le_of_ble_eq_true rfl) ?_
  intro p e s m args below meth c ls C hr hlk G h hl
  unfold kf_X10_here at hF
  have hl : lv_has ls 1 [(0, .ref (kp_ad X 0))] := hl
  refine kp_aload_n C dX10_here_0 rfl (lv_at hl 0 rfl) ?_
  refine kp_geti C G h kp_lM0 rfl inWX10 (j := 5) (by decide) q4_49 rfl dX10_here_1 ?_
  refine kp_aload_n C dX10_here_4 rfl (lv_at hl 0 rfl) ?_
  refine kp_geti C G h kp_lM0 rfl inWX10 (j := 6) (by decide) q4_50 rfl dX10_here_5 ?_
  refine kp_icmp_ge (tgt := 26) C dX10_here_8 (by decide) hF (fun hF => ?_) (fun hF => ?_)
  · refine kp_iconst C dX10_here_26 ?_
    exact kp_reti C hr hlk G h dX10_here_27 hF
  · refine kp_aload_n C dX10_here_11 rfl (lv_at hl 0 rfl) ?_
    refine kp_getr C G h kp_lM0 rfl inWX10 (j := 1) (by decide) q4_45 rfl dX10_here_12 ?_
    refine kp_bipush C dX10_here_15 rfl ?_
    refine kp_aload_n C dX10_here_17 rfl (lv_at hl 0 rfl) ?_
    refine kp_geti C G h kp_lM0 rfl inWX10 (j := 5) (by decide) q4_49 rfl dX10_here_18 ?_
    refine kp_iadd C dX10_here_21 ?_
    refine kp_iald C G h (n := 1066) kp_lM1 (by decide) dX10_here_22 hF (fun hF => ?_)
    refine kp_goto (tgt := 27) C dX10_here_23 (by decide) ?_
    exact kp_reti C hr hlk G h dX10_here_27 hF
def kf_X10_must  (a1 : Int) (σ_0 : kp_W) : kp_R :=
  kp_jn (fun (v_0 : Int) (σ_1 : kp_W) => kp_ck (v_0 = 0 ∨ v_0 = 1) (kp_lt (kp_up σ_1 0 7 v_0) (fun σ_2 => kp_eq (σ_2 0 7) 0 (kp_lt (kp_up σ_2 0 5 ((σ_2 0 5) + 1)) (fun σ_3 => some (0, σ_3))) (kp_lt (kp_up σ_2 0 5 ((σ_2 0 5) + 0)) (fun σ_4 => some (0, σ_4)))))) (fun j21 => kp_jn (fun (σ_5 : kp_W) => j21 1 σ_5) (fun j16 => kp_eq (σ_0 0 7) 0 (kp_bd (kf_X10_here σ_0) (fun r_0 σ_6 => kp_eq r_0 a1 (j21 0 σ_6) (j16 σ_6))) (j16 σ_0)))
set_option maxRecDepth 100000 in
set_option maxHeartbeats 4000000 in
theorem kc_X10_must {l : Launch} {X : kp_X} {a1 : Int}  {σ_0 σ' : kp_W} {r : Int}   (hF : (kf_X10_must a1 σ_0) = some (r, σ')) : kp_Met l yX10_must cX10_must 2 none 1 X kp_lM 10 σ_0 [.ref (kp_ad X 0), kp_iv a1] (kp_Qv X kp_lM 10 σ') := by
  refine kp_body pnX10 (Nat.le_of_ble_eq_true rfl) ?_
  intro p e s m args below meth c ls C hr hlk G h hl
  unfold kf_X10_must at hF
  have hl : lv_has ls 2 [(0, .ref (kp_ad X 0)), (1, kp_iv a1)] := hl
  refine kp_aload_n C dX10_must_0 rfl (lv_at hl 0 rfl) ?_
  refine kp_aload_n C dX10_must_1 rfl (lv_at hl 0 rfl) ?_
  refine kp_geti C G h kp_lM0 rfl inWX10 (j := 7) (by decide) q4_51 rfl dX10_must_2 ?_
  obtain ⟨j21, ej21, hF⟩ := kp_jn_s hF
  have J21 : ∀ (v_0 : Int), ∀ (σ_1 : kp_W), ∀ (H : Heap) (locs : List Loc) (ls : Array Slot), kp_H X kp_lM 10 s σ_1 H locs → lv_has ls 2 [(0, .ref (kp_ad X 0))] → j21 v_0 σ_1 = some (r, σ') → W p l e (kp_rm 1) s m args below meth c H locs 0 0 (MQ below (kp_Qv X kp_lM 10 σ') args s 0 0 (kp_A X 10)) (F0 m 21 ls [kp_iv v_0, .ref (kp_ad X 0)]) := by
    intro v_0 σ_1 H locs ls h hl hF
    rw [ej21] at hF
    refine kp_putz C G h kp_lM0 rfl inWX10 tyX10 tyX10_ok nmX10 (j := 7) (by decide) q4_51 rfl rfl (by decide +kernel) dX10_must_21 hF (fun σ_2 H locs h hF => ?_)
    refine kp_aload_n C dX10_must_24 rfl (lv_at hl 0 rfl) ?_
    refine kp_dup C dX10_must_25 rfl ?_
    refine kp_geti C G h kp_lM0 rfl inWX10 (j := 5) (by decide) q4_49 rfl dX10_must_26 ?_
    refine kp_aload_n C dX10_must_29 rfl (lv_at hl 0 rfl) ?_
    refine kp_geti C G h kp_lM0 rfl inWX10 (j := 7) (by decide) q4_51 rfl dX10_must_30 ?_
    refine kp_if_eq (tgt := 40) C dX10_must_33 (by decide) hF (fun hF => ?_) (fun hF => ?_)
    · refine kp_iconst C dX10_must_40 ?_
      refine kp_iadd C dX10_must_41 ?_
      refine kp_puti C G h kp_lM0 rfl inWX10 tyX10 tyX10_ok nmX10 (j := 5) (by decide) q4_49 rfl rfl (by decide +kernel) dX10_must_42 hF (fun σ_3 H locs h hF => ?_)
      exact kp_retv (v := 0) C hr hlk G h dX10_must_45 hF
    · refine kp_iconst C dX10_must_36 ?_
      refine kp_goto (tgt := 41) C dX10_must_37 (by decide) ?_
      refine kp_iadd C dX10_must_41 ?_
      refine kp_puti C G h kp_lM0 rfl inWX10 tyX10 tyX10_ok nmX10 (j := 5) (by decide) q4_49 rfl rfl (by decide +kernel) dX10_must_42 hF (fun σ_4 H locs h hF => ?_)
      exact kp_retv (v := 0) C hr hlk G h dX10_must_45 hF
  clear ej21
  obtain ⟨j16, ej16, hF⟩ := kp_jn_s hF
  have J16 : ∀ (σ_5 : kp_W), ∀ (H : Heap) (locs : List Loc) (ls : Array Slot), kp_H X kp_lM 10 s σ_5 H locs → lv_has ls 2 [(0, .ref (kp_ad X 0))] → j16 σ_5 = some (r, σ') → W p l e (kp_rm 1) s m args below meth c H locs 0 0 (MQ below (kp_Qv X kp_lM 10 σ') args s 0 0 (kp_A X 10)) (F0 m 16 ls [.ref (kp_ad X 0)]) := by
    intro σ_5 H locs ls h hl hF
    rw [ej16] at hF
    refine kp_iconst C dX10_must_16 ?_
    refine kp_goto (tgt := 21) C dX10_must_17 (by decide) ?_
    exact J21 _ _ _ _ _ h (lv_sub hl [0] rfl) hF
  clear ej16
  refine kp_if_ne (tgt := 16) C dX10_must_5 (by decide) hF (fun hF => ?_) (fun hF => ?_)
  · exact J16 _ _ _ _ h (lv_sub hl [0] rfl) hF
  · refine kp_aload_n C dX10_must_8 rfl (lv_at hl 0 rfl) ?_
    obtain ⟨r_0, σ_6, hc, hF⟩ := kp_bd_s hF
    refine kp_ci h (kp_rV (k := 0) (As := []) (rest := [.ref (kp_ad X 0)]) C G h (kc_X10_here  hc) q4_145 q4_147 q0_3_0 q1_11 q4_148 ⟨rfl, hd_X10_here⟩ (by decide) kp_lM0 rfl rfl hl.1 rfl (Nat.le_of_ble_eq_true rfl) dX10_must_9) (fun H locs h => ?_)
    refine kp_iload_n C dX10_must_12 rfl (lv_at hl 1 rfl) ?_
    refine kp_icmp_eq (tgt := 20) C dX10_must_13 (by decide) hF (fun hF => ?_) (fun hF => ?_)
    · refine kp_iconst C dX10_must_20 ?_
      exact J21 _ _ _ _ _ h (lv_sub hl [0] rfl) hF
    · exact J16 _ _ _ _ h (lv_sub hl [0] rfl) hF
def kl_X10_spells_2 (a1 : Nat) : Nat → Int → kp_W → (kp_W → kp_R) → kp_R
  | 0, _, _, _ => none
  | n + 1, x2_1, σ_1, k => kp_ls x2_1 (kp_slen a1) (kp_ck (0 ≤ x2_1 ∧ x2_1 < kp_slen a1) (kp_bd (kf_X10_must (kp_sch a1 x2_1) σ_1) (fun r_0 σ_3 => kp_lt (x2_1 + 1) (fun x2_2 => kl_X10_spells_2 a1 n x2_2 σ_3 k)))) (k σ_1)
def kf_X10_spells  (a1 : Nat) (σ_0 : kp_W) : kp_R :=
  kp_lt (0 : Int) (fun x2_0 => kl_X10_spells_2 a1 kp_fu x2_0 σ_0 (fun (σ_2 : kp_W) => some (0, σ_2)))
set_option maxRecDepth 100000 in
set_option maxHeartbeats 4000000 in
theorem kc_X10_spells {l : Launch} {X : kp_X} {a1 : Nat}  {σ_0 σ' : kp_W} {r : Int} (h1 : a1 < 10)  (hF : (kf_X10_spells a1 σ_0) = some (r, σ')) : kp_Met l yX10_spells cX10_spells 3 none 5 X kp_lM 10 σ_0 [.ref (kp_ad X 0), .ref (kp_sK X a1)] (kp_Qv X kp_lM 10 σ') := by
  refine kp_body pnX10 (Nat.le_of_ble_eq_true rfl) ?_
  intro p e s m args below meth c ls C hr hlk G h hl
  unfold kf_X10_spells at hF
  have hl : lv_has ls 3 [(0, .ref (kp_ad X 0)), (1, .ref (kp_sK X a1))] := hl
  refine kp_iconst C dX10_spells_0 ?_
  refine kp_istore_n (lv' := fun x2_0 => [(2, kp_iv x2_0), (0, .ref (kp_ad X 0)), (1, .ref (kp_sK X a1))]) C dX10_spells_1 rfl hl (by decide) (fun _ => rfl) hF (fun x2_0 ls hl hF => ?_)
  have L2 : ∀ (n : Nat) (x2_1 : Int) (σ_1 : kp_W) (k : kp_W → kp_R) (H : Heap) (locs : List Loc) (ls : Array Slot), kp_H X kp_lM 10 s σ_1 H locs → lv_has ls 3 [(0, .ref (kp_ad X 0)), (1, .ref (kp_sK X a1)), (2, kp_iv x2_1)] → (∀ (σ_2 : kp_W) (H : Heap) (locs : List Loc) (ls : Array Slot), kp_H X kp_lM 10 s σ_2 H locs → lv_has ls 3 [] → k σ_2 = some (r, σ') → W p l e (kp_rm 5) s m args below meth c H locs 0 0 (MQ below (kp_Qv X kp_lM 10 σ') args s 0 0 (kp_A X 10)) (F0 m 25 ls [])) → kl_X10_spells_2 a1 n x2_1 σ_1 k = some (r, σ') → W p l e (kp_rm 5) s m args below meth c H locs 0 0 (MQ below (kp_Qv X kp_lM 10 σ') args s 0 0 (kp_A X 10)) (F0 m 2 ls []) := by
    intro n
    induction n with
    | zero =>
      intro x2_1 σ_1 k H locs ls h hl K hF
      rw [kl_X10_spells_2] at hF
      cases hF
    | succ n ih =>
      intro x2_1 σ_1 k H locs ls h hl K hF
      rw [kl_X10_spells_2] at hF
      refine kp_iload_n C dX10_spells_2 rfl (lv_at hl 2 rfl) ?_
      refine kp_aload_n C dX10_spells_3 rfl (lv_at hl 1 rfl) ?_
      refine kp_ci h (kp_rT (i := a1) (As := []) (rest := [kp_iv x2_1]) C G h h1 (kc_length h1) q4_158 q2_149 q2_150 q1_13 q2_151 hd_J0_length_8abf5 (by decide) rfl hl.1 rfl (Nat.le_of_ble_eq_true rfl) dX10_spells_4) (fun H locs h => ?_)
      refine kp_icmp_ge (tgt := 25) C dX10_spells_7 (by decide) hF (fun hF => ?_) (fun hF => ?_)
      · exact K _ _ _ _ h (lv_sub hl [] rfl) hF
      · refine kp_aload_n C dX10_spells_10 rfl (lv_at hl 0 rfl) ?_
        refine kp_aload_n C dX10_spells_11 rfl (lv_at hl 1 rfl) ?_
        refine kp_iload_n C dX10_spells_12 rfl (lv_at hl 2 rfl) ?_
        obtain ⟨hcc, hF⟩ := kp_ck_s hF
        refine kp_ci h (kp_rT (i := a1) (As := [kp_iv x2_1]) (rest := [.ref (kp_ad X 0)]) C G h h1 (kc_charAt h1 hcc) q4_159 q2_80 q2_81 q1_13 q2_82 hd_J0_charAt_5068e (by decide) rfl hl.1 rfl (Nat.le_of_ble_eq_true rfl) dX10_spells_13) (fun H locs h => ?_)
        obtain ⟨r_0, σ_3, hc, hF⟩ := kp_bd_s hF
        refine kp_cv h (kp_rV (k := 0) (As := [kp_iv (kp_sch a1 x2_1)]) (rest := []) C G h (kc_X10_must  hc) q4_160 q4_162 q0_3_3 q1_11 q4_163 ⟨rfl, hd_X10_must⟩ (by decide) kp_lM0 rfl rfl hl.1 rfl (Nat.le_of_ble_eq_true rfl) dX10_spells_16) (fun H locs h => ?_)
        refine kp_iinc (k := 2) (lv' := fun x2_2 => [(2, kp_iv x2_2), (0, .ref (kp_ad X 0)), (1, .ref (kp_sK X a1))]) C dX10_spells_19 hl rfl (by decide) (fun _ => rfl) hF (fun x2_2 ls hl hF => ?_)
        refine kp_goto (tgt := 2) C dX10_spells_22 (by decide) ?_
        exact ih _ _ k _ _ _ h (lv_sub hl [1, 2, 0] rfl) K hF
  refine L2 kp_fu _ _ _ _ _ _ h (lv_sub hl [1, 2, 0] rfl) (fun σ_2 H locs ls h hl hF => ?_) hF
  clear L2
  exact kp_retv (v := 0) C hr hlk G h dX10_spells_25 hF
def kl_X10_figures_34  : Nat → Int → Int → kp_W → (Int → kp_W → kp_R) → kp_R
  | 0, _, _, _, _ => none
  | n + 1, x1_1, x2_1, σ_3, k => kp_ls x2_1 2 (kp_eq (σ_3 0 7) 0 (kp_bd (kf_X10_here σ_3) (fun r_0 σ_5 => kp_bd (kf_X10_in r_0 48 57 σ_5) (fun r_1 σ_6 => kp_eq r_1 0 (k x1_1 σ_6) (kp_jn (fun (_ : Unit) => kp_bd (kf_X10_here σ_6) (fun r_2 σ_7 => kp_lt ((((10 * x1_1) + r_2) - 48) : Int) (fun x1_3 => kp_lt (kp_up σ_7 0 5 ((σ_7 0 5) + 1)) (fun σ_8 => kp_lt (x2_1 + 1) (fun x2_2 => kl_X10_figures_34 n x1_3 x2_2 σ_8 k))))) (fun j68 => kp_eq x2_1 0 (j68 ()) (kp_ls 0 x1_1 (j68 ()) (k x1_1 σ_6))))))) (k x1_1 σ_3)) (k x1_1 σ_3)
def kf_X10_figures   (σ_0 : kp_W) : kp_R :=
  kp_jn (fun (v_0 : Int) (σ_1 : kp_W) => kp_ck (v_0 = 0 ∨ v_0 = 1) (kp_lt (kp_up σ_1 0 7 v_0) (fun σ_2 => kp_lt (0 : Int) (fun x1_0 => kp_lt (0 : Int) (fun x2_0 => kl_X10_figures_34 kp_fu x1_0 x2_0 σ_2 (fun (x1_2 : Int) (σ_4 : kp_W) => some (x1_2, σ_4))))))) (fun j27 => kp_jn (fun (σ_9 : kp_W) => j27 1 σ_9) (fun j22 => kp_eq (σ_0 0 7) 0 (kp_bd (kf_X10_here σ_0) (fun r_3 σ_10 => kp_bd (kf_X10_in r_3 48 57 σ_10) (fun r_4 σ_11 => kp_eq r_4 0 (j22 σ_11) (j27 0 σ_11)))) (j22 σ_0)))
set_option maxRecDepth 100000 in
set_option maxHeartbeats 4000000 in
theorem kc_X10_figures {l : Launch} {X : kp_X}  {σ_0 σ' : kp_W} {r : Int}   (hF : (kf_X10_figures σ_0) = some (r, σ')) : kp_Met l yX10_figures cX10_figures 3 (some .int) 1 X kp_lM 10 σ_0 [.ref (kp_ad X 0)] (kp_Qi X kp_lM 10 σ' r) := by
  refine kp_body pnX10 (Nat.le_of_ble_eq_true rfl) ?_
  intro p e s m args below meth c ls C hr hlk G h hl
  unfold kf_X10_figures at hF
  have hl : lv_has ls 3 [(0, .ref (kp_ad X 0))] := hl
  refine kp_aload_n C dX10_figures_0 rfl (lv_at hl 0 rfl) ?_
  refine kp_aload_n C dX10_figures_1 rfl (lv_at hl 0 rfl) ?_
  refine kp_geti C G h kp_lM0 rfl inWX10 (j := 7) (by decide) q4_51 rfl dX10_figures_2 ?_
  obtain ⟨j27, ej27, hF⟩ := kp_jn_s hF
  have J27 : ∀ (v_0 : Int), ∀ (σ_1 : kp_W), ∀ (H : Heap) (locs : List Loc) (ls : Array Slot), kp_H X kp_lM 10 s σ_1 H locs → lv_has ls 3 [(0, .ref (kp_ad X 0))] → j27 v_0 σ_1 = some (r, σ') → W p l e (kp_rm 1) s m args below meth c H locs 0 0 (MQ below (kp_Qi X kp_lM 10 σ' r) args s 0 0 (kp_A X 10)) (F0 m 27 ls [kp_iv v_0, .ref (kp_ad X 0)]) := by
    intro v_0 σ_1 H locs ls h hl hF
    rw [ej27] at hF
    refine kp_putz C G h kp_lM0 rfl inWX10 tyX10 tyX10_ok nmX10 (j := 7) (by decide) q4_51 rfl rfl (by decide +kernel) dX10_figures_27 hF (fun σ_2 H locs h hF => ?_)
    refine kp_iconst C dX10_figures_30 ?_
    refine kp_istore_n (lv' := fun x1_0 => [(1, kp_iv x1_0), (0, .ref (kp_ad X 0))]) C dX10_figures_31 rfl hl (by decide) (fun _ => rfl) hF (fun x1_0 ls hl hF => ?_)
    refine kp_iconst C dX10_figures_32 ?_
    refine kp_istore_n (lv' := fun x2_0 => [(2, kp_iv x2_0), (1, kp_iv x1_0), (0, .ref (kp_ad X 0))]) C dX10_figures_33 rfl hl (by decide) (fun _ => rfl) hF (fun x2_0 ls hl hF => ?_)
    have L34 : ∀ (n : Nat) (x1_1 : Int) (x2_1 : Int) (σ_3 : kp_W) (k : Int → kp_W → kp_R) (H : Heap) (locs : List Loc) (ls : Array Slot), kp_H X kp_lM 10 s σ_3 H locs → lv_has ls 3 [(0, .ref (kp_ad X 0)), (1, kp_iv x1_1), (2, kp_iv x2_1)] → (∀ (x1_2 : Int) (σ_4 : kp_W) (H : Heap) (locs : List Loc) (ls : Array Slot), kp_H X kp_lM 10 s σ_4 H locs → lv_has ls 3 [(1, kp_iv x1_2)] → k x1_2 σ_4 = some (r, σ') → W p l e (kp_rm 1) s m args below meth c H locs 0 0 (MQ below (kp_Qi X kp_lM 10 σ' r) args s 0 0 (kp_A X 10)) (F0 m 97 ls [])) → kl_X10_figures_34 n x1_1 x2_1 σ_3 k = some (r, σ') → W p l e (kp_rm 1) s m args below meth c H locs 0 0 (MQ below (kp_Qi X kp_lM 10 σ' r) args s 0 0 (kp_A X 10)) (F0 m 34 ls []) := by
      intro n
      induction n with
      | zero =>
        intro x1_1 x2_1 σ_3 k H locs ls h hl K hF
        rw [kl_X10_figures_34] at hF
        cases hF
      | succ n ih =>
        intro x1_1 x2_1 σ_3 k H locs ls h hl K hF
        rw [kl_X10_figures_34] at hF
        refine kp_iload_n C dX10_figures_34 rfl (lv_at hl 2 rfl) ?_
        refine kp_iconst C dX10_figures_35 ?_
        refine kp_icmp_ge (tgt := 97) C dX10_figures_36 (by decide) hF (fun hF => ?_) (fun hF => ?_)
        · exact K _ _ _ _ _ h (lv_sub hl [1] rfl) hF
        · refine kp_aload_n C dX10_figures_39 rfl (lv_at hl 0 rfl) ?_
          refine kp_geti C G h kp_lM0 rfl inWX10 (j := 7) (by decide) q4_51 rfl dX10_figures_40 ?_
          refine kp_if_ne (tgt := 97) C dX10_figures_43 (by decide) hF (fun hF => ?_) (fun hF => ?_)
          · exact K _ _ _ _ _ h (lv_sub hl [1] rfl) hF
          · refine kp_aload_n C dX10_figures_46 rfl (lv_at hl 0 rfl) ?_
            obtain ⟨r_0, σ_5, hc, hF⟩ := kp_bd_s hF
            refine kp_ci h (kp_rV (k := 0) (As := []) (rest := []) C G h (kc_X10_here  hc) q4_145 q4_147 q0_3_0 q1_11 q4_148 ⟨rfl, hd_X10_here⟩ (by decide) kp_lM0 rfl rfl hl.1 rfl (Nat.le_of_ble_eq_true rfl) dX10_figures_47) (fun H locs h => ?_)
            refine kp_bipush C dX10_figures_50 rfl ?_
            refine kp_bipush C dX10_figures_52 rfl ?_
            obtain ⟨r_1, σ_6, hc, hF⟩ := kp_bd_s hF
            refine kp_ci h (kp_rS (As := [kp_iv r_0, kp_iv 48, kp_iv 57]) (rest := []) C G h (kc_X10_in  hc) q4_128 q4_129 q1_11 q4_130 hd_X10_in (by decide) rfl hl.1 rfl (Nat.le_of_ble_eq_true rfl) dX10_figures_54) (fun H locs h => ?_)
            refine kp_if_eq (tgt := 97) C dX10_figures_57 (by decide) hF (fun hF => ?_) (fun hF => ?_)
            · exact K _ _ _ _ _ h (lv_sub hl [1] rfl) hF
            · refine kp_iload_n C dX10_figures_60 rfl (lv_at hl 2 rfl) ?_
              obtain ⟨j68, ej68, hF⟩ := kp_jn_s hF
              have J68 : ∀ _ : Unit, ∀ (H : Heap) (locs : List Loc) (ls : Array Slot), kp_H X kp_lM 10 s σ_6 H locs → lv_has ls 3 [(0, .ref (kp_ad X 0)), (1, kp_iv x1_1), (2, kp_iv x2_1)] → j68 () = some (r, σ') → W p l e (kp_rm 1) s m args below meth c H locs 0 0 (MQ below (kp_Qi X kp_lM 10 σ' r) args s 0 0 (kp_A X 10)) (F0 m 68 ls []) := by
                intro _ H locs ls h hl hF
                rw [ej68] at hF
                refine kp_bipush C dX10_figures_68 rfl ?_
                refine kp_iload_n C dX10_figures_70 rfl (lv_at hl 1 rfl) ?_
                refine kp_imul C dX10_figures_71 ?_
                refine kp_aload_n C dX10_figures_72 rfl (lv_at hl 0 rfl) ?_
                obtain ⟨r_2, σ_7, hc, hF⟩ := kp_bd_s hF
                refine kp_ci h (kp_rV (k := 0) (As := []) (rest := [kp_iv (10 * x1_1)]) C G h (kc_X10_here  hc) q4_145 q4_147 q0_3_0 q1_11 q4_148 ⟨rfl, hd_X10_here⟩ (by decide) kp_lM0 rfl rfl hl.1 rfl (Nat.le_of_ble_eq_true rfl) dX10_figures_73) (fun H locs h => ?_)
                refine kp_iadd C dX10_figures_76 ?_
                refine kp_bipush C dX10_figures_77 rfl ?_
                refine kp_isub C dX10_figures_79 ?_
                refine kp_istore_n (lv' := fun x1_3 => [(1, kp_iv x1_3), (0, .ref (kp_ad X 0)), (2, kp_iv x2_1)]) C dX10_figures_80 rfl hl (by decide) (fun _ => rfl) hF (fun x1_3 ls hl hF => ?_)
                refine kp_aload_n C dX10_figures_81 rfl (lv_at hl 1 rfl) ?_
                refine kp_dup C dX10_figures_82 rfl ?_
                refine kp_geti C G h kp_lM0 rfl inWX10 (j := 5) (by decide) q4_49 rfl dX10_figures_83 ?_
                refine kp_iconst C dX10_figures_86 ?_
                refine kp_iadd C dX10_figures_87 ?_
                refine kp_puti C G h kp_lM0 rfl inWX10 tyX10 tyX10_ok nmX10 (j := 5) (by decide) q4_49 rfl rfl (by decide +kernel) dX10_figures_88 hF (fun σ_8 H locs h hF => ?_)
                refine kp_iinc (k := 2) (lv' := fun x2_2 => [(2, kp_iv x2_2), (1, kp_iv x1_3), (0, .ref (kp_ad X 0))]) C dX10_figures_91 hl rfl (by decide) (fun _ => rfl) hF (fun x2_2 ls hl hF => ?_)
                refine kp_goto (tgt := 34) C dX10_figures_94 (by decide) ?_
                exact ih _ _ _ k _ _ _ h (lv_sub hl [2, 1, 0] rfl) K hF
              clear ej68
              refine kp_if_eq (tgt := 68) C dX10_figures_61 (by decide) hF (fun hF => ?_) (fun hF => ?_)
              · exact J68 () _ _ _ h (lv_sub hl [0, 1, 2] rfl) hF
              · refine kp_iload_n C dX10_figures_64 rfl (lv_at hl 1 rfl) ?_
                refine kp_if_le (tgt := 97) C dX10_figures_65 (by decide) hF (fun hF => ?_) (fun hF => ?_)
                · exact K _ _ _ _ _ h (lv_sub hl [1] rfl) hF
                · exact J68 () _ _ _ h (lv_sub hl [0, 1, 2] rfl) hF
    refine L34 kp_fu _ _ _ _ _ _ _ h (lv_sub hl [2, 1, 0] rfl) (fun x1_2 σ_4 H locs ls h hl hF => ?_) hF
    clear L34
    refine kp_iload_n C dX10_figures_97 rfl (lv_at hl 0 rfl) ?_
    exact kp_reti C hr hlk G h dX10_figures_98 hF
  clear ej27
  obtain ⟨j22, ej22, hF⟩ := kp_jn_s hF
  have J22 : ∀ (σ_9 : kp_W), ∀ (H : Heap) (locs : List Loc) (ls : Array Slot), kp_H X kp_lM 10 s σ_9 H locs → lv_has ls 3 [(0, .ref (kp_ad X 0))] → j22 σ_9 = some (r, σ') → W p l e (kp_rm 1) s m args below meth c H locs 0 0 (MQ below (kp_Qi X kp_lM 10 σ' r) args s 0 0 (kp_A X 10)) (F0 m 22 ls [.ref (kp_ad X 0)]) := by
    intro σ_9 H locs ls h hl hF
    rw [ej22] at hF
    refine kp_iconst C dX10_figures_22 ?_
    refine kp_goto (tgt := 27) C dX10_figures_23 (by decide) ?_
    exact J27 _ _ _ _ _ h (lv_sub hl [0] rfl) hF
  clear ej22
  refine kp_if_ne (tgt := 22) C dX10_figures_5 (by decide) hF (fun hF => ?_) (fun hF => ?_)
  · exact J22 _ _ _ _ h (lv_sub hl [0] rfl) hF
  · refine kp_aload_n C dX10_figures_8 rfl (lv_at hl 0 rfl) ?_
    obtain ⟨r_3, σ_10, hc, hF⟩ := kp_bd_s hF
    refine kp_ci h (kp_rV (k := 0) (As := []) (rest := [.ref (kp_ad X 0)]) C G h (kc_X10_here  hc) q4_145 q4_147 q0_3_0 q1_11 q4_148 ⟨rfl, hd_X10_here⟩ (by decide) kp_lM0 rfl rfl hl.1 rfl (Nat.le_of_ble_eq_true rfl) dX10_figures_9) (fun H locs h => ?_)
    refine kp_bipush C dX10_figures_12 rfl ?_
    refine kp_bipush C dX10_figures_14 rfl ?_
    obtain ⟨r_4, σ_11, hc, hF⟩ := kp_bd_s hF
    refine kp_ci h (kp_rS (As := [kp_iv r_3, kp_iv 48, kp_iv 57]) (rest := [.ref (kp_ad X 0)]) C G h (kc_X10_in  hc) q4_128 q4_129 q1_11 q4_130 hd_X10_in (by decide) rfl hl.1 rfl (Nat.le_of_ble_eq_true rfl) dX10_figures_16) (fun H locs h => ?_)
    refine kp_if_ne (tgt := 26) C dX10_figures_19 (by decide) hF (fun hF => ?_) (fun hF => ?_)
    · refine kp_iconst C dX10_figures_26 ?_
      exact J27 _ _ _ _ _ h (lv_sub hl [0] rfl) hF
    · exact J22 _ _ _ _ h (lv_sub hl [0] rfl) hF
def kl_X10_among_2 (a1 : Nat) : Nat → Int → kp_W → (Int → kp_W → kp_R) → kp_R
  | 0, _, _, _ => none
  | n + 1, x2_1, σ_1, k => kp_ls x2_1 (kp_slen a1) (kp_bd (kf_X10_here σ_1) (fun r_0 σ_4 => kp_ck (0 ≤ x2_1 ∧ x2_1 < kp_slen a1) (kp_eq r_0 (kp_sch a1 x2_1) (k x2_1 σ_4) (kp_lt (x2_1 + 1) (fun x2_3 => kl_X10_among_2 a1 n x2_3 σ_4 k))))) (some ((-1), σ_1))
def kf_X10_among  (a1 : Nat) (σ_0 : kp_W) : kp_R :=
  kp_lt (0 : Int) (fun x2_0 => kl_X10_among_2 a1 kp_fu x2_0 σ_0 (fun (x2_2 : Int) (σ_2 : kp_W) => kp_lt (kp_up σ_2 0 5 ((σ_2 0 5) + 1)) (fun σ_3 => some (x2_2, σ_3))))
set_option maxRecDepth 100000 in
set_option maxHeartbeats 4000000 in
theorem kc_X10_among {l : Launch} {X : kp_X} {a1 : Nat}  {σ_0 σ' : kp_W} {r : Int} (h1 : a1 < 10)  (hF : (kf_X10_among a1 σ_0) = some (r, σ')) : kp_Met l yX10_among cX10_among 3 (some .int) 5 X kp_lM 10 σ_0 [.ref (kp_ad X 0), .ref (kp_sK X a1)] (kp_Qi X kp_lM 10 σ' r) := by
  refine kp_body pnX10 (Nat.le_of_ble_eq_true rfl) ?_
  intro p e s m args below meth c ls C hr hlk G h hl
  unfold kf_X10_among at hF
  have hl : lv_has ls 3 [(0, .ref (kp_ad X 0)), (1, .ref (kp_sK X a1))] := hl
  refine kp_iconst C dX10_among_0 ?_
  refine kp_istore_n (lv' := fun x2_0 => [(2, kp_iv x2_0), (0, .ref (kp_ad X 0)), (1, .ref (kp_sK X a1))]) C dX10_among_1 rfl hl (by decide) (fun _ => rfl) hF (fun x2_0 ls hl hF => ?_)
  have L2 : ∀ (n : Nat) (x2_1 : Int) (σ_1 : kp_W) (k : Int → kp_W → kp_R) (H : Heap) (locs : List Loc) (ls : Array Slot), kp_H X kp_lM 10 s σ_1 H locs → lv_has ls 3 [(0, .ref (kp_ad X 0)), (1, .ref (kp_sK X a1)), (2, kp_iv x2_1)] → (∀ (x2_2 : Int) (σ_2 : kp_W) (H : Heap) (locs : List Loc) (ls : Array Slot), kp_H X kp_lM 10 s σ_2 H locs → lv_has ls 3 [(0, .ref (kp_ad X 0)), (2, kp_iv x2_2)] → k x2_2 σ_2 = some (r, σ') → W p l e (kp_rm 5) s m args below meth c H locs 0 0 (MQ below (kp_Qi X kp_lM 10 σ' r) args s 0 0 (kp_A X 10)) (F0 m 22 ls [])) → kl_X10_among_2 a1 n x2_1 σ_1 k = some (r, σ') → W p l e (kp_rm 5) s m args below meth c H locs 0 0 (MQ below (kp_Qi X kp_lM 10 σ' r) args s 0 0 (kp_A X 10)) (F0 m 2 ls []) := by
    intro n
    induction n with
    | zero =>
      intro x2_1 σ_1 k H locs ls h hl K hF
      rw [kl_X10_among_2] at hF
      cases hF
    | succ n ih =>
      intro x2_1 σ_1 k H locs ls h hl K hF
      rw [kl_X10_among_2] at hF
      refine kp_iload_n C dX10_among_2 rfl (lv_at hl 2 rfl) ?_
      refine kp_aload_n C dX10_among_3 rfl (lv_at hl 1 rfl) ?_
      refine kp_ci h (kp_rT (i := a1) (As := []) (rest := [kp_iv x2_1]) C G h h1 (kc_length h1) q4_158 q2_149 q2_150 q1_13 q2_151 hd_J0_length_8abf5 (by decide) rfl hl.1 rfl (Nat.le_of_ble_eq_true rfl) dX10_among_4) (fun H locs h => ?_)
      refine kp_icmp_ge (tgt := 40) C dX10_among_7 (by decide) hF (fun hF => ?_) (fun hF => ?_)
      · refine kp_iconst C dX10_among_40 ?_
        exact kp_reti C hr hlk G h dX10_among_41 hF
      · refine kp_aload_n C dX10_among_10 rfl (lv_at hl 0 rfl) ?_
        obtain ⟨r_0, σ_4, hc, hF⟩ := kp_bd_s hF
        refine kp_ci h (kp_rV (k := 0) (As := []) (rest := []) C G h (kc_X10_here  hc) q4_145 q4_147 q0_3_0 q1_11 q4_148 ⟨rfl, hd_X10_here⟩ (by decide) kp_lM0 rfl rfl hl.1 rfl (Nat.le_of_ble_eq_true rfl) dX10_among_11) (fun H locs h => ?_)
        refine kp_aload_n C dX10_among_14 rfl (lv_at hl 1 rfl) ?_
        refine kp_iload_n C dX10_among_15 rfl (lv_at hl 2 rfl) ?_
        obtain ⟨hcc, hF⟩ := kp_ck_s hF
        refine kp_ci h (kp_rT (i := a1) (As := [kp_iv x2_1]) (rest := [kp_iv r_0]) C G h h1 (kc_charAt h1 hcc) q4_159 q2_80 q2_81 q1_13 q2_82 hd_J0_charAt_5068e (by decide) rfl hl.1 rfl (Nat.le_of_ble_eq_true rfl) dX10_among_16) (fun H locs h => ?_)
        refine kp_icmp_ne (tgt := 34) C dX10_among_19 (by decide) hF (fun hF => ?_) (fun hF => ?_)
        · refine kp_iinc (k := 2) (lv' := fun x2_3 => [(2, kp_iv x2_3), (0, .ref (kp_ad X 0)), (1, .ref (kp_sK X a1))]) C dX10_among_34 hl rfl (by decide) (fun _ => rfl) hF (fun x2_3 ls hl hF => ?_)
          refine kp_goto (tgt := 2) C dX10_among_37 (by decide) ?_
          exact ih _ _ k _ _ _ h (lv_sub hl [1, 2, 0] rfl) K hF
        · exact K _ _ _ _ _ h (lv_sub hl [0, 2] rfl) hF
  refine L2 kp_fu _ _ _ _ _ _ h (lv_sub hl [1, 2, 0] rfl) (fun x2_2 σ_2 H locs ls h hl hF => ?_) hF
  clear L2
  refine kp_aload_n C dX10_among_22 rfl (lv_at hl 0 rfl) ?_
  refine kp_dup C dX10_among_23 rfl ?_
  refine kp_geti C G h kp_lM0 rfl inWX10 (j := 5) (by decide) q4_49 rfl dX10_among_24 ?_
  refine kp_iconst C dX10_among_27 ?_
  refine kp_iadd C dX10_among_28 ?_
  refine kp_puti C G h kp_lM0 rfl inWX10 tyX10 tyX10_ok nmX10 (j := 5) (by decide) q4_49 rfl rfl (by decide +kernel) dX10_among_29 hF (fun σ_3 H locs h hF => ?_)
  refine kp_iload_n C dX10_among_32 rfl (lv_at hl 1 rfl) ?_
  exact kp_reti C hr hlk G h dX10_among_33 hF
def kf_X10_emits  (a1 : Int) (σ_0 : kp_W) : kp_R :=
  kp_eq (σ_0 0 7) 0 (kp_ck (0 ≤ (361 + (σ_0 0 4)) ∧ (361 + (σ_0 0 4)) < 1066) (kp_ck (0 ≤ ((366 + (140 * (σ_0 0 4))) + (σ_0 1 (Int.toNat (361 + (σ_0 0 4))))) ∧ ((366 + (140 * (σ_0 0 4))) + (σ_0 1 (Int.toNat (361 + (σ_0 0 4))))) < 1066) (kp_lt (kp_up σ_0 1 (Int.toNat ((366 + (140 * (σ_0 0 4))) + (σ_0 1 (Int.toNat (361 + (σ_0 0 4)))))) a1) (fun σ_1 => kp_ck (0 ≤ (361 + (σ_1 0 4)) ∧ (361 + (σ_1 0 4)) < 1066) (kp_ck (0 ≤ (361 + (σ_1 0 4)) ∧ (361 + (σ_1 0 4)) < 1066) (kp_lt (kp_up σ_1 1 (Int.toNat (361 + (σ_1 0 4))) ((σ_1 1 (Int.toNat (361 + (σ_1 0 4)))) + 1)) (fun σ_2 => some (0, σ_2)))))))) (some (0, σ_0))
set_option maxRecDepth 100000 in
set_option maxHeartbeats 4000000 in
theorem kc_X10_emits {l : Launch} {X : kp_X} {a1 : Int}  {σ_0 σ' : kp_W} {r : Int}   (hF : (kf_X10_emits a1 σ_0) = some (r, σ')) : kp_Met l yX10_emits cX10_emits 2 none 0 X kp_lM 10 σ_0 [.ref (kp_ad X 0), kp_iv a1] (kp_Qv X kp_lM 10 σ') := by
  refine kp_body pnX10 (Nat.le_of_ble_eq_true rfl) ?_
  intro p e s m args below meth c ls C hr hlk G h hl
  unfold kf_X10_emits at hF
  have hl : lv_has ls 2 [(0, .ref (kp_ad X 0)), (1, kp_iv a1)] := hl
  refine kp_aload_n C dX10_emits_0 rfl (lv_at hl 0 rfl) ?_
  refine kp_geti C G h kp_lM0 rfl inWX10 (j := 7) (by decide) q4_51 rfl dX10_emits_1 ?_
  refine kp_if_ne (tgt := 56) C dX10_emits_4 (by decide) hF (fun hF => ?_) (fun hF => ?_)
  · exact kp_retv (v := 0) C hr hlk G h dX10_emits_56 hF
  · refine kp_aload_n C dX10_emits_7 rfl (lv_at hl 0 rfl) ?_
    refine kp_getr C G h kp_lM0 rfl inWX10 (j := 1) (by decide) q4_45 rfl dX10_emits_8 ?_
    refine kp_sipush C dX10_emits_11 rfl ?_
    refine kp_sipush C dX10_emits_14 rfl ?_
    refine kp_aload_n C dX10_emits_17 rfl (lv_at hl 0 rfl) ?_
    refine kp_geti C G h kp_lM0 rfl inWX10 (j := 4) (by decide) q4_48 rfl dX10_emits_18 ?_
    refine kp_imul C dX10_emits_21 ?_
    refine kp_iadd C dX10_emits_22 ?_
    refine kp_aload_n C dX10_emits_23 rfl (lv_at hl 0 rfl) ?_
    refine kp_getr C G h kp_lM0 rfl inWX10 (j := 1) (by decide) q4_45 rfl dX10_emits_24 ?_
    refine kp_sipush C dX10_emits_27 rfl ?_
    refine kp_aload_n C dX10_emits_30 rfl (lv_at hl 0 rfl) ?_
    refine kp_geti C G h kp_lM0 rfl inWX10 (j := 4) (by decide) q4_48 rfl dX10_emits_31 ?_
    refine kp_iadd C dX10_emits_34 ?_
    refine kp_iald C G h (n := 1066) kp_lM1 (by decide) dX10_emits_35 hF (fun hF => ?_)
    refine kp_iadd C dX10_emits_36 ?_
    refine kp_iload_n C dX10_emits_37 rfl (lv_at hl 1 rfl) ?_
    refine kp_iast C G h (n := 1066) kp_lM1 (by decide) dX10_emits_38 hF (fun σ_1 H locs h hF => ?_)
    refine kp_aload_n C dX10_emits_39 rfl (lv_at hl 0 rfl) ?_
    refine kp_getr C G h kp_lM0 rfl inWX10 (j := 1) (by decide) q4_45 rfl dX10_emits_40 ?_
    refine kp_sipush C dX10_emits_43 rfl ?_
    refine kp_aload_n C dX10_emits_46 rfl (lv_at hl 0 rfl) ?_
    refine kp_geti C G h kp_lM0 rfl inWX10 (j := 4) (by decide) q4_48 rfl dX10_emits_47 ?_
    refine kp_iadd C dX10_emits_50 ?_
    refine kp_dup2 C dX10_emits_51 rfl rfl ?_
    refine kp_iald C G h (n := 1066) kp_lM1 (by decide) dX10_emits_52 hF (fun hF => ?_)
    refine kp_iconst C dX10_emits_53 ?_
    refine kp_iadd C dX10_emits_54 ?_
    refine kp_iast C G h (n := 1066) kp_lM1 (by decide) dX10_emits_55 hF (fun σ_2 H locs h hF => ?_)
    exact kp_retv (v := 0) C hr hlk G h dX10_emits_56 hF
def kf_X10_factor (fac : kp_W → kp_R) (som : kp_W → kp_R)  (σ_0 : kp_W) : kp_R :=
  kp_eq (σ_0 0 7) 0 (kp_bd (kf_X10_here σ_0) (fun r_0 σ_1 => kp_lt (r_0 : Int) (fun x1_0 => kp_jn (fun (σ_2 : kp_W) => kp_jn (fun (v_0 : Int) => kp_ck (v_0 = 0 ∨ v_0 = 1) (kp_lt (kp_up σ_2 0 7 v_0) (fun σ_3 => kp_lt (kp_up σ_3 0 8 ((σ_3 0 8) + 1)) (fun σ_4 => kp_jn (fun (v_1 : Int) => kp_lt (kp_up σ_4 0 5 ((σ_4 0 5) + v_1)) (fun σ_5 => kp_jn (fun (σ_6 : kp_W) => kp_lt (kp_up σ_6 0 8 ((σ_6 0 8) - 1)) (fun σ_7 => some (0, σ_7))) (fun j101 => kp_eq x1_0 33 (kp_bd (fac σ_5) (fun r_3 σ_10 => kp_bd (kf_X10_emits (-1) σ_10) (fun r_4 σ_11 => j101 σ_11))) (kp_bd (som σ_5) (fun r_1 σ_8 => kp_bd (kf_X10_must 41 σ_8) (fun r_2 σ_9 => j101 σ_9)))))) (fun j69 => kp_eq (σ_4 0 7) 0 (j69 1) (j69 0)))))) (fun j39 => kp_eq (σ_2 0 8) 5 (j39 1) (j39 0))) (fun j25 => kp_eq x1_0 33 (j25 σ_1) (kp_eq x1_0 40 (j25 σ_1) (kp_bd (kf_X10_among 0 σ_1) (fun r_5 σ_12 => kp_lt (r_5 : Int) (fun x2_0 => kp_jn (fun (v_2 : Int) => kp_ck (v_2 = 0 ∨ v_2 = 1) (kp_lt (kp_up σ_12 0 7 v_2) (fun σ_13 => kp_jn (fun (v_3 : Int) (σ_14 : kp_W) => kp_lt (v_3 : Int) (fun x3_0 => kp_jn (fun (v_4 : Int) => kp_ck (v_4 = 0 ∨ v_4 = 1) (kp_lt (kp_up σ_14 0 7 v_4) (fun σ_15 => kp_bd (kf_X10_figures σ_15) (fun r_6 σ_16 => kp_lt (r_6 : Int) (fun x4_0 => kp_bd (kf_X10_emits ((x2_0 + (8 * x3_0)) + (32 * x4_0)) σ_16) (fun r_7 σ_17 => some (0, σ_17))))))) (fun j169 => kp_jn (fun (_ : Unit) => j169 1) (fun j164 => kp_eq (σ_14 0 7) 0 (kp_eq x3_0 (-1) (j164 ()) (j169 0)) (j164 ()))))) (fun j150 => kp_eq (σ_13 0 7) 0 (kp_bd (kf_X10_among 1 σ_13) (fun r_8 σ_18 => j150 r_8 σ_18)) (j150 0 σ_13))))) (fun j130 => kp_eq x2_0 (-1) (j130 1) (j130 0)))))))))) (some (0, σ_0))
set_option maxRecDepth 100000 in
set_option maxHeartbeats 4000000 in
theorem kc_X10_factor {l : Launch} {X : kp_X} {D : Nat} {fac : kp_W → kp_R} {som : kp_W → kp_R} {σ_0 σ' : kp_W} {r : Int}  (hD : 6 ≤ D) {D0 : Nat} (eD0 : D0 + 1 ≤ D) (hfac : ∀ (σ σ' : kp_W) (r : Int), fac σ = some (r, σ') → kp_Met l yX10_factor cX10_factor 5 none D0 X kp_lM 10 σ [.ref (kp_ad X 0)] (kp_Qv X kp_lM 10 σ')) {D1 : Nat} (eD1 : D1 + 1 ≤ D) (hsom : ∀ (σ σ' : kp_W) (r : Int), som σ = some (r, σ') → kp_Met l yX10_some cX10_some 1 none D1 X kp_lM 10 σ [.ref (kp_ad X 0)] (kp_Qv X kp_lM 10 σ')) (hF : (kf_X10_factor fac som σ_0) = some (r, σ')) : kp_Met l yX10_factor cX10_factor 5 none D X kp_lM 10 σ_0 [.ref (kp_ad X 0)] (kp_Qv X kp_lM 10 σ') := by
  refine kp_body pnX10 (Nat.le_of_ble_eq_true rfl) ?_
  intro p e s m args below meth c ls C hr hlk G h hl
  unfold kf_X10_factor at hF
  have hl : lv_has ls 5 [(0, .ref (kp_ad X 0))] := hl
  refine kp_aload_n C dX10_factor_0 rfl (lv_at hl 0 rfl) ?_
  refine kp_geti C G h kp_lM0 rfl inWX10 (j := 7) (by decide) q4_51 rfl dX10_factor_1 ?_
  refine kp_if_eq (tgt := 8) C dX10_factor_4 (by decide) hF (fun hF => ?_) (fun hF => ?_)
  · refine kp_aload_n C dX10_factor_8 rfl (lv_at hl 0 rfl) ?_
    obtain ⟨r_0, σ_1, hc, hF⟩ := kp_bd_s hF
    refine kp_ci h (kp_rV (k := 0) (As := []) (rest := []) C G h (kc_X10_here  hc) q4_145 q4_147 q0_3_0 q1_11 q4_148 ⟨rfl, hd_X10_here⟩ ⟨by omega, by decide⟩ kp_lM0 rfl rfl hl.1 rfl (Nat.le_of_ble_eq_true rfl) dX10_factor_9) (fun H locs h => ?_)
    refine kp_istore_n (lv' := fun x1_0 => [(1, kp_iv x1_0), (0, .ref (kp_ad X 0))]) C dX10_factor_12 rfl hl (by decide) (fun _ => rfl) hF (fun x1_0 ls hl hF => ?_)
    refine kp_iload_n C dX10_factor_13 rfl (lv_at hl 0 rfl) ?_
    refine kp_bipush C dX10_factor_14 rfl ?_
    obtain ⟨j25, ej25, hF⟩ := kp_jn_s hF
    have J25 : ∀ (σ_2 : kp_W), ∀ (H : Heap) (locs : List Loc) (ls : Array Slot), kp_H X kp_lM 10 s σ_2 H locs → lv_has ls 5 [(0, .ref (kp_ad X 0)), (1, kp_iv x1_0)] → j25 σ_2 = some (r, σ') → W p l e (kp_rm D) s m args below meth c H locs 0 0 (MQ below (kp_Qv X kp_lM 10 σ') args s 0 0 (kp_A X 10)) (F0 m 25 ls []) := by
      intro σ_2 H locs ls h hl hF
      rw [ej25] at hF
      refine kp_aload_n C dX10_factor_25 rfl (lv_at hl 0 rfl) ?_
      refine kp_aload_n C dX10_factor_26 rfl (lv_at hl 0 rfl) ?_
      refine kp_geti C G h kp_lM0 rfl inWX10 (j := 8) (by decide) q4_52 rfl dX10_factor_27 ?_
      refine kp_iconst C dX10_factor_30 ?_
      obtain ⟨j39, ej39, hF⟩ := kp_jn_s hF
      have J39 : ∀ (v_0 : Int), ∀ (H : Heap) (locs : List Loc) (ls : Array Slot), kp_H X kp_lM 10 s σ_2 H locs → lv_has ls 5 [(0, .ref (kp_ad X 0)), (1, kp_iv x1_0)] → j39 v_0 = some (r, σ') → W p l e (kp_rm D) s m args below meth c H locs 0 0 (MQ below (kp_Qv X kp_lM 10 σ') args s 0 0 (kp_A X 10)) (F0 m 39 ls [kp_iv v_0, .ref (kp_ad X 0)]) := by
        intro v_0 H locs ls h hl hF
        rw [ej39] at hF
        refine kp_putz C G h kp_lM0 rfl inWX10 tyX10 tyX10_ok nmX10 (j := 7) (by decide) q4_51 rfl rfl (by decide +kernel) dX10_factor_39 hF (fun σ_3 H locs h hF => ?_)
        refine kp_aload_n C dX10_factor_42 rfl (lv_at hl 0 rfl) ?_
        refine kp_dup C dX10_factor_43 rfl ?_
        refine kp_geti C G h kp_lM0 rfl inWX10 (j := 8) (by decide) q4_52 rfl dX10_factor_44 ?_
        refine kp_iconst C dX10_factor_47 ?_
        refine kp_iadd C dX10_factor_48 ?_
        refine kp_puti C G h kp_lM0 rfl inWX10 tyX10 tyX10_ok nmX10 (j := 8) (by decide) q4_52 rfl rfl (by decide +kernel) dX10_factor_49 hF (fun σ_4 H locs h hF => ?_)
        refine kp_aload_n C dX10_factor_52 rfl (lv_at hl 0 rfl) ?_
        refine kp_dup C dX10_factor_53 rfl ?_
        refine kp_geti C G h kp_lM0 rfl inWX10 (j := 5) (by decide) q4_49 rfl dX10_factor_54 ?_
        refine kp_aload_n C dX10_factor_57 rfl (lv_at hl 0 rfl) ?_
        refine kp_geti C G h kp_lM0 rfl inWX10 (j := 7) (by decide) q4_51 rfl dX10_factor_58 ?_
        obtain ⟨j69, ej69, hF⟩ := kp_jn_s hF
        have J69 : ∀ (v_1 : Int), ∀ (H : Heap) (locs : List Loc) (ls : Array Slot), kp_H X kp_lM 10 s σ_4 H locs → lv_has ls 5 [(0, .ref (kp_ad X 0)), (1, kp_iv x1_0)] → j69 v_1 = some (r, σ') → W p l e (kp_rm D) s m args below meth c H locs 0 0 (MQ below (kp_Qv X kp_lM 10 σ') args s 0 0 (kp_A X 10)) (F0 m 69 ls [kp_iv v_1, kp_iv (σ_4 0 5), .ref (kp_ad X 0)]) := by
          intro v_1 H locs ls h hl hF
          rw [ej69] at hF
          refine kp_iadd C dX10_factor_69 ?_
          refine kp_puti C G h kp_lM0 rfl inWX10 tyX10 tyX10_ok nmX10 (j := 5) (by decide) q4_49 rfl rfl (by decide +kernel) dX10_factor_70 hF (fun σ_5 H locs h hF => ?_)
          refine kp_iload_n C dX10_factor_73 rfl (lv_at hl 1 rfl) ?_
          refine kp_bipush C dX10_factor_74 rfl ?_
          obtain ⟨j101, ej101, hF⟩ := kp_jn_s hF
          have J101 : ∀ (σ_6 : kp_W), ∀ (H : Heap) (locs : List Loc) (ls : Array Slot), kp_H X kp_lM 10 s σ_6 H locs → lv_has ls 5 [(0, .ref (kp_ad X 0))] → j101 σ_6 = some (r, σ') → W p l e (kp_rm D) s m args below meth c H locs 0 0 (MQ below (kp_Qv X kp_lM 10 σ') args s 0 0 (kp_A X 10)) (F0 m 101 ls []) := by
            intro σ_6 H locs ls h hl hF
            rw [ej101] at hF
            refine kp_aload_n C dX10_factor_101 rfl (lv_at hl 0 rfl) ?_
            refine kp_dup C dX10_factor_102 rfl ?_
            refine kp_geti C G h kp_lM0 rfl inWX10 (j := 8) (by decide) q4_52 rfl dX10_factor_103 ?_
            refine kp_iconst C dX10_factor_106 ?_
            refine kp_isub C dX10_factor_107 ?_
            refine kp_puti C G h kp_lM0 rfl inWX10 tyX10 tyX10_ok nmX10 (j := 8) (by decide) q4_52 rfl rfl (by decide +kernel) dX10_factor_108 hF (fun σ_7 H locs h hF => ?_)
            exact kp_retv (v := 0) C hr hlk G h dX10_factor_111 hF
          clear ej101
          refine kp_icmp_ne (tgt := 91) C dX10_factor_76 (by decide) hF (fun hF => ?_) (fun hF => ?_)
          · refine kp_aload_n C dX10_factor_91 rfl (lv_at hl 0 rfl) ?_
            obtain ⟨r_1, σ_8, hc, hF⟩ := kp_bd_s hF
            refine kp_cv h (kp_rV (k := 0) (As := []) (rest := []) C G h (hsom _ _ _ hc) q4_168 q4_170 q0_3_5 q1_11 q4_171 ⟨rfl, hd_X10_some⟩ ⟨by omega, by decide⟩ kp_lM0 rfl rfl hl.1 rfl (Nat.le_of_ble_eq_true rfl) dX10_factor_92) (fun H locs h => ?_)
            refine kp_aload_n C dX10_factor_95 rfl (lv_at hl 0 rfl) ?_
            refine kp_bipush C dX10_factor_96 rfl ?_
            obtain ⟨r_2, σ_9, hc, hF⟩ := kp_bd_s hF
            refine kp_cv h (kp_rV (k := 0) (As := [kp_iv 41]) (rest := []) C G h (kc_X10_must  hc) q4_160 q4_162 q0_3_3 q1_11 q4_163 ⟨rfl, hd_X10_must⟩ ⟨by omega, by decide⟩ kp_lM0 rfl rfl hl.1 rfl (Nat.le_of_ble_eq_true rfl) dX10_factor_98) (fun H locs h => ?_)
            exact J101 _ _ _ _ h (lv_sub hl [0] rfl) hF
          · refine kp_aload_n C dX10_factor_79 rfl (lv_at hl 0 rfl) ?_
            obtain ⟨r_3, σ_10, hc, hF⟩ := kp_bd_s hF
            refine kp_cv h (kp_rV (k := 0) (As := []) (rest := []) C G h (hfac _ _ _ hc) q4_176 q4_178 q0_3_7 q1_11 q4_179 ⟨rfl, hd_X10_factor⟩ ⟨by omega, by decide⟩ kp_lM0 rfl rfl hl.1 rfl (Nat.le_of_ble_eq_true rfl) dX10_factor_80) (fun H locs h => ?_)
            refine kp_aload_n C dX10_factor_83 rfl (lv_at hl 0 rfl) ?_
            refine kp_iconst C dX10_factor_84 ?_
            obtain ⟨r_4, σ_11, hc, hF⟩ := kp_bd_s hF
            refine kp_cv h (kp_rV (k := 0) (As := [kp_iv (-1)]) (rest := []) C G h (kc_X10_emits  hc) q4_180 q4_182 q0_3_8 q1_11 q4_183 ⟨rfl, hd_X10_emits⟩ ⟨by omega, by decide⟩ kp_lM0 rfl rfl hl.1 rfl (Nat.le_of_ble_eq_true rfl) dX10_factor_85) (fun H locs h => ?_)
            refine kp_goto (tgt := 101) C dX10_factor_88 (by decide) ?_
            exact J101 _ _ _ _ h (lv_sub hl [0] rfl) hF
        clear ej69
        refine kp_if_eq (tgt := 68) C dX10_factor_61 (by decide) hF (fun hF => ?_) (fun hF => ?_)
        · refine kp_iconst C dX10_factor_68 ?_
          exact J69 _ _ _ _ h (lv_sub hl [0, 1] rfl) hF
        · refine kp_iconst C dX10_factor_64 ?_
          refine kp_goto (tgt := 69) C dX10_factor_65 (by decide) ?_
          exact J69 _ _ _ _ h (lv_sub hl [0, 1] rfl) hF
      clear ej39
      refine kp_icmp_ne (tgt := 38) C dX10_factor_31 (by decide) hF (fun hF => ?_) (fun hF => ?_)
      · refine kp_iconst C dX10_factor_38 ?_
        exact J39 _ _ _ _ h (lv_sub hl [0, 1] rfl) hF
      · refine kp_iconst C dX10_factor_34 ?_
        refine kp_goto (tgt := 39) C dX10_factor_35 (by decide) ?_
        exact J39 _ _ _ _ h (lv_sub hl [0, 1] rfl) hF
    clear ej25
    refine kp_icmp_eq (tgt := 25) C dX10_factor_16 (by decide) hF (fun hF => ?_) (fun hF => ?_)
    · exact J25 _ _ _ _ h (lv_sub hl [1, 0] rfl) hF
    · refine kp_iload_n C dX10_factor_19 rfl (lv_at hl 0 rfl) ?_
      refine kp_bipush C dX10_factor_20 rfl ?_
      refine kp_icmp_ne (tgt := 112) C dX10_factor_22 (by decide) hF (fun hF => ?_) (fun hF => ?_)
      · refine kp_aload_n C dX10_factor_112 rfl (lv_at hl 1 rfl) ?_
        refine kp_ldcS (tx := "npkvt") (i := 0) C G (by decide +kernel) dX10_factor_113 ?_
        obtain ⟨r_5, σ_12, hc, hF⟩ := kp_bd_s hF
        refine kp_ci h (kp_rV (k := 0) (As := [.ref (kp_sK X 0)]) (rest := []) C G h (kc_X10_among (by decide) hc) q4_185 q4_187 q0_3_9 q1_11 q4_188 ⟨rfl, hd_X10_among⟩ ⟨by omega, by decide⟩ kp_lM0 rfl rfl hl.1 rfl (Nat.le_of_ble_eq_true rfl) dX10_factor_115) (fun H locs h => ?_)
        refine kp_istore_n (lv' := fun x2_0 => [(2, kp_iv x2_0), (1, kp_iv x1_0), (0, .ref (kp_ad X 0))]) C dX10_factor_118 rfl hl (by decide) (fun _ => rfl) hF (fun x2_0 ls hl hF => ?_)
        refine kp_aload_n C dX10_factor_119 rfl (lv_at hl 2 rfl) ?_
        refine kp_iload_n C dX10_factor_120 rfl (lv_at hl 0 rfl) ?_
        refine kp_iconst C dX10_factor_121 ?_
        obtain ⟨j130, ej130, hF⟩ := kp_jn_s hF
        have J130 : ∀ (v_2 : Int), ∀ (H : Heap) (locs : List Loc) (ls : Array Slot), kp_H X kp_lM 10 s σ_12 H locs → lv_has ls 5 [(0, .ref (kp_ad X 0)), (2, kp_iv x2_0)] → j130 v_2 = some (r, σ') → W p l e (kp_rm D) s m args below meth c H locs 0 0 (MQ below (kp_Qv X kp_lM 10 σ') args s 0 0 (kp_A X 10)) (F0 m 130 ls [kp_iv v_2, .ref (kp_ad X 0)]) := by
          intro v_2 H locs ls h hl hF
          rw [ej130] at hF
          refine kp_putz C G h kp_lM0 rfl inWX10 tyX10 tyX10_ok nmX10 (j := 7) (by decide) q4_51 rfl rfl (by decide +kernel) dX10_factor_130 hF (fun σ_13 H locs h hF => ?_)
          refine kp_aload_n C dX10_factor_133 rfl (lv_at hl 0 rfl) ?_
          refine kp_geti C G h kp_lM0 rfl inWX10 (j := 7) (by decide) q4_51 rfl dX10_factor_134 ?_
          obtain ⟨j150, ej150, hF⟩ := kp_jn_s hF
          have J150 : ∀ (v_3 : Int), ∀ (σ_14 : kp_W), ∀ (H : Heap) (locs : List Loc) (ls : Array Slot), kp_H X kp_lM 10 s σ_14 H locs → lv_has ls 5 [(0, .ref (kp_ad X 0)), (2, kp_iv x2_0)] → j150 v_3 σ_14 = some (r, σ') → W p l e (kp_rm D) s m args below meth c H locs 0 0 (MQ below (kp_Qv X kp_lM 10 σ') args s 0 0 (kp_A X 10)) (F0 m 150 ls [kp_iv v_3]) := by
            intro v_3 σ_14 H locs ls h hl hF
            rw [ej150] at hF
            refine kp_istore_n (lv' := fun x3_0 => [(3, kp_iv x3_0), (0, .ref (kp_ad X 0)), (2, kp_iv x2_0)]) C dX10_factor_150 rfl hl (by decide) (fun _ => rfl) hF (fun x3_0 ls hl hF => ?_)
            refine kp_aload_n C dX10_factor_151 rfl (lv_at hl 1 rfl) ?_
            refine kp_aload_n C dX10_factor_152 rfl (lv_at hl 1 rfl) ?_
            refine kp_geti C G h kp_lM0 rfl inWX10 (j := 7) (by decide) q4_51 rfl dX10_factor_153 ?_
            obtain ⟨j169, ej169, hF⟩ := kp_jn_s hF
            have J169 : ∀ (v_4 : Int), ∀ (H : Heap) (locs : List Loc) (ls : Array Slot), kp_H X kp_lM 10 s σ_14 H locs → lv_has ls 5 [(0, .ref (kp_ad X 0)), (2, kp_iv x2_0), (3, kp_iv x3_0)] → j169 v_4 = some (r, σ') → W p l e (kp_rm D) s m args below meth c H locs 0 0 (MQ below (kp_Qv X kp_lM 10 σ') args s 0 0 (kp_A X 10)) (F0 m 169 ls [kp_iv v_4, .ref (kp_ad X 0)]) := by
              intro v_4 H locs ls h hl hF
              rw [ej169] at hF
              refine kp_putz C G h kp_lM0 rfl inWX10 tyX10 tyX10_ok nmX10 (j := 7) (by decide) q4_51 rfl rfl (by decide +kernel) dX10_factor_169 hF (fun σ_15 H locs h hF => ?_)
              refine kp_aload_n C dX10_factor_172 rfl (lv_at hl 0 rfl) ?_
              obtain ⟨r_6, σ_16, hc, hF⟩ := kp_bd_s hF
              refine kp_ci h (kp_rV (k := 0) (As := []) (rest := []) C G h (kc_X10_figures  hc) q4_164 q4_166 q0_3_4 q1_11 q4_167 ⟨rfl, hd_X10_figures⟩ ⟨by omega, by decide⟩ kp_lM0 rfl rfl hl.1 rfl (Nat.le_of_ble_eq_true rfl) dX10_factor_173) (fun H locs h => ?_)
              refine kp_istore (lv' := fun x4_0 => [(4, kp_iv x4_0), (0, .ref (kp_ad X 0)), (2, kp_iv x2_0), (3, kp_iv x3_0)]) C dX10_factor_176 hl (by decide) (fun _ => rfl) hF (fun x4_0 ls hl hF => ?_)
              refine kp_aload_n C dX10_factor_178 rfl (lv_at hl 1 rfl) ?_
              refine kp_iload_n C dX10_factor_179 rfl (lv_at hl 2 rfl) ?_
              refine kp_bipush C dX10_factor_180 rfl ?_
              refine kp_iload_n C dX10_factor_182 rfl (lv_at hl 3 rfl) ?_
              refine kp_imul C dX10_factor_183 ?_
              refine kp_iadd C dX10_factor_184 ?_
              refine kp_bipush C dX10_factor_185 rfl ?_
              refine kp_iload C dX10_factor_187 (lv_at hl 0 rfl) ?_
              refine kp_imul C dX10_factor_189 ?_
              refine kp_iadd C dX10_factor_190 ?_
              obtain ⟨r_7, σ_17, hc, hF⟩ := kp_bd_s hF
              refine kp_cv h (kp_rV (k := 0) (As := [kp_iv ((x2_0 + (8 * x3_0)) + (32 * x4_0))]) (rest := []) C G h (kc_X10_emits  hc) q4_180 q4_182 q0_3_8 q1_11 q4_183 ⟨rfl, hd_X10_emits⟩ ⟨by omega, by decide⟩ kp_lM0 rfl rfl hl.1 rfl (Nat.le_of_ble_eq_true rfl) dX10_factor_191) (fun H locs h => ?_)
              exact kp_retv (v := 0) C hr hlk G h dX10_factor_194 hF
            clear ej169
            obtain ⟨j164, ej164, hF⟩ := kp_jn_s hF
            have J164 : ∀ _ : Unit, ∀ (H : Heap) (locs : List Loc) (ls : Array Slot), kp_H X kp_lM 10 s σ_14 H locs → lv_has ls 5 [(0, .ref (kp_ad X 0)), (2, kp_iv x2_0), (3, kp_iv x3_0)] → j164 () = some (r, σ') → W p l e (kp_rm D) s m args below meth c H locs 0 0 (MQ below (kp_Qv X kp_lM 10 σ') args s 0 0 (kp_A X 10)) (F0 m 164 ls [.ref (kp_ad X 0)]) := by
              intro _ H locs ls h hl hF
              rw [ej164] at hF
              refine kp_iconst C dX10_factor_164 ?_
              refine kp_goto (tgt := 169) C dX10_factor_165 (by decide) ?_
              exact J169 _ _ _ _ h (lv_sub hl [0, 1, 2] rfl) hF
            clear ej164
            refine kp_if_ne (tgt := 164) C dX10_factor_156 (by decide) hF (fun hF => ?_) (fun hF => ?_)
            · exact J164 () _ _ _ h (lv_sub hl [1, 2, 0] rfl) hF
            · refine kp_iload_n C dX10_factor_159 rfl (lv_at hl 0 rfl) ?_
              refine kp_iconst C dX10_factor_160 ?_
              refine kp_icmp_ne (tgt := 168) C dX10_factor_161 (by decide) hF (fun hF => ?_) (fun hF => ?_)
              · refine kp_iconst C dX10_factor_168 ?_
                exact J169 _ _ _ _ h (lv_sub hl [1, 2, 0] rfl) hF
              · exact J164 () _ _ _ h (lv_sub hl [1, 2, 0] rfl) hF
          clear ej150
          refine kp_if_eq (tgt := 144) C dX10_factor_137 (by decide) hF (fun hF => ?_) (fun hF => ?_)
          · refine kp_aload_n C dX10_factor_144 rfl (lv_at hl 0 rfl) ?_
            refine kp_ldcS (tx := "<=>") (i := 1) C G (by decide +kernel) dX10_factor_145 ?_
            obtain ⟨r_8, σ_18, hc, hF⟩ := kp_bd_s hF
            refine kp_ci h (kp_rV (k := 0) (As := [.ref (kp_sK X 1)]) (rest := []) C G h (kc_X10_among (by decide) hc) q4_185 q4_187 q0_3_9 q1_11 q4_188 ⟨rfl, hd_X10_among⟩ ⟨by omega, by decide⟩ kp_lM0 rfl rfl hl.1 rfl (Nat.le_of_ble_eq_true rfl) dX10_factor_147) (fun H locs h => ?_)
            exact J150 _ _ _ _ _ h (lv_sub hl [0, 1] rfl) hF
          · refine kp_iconst C dX10_factor_140 ?_
            refine kp_goto (tgt := 150) C dX10_factor_141 (by decide) ?_
            exact J150 _ _ _ _ _ h (lv_sub hl [0, 1] rfl) hF
        clear ej130
        refine kp_icmp_ne (tgt := 129) C dX10_factor_122 (by decide) hF (fun hF => ?_) (fun hF => ?_)
        · refine kp_iconst C dX10_factor_129 ?_
          exact J130 _ _ _ _ h (lv_sub hl [2, 0] rfl) hF
        · refine kp_iconst C dX10_factor_125 ?_
          refine kp_goto (tgt := 130) C dX10_factor_126 (by decide) ?_
          exact J130 _ _ _ _ h (lv_sub hl [2, 0] rfl) hF
      · exact J25 _ _ _ _ h (lv_sub hl [1, 0] rfl) hF
  · exact kp_retv (v := 0) C hr hlk G h dX10_factor_7 hF
