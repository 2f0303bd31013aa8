-- by program (wip/whole/gen/drive.py)
def kl_X10_older_20 (x1_0 : Int) : Nat → Int → Int → kp_W → (Int → kp_W → kp_R) → kp_R
  | 0, _, _, _, _ => none
  | n + 1, x2_1, x3_1, σ_5, k => kp_ls 40 x3_1 (k x2_1 σ_5) (kp_lt (kp_up σ_5 0 17 x3_1) (fun σ_8 => kp_bd (kf_X10_goes σ_8) (fun r_4 σ_9 => kp_bd (kf_X10_moving σ_9) (fun r_5 σ_10 => kp_bd (kf_X10_fitsOf r_5 σ_10) (fun r_6 σ_11 => kp_bd (kf_X10_count1 r_6 σ_11) (fun r_7 σ_12 => kp_ls r_7 x1_0 (kp_lt (x2_1 : Int) (fun x2_3 => kp_lt (x3_1 + 1) (fun x3_2 => kl_X10_older_20 x1_0 n x2_3 x3_2 σ_12 k))) (kp_lt (x3_1 : Int) (fun x2_4 => kp_lt (x3_1 + 1) (fun x3_3 => kl_X10_older_20 x1_0 n x2_4 x3_3 σ_12 k)))))))))
def kf_X10_older   (σ_0 : kp_W) : kp_R :=
  kp_bd (kf_X10_goes σ_0) (fun r_0 σ_1 => kp_bd (kf_X10_moving σ_1) (fun r_1 σ_2 => kp_bd (kf_X10_fitsOf r_1 σ_2) (fun r_2 σ_3 => kp_bd (kf_X10_count1 r_2 σ_3) (fun r_3 σ_4 => kp_lt (r_3 : Int) (fun x1_0 => kp_lt (0 : Int) (fun x2_0 => kp_lt (1 : Int) (fun x3_0 => kl_X10_older_20 x1_0 kp_fu x2_0 x3_0 σ_4 (fun (x2_2 : Int) (σ_6 : kp_W) => kp_lt (kp_up σ_6 0 17 0) (fun σ_7 => some (x2_2, σ_7))))))))))
set_option maxRecDepth 100000 in
set_option maxHeartbeats 4000000 in
theorem kc_X10_older {l : Launch} {X : kp_X}  {σ_0 σ' : kp_W} {r : Int}   (hF : (kf_X10_older σ_0) = some (r, σ')) : kp_Met l yX10_older cX10_older 4 (some .int) 6 X kp_lM 10 σ_0 [.ref (kp_ad X 0)] (kp_Qi X kp_lM 10 σ' r) := by
  refine kp_body pnX10 (Nat.le_of_ble_eq_true rfl) ?_
  intro p e s m args below meth c ls C hr hlk G h hl
  unfold kf_X10_older at hF
  have hl : lv_has ls 4 [(0, .ref (kp_ad X 0))] := hl
  refine kp_aload_n C dX10_older_0 rfl (lv_at hl 0 rfl) ?_
  obtain ⟨r_0, σ_1, hc, hF⟩ := kp_bd_s hF
  refine kp_cv h (kp_rV (k := 0) (As := []) (rest := []) C G h (kc_X10_goes  hc) q5_11 q5_13 q0_4_0 q1_11 q5_14 ⟨rfl, hd_X10_goes⟩ (by decide) kp_lM0 rfl rfl hl.1 rfl (Nat.le_of_ble_eq_true rfl) dX10_older_1) (fun H locs h => ?_)
  refine kp_aload_n C dX10_older_4 rfl (lv_at hl 0 rfl) ?_
  refine kp_aload_n C dX10_older_5 rfl (lv_at hl 0 rfl) ?_
  obtain ⟨r_1, σ_2, hc, hF⟩ := kp_bd_s hF
  refine kp_ci h (kp_rV (k := 0) (As := []) (rest := [.ref (kp_ad X 0)]) C G h (kc_X10_moving  hc) q5_66 q5_68 q0_4_11 q1_11 q5_69 ⟨rfl, hd_X10_moving⟩ (by decide) kp_lM0 rfl rfl hl.1 rfl (Nat.le_of_ble_eq_true rfl) dX10_older_6) (fun H locs h => ?_)
  obtain ⟨r_2, σ_3, hc, hF⟩ := kp_bd_s hF
  refine kp_ci h (kp_rV (k := 0) (As := [kp_iv r_1]) (rest := []) C G h (kc_X10_fitsOf  hc) q5_94 q5_96 q0_4_14 q1_11 q5_97 ⟨rfl, hd_X10_fitsOf⟩ (by decide) kp_lM0 rfl rfl hl.1 rfl (Nat.le_of_ble_eq_true rfl) dX10_older_9) (fun H locs h => ?_)
  obtain ⟨r_3, σ_4, hc, hF⟩ := kp_bd_s hF
  refine kp_ci h (kp_rS (As := [kp_iv r_2]) (rest := []) C G h (kc_X10_count1  hc) q5_102 q5_103 q1_11 q5_104 hd_X10_count1 (by decide) rfl hl.1 rfl (Nat.le_of_ble_eq_true rfl) dX10_older_12) (fun H locs h => ?_)
  refine kp_istore_n (lv' := fun x1_0 => [(1, kp_iv x1_0), (0, .ref (kp_ad X 0))]) C dX10_older_15 rfl hl (by decide) (fun _ => rfl) hF (fun x1_0 ls hl hF => ?_)
  refine kp_iconst C dX10_older_16 ?_
  refine kp_istore_n (lv' := fun x2_0 => [(2, kp_iv x2_0), (1, kp_iv x1_0), (0, .ref (kp_ad X 0))]) C dX10_older_17 rfl hl (by decide) (fun _ => rfl) hF (fun x2_0 ls hl hF => ?_)
  refine kp_iconst C dX10_older_18 ?_
  refine kp_istore_n (lv' := fun x3_0 => [(3, kp_iv x3_0), (2, kp_iv x2_0), (1, kp_iv x1_0), (0, .ref (kp_ad X 0))]) C dX10_older_19 rfl hl (by decide) (fun _ => rfl) hF (fun x3_0 ls hl hF => ?_)
  have L20 : ∀ (n : Nat) (x2_1 : Int) (x3_1 : Int) (σ_5 : kp_W) (k : Int → kp_W → kp_R) (H : Heap) (locs : List Loc) (ls : Array Slot), kp_H X kp_lM 10 s σ_5 H locs → lv_has ls 4 [(0, .ref (kp_ad X 0)), (1, kp_iv x1_0), (2, kp_iv x2_1), (3, kp_iv x3_1)] → (∀ (x2_2 : Int) (σ_6 : kp_W) (H : Heap) (locs : List Loc) (ls : Array Slot), kp_H X kp_lM 10 s σ_6 H locs → lv_has ls 4 [(0, .ref (kp_ad X 0)), (2, kp_iv x2_2)] → k x2_2 σ_6 = some (r, σ') → W p l e (kp_rm 6) s m args below meth c H locs 0 0 (MQ below (kp_Qi X kp_lM 10 σ' r) args s 0 0 (kp_A X 10)) (F0 m 62 ls [])) → kl_X10_older_20 x1_0 n x2_1 x3_1 σ_5 k = some (r, σ') → W p l e (kp_rm 6) s m args below meth c H locs 0 0 (MQ below (kp_Qi X kp_lM 10 σ' r) args s 0 0 (kp_A X 10)) (F0 m 20 ls []) := by
    intro n
    induction n with
    | zero =>
      intro x2_1 x3_1 σ_5 k H locs ls h hl K hF
      rw [kl_X10_older_20] at hF
      cases hF
    | succ n ih =>
      intro x2_1 x3_1 σ_5 k H locs ls h hl K hF
      rw [kl_X10_older_20] at hF
      refine kp_iload_n C dX10_older_20 rfl (lv_at hl 3 rfl) ?_
      refine kp_bipush C dX10_older_21 rfl ?_
      refine kp_icmp_gt (tgt := 62) C dX10_older_23 (by decide) hF (fun hF => ?_) (fun hF => ?_)
      · exact K _ _ _ _ _ h (lv_sub hl [0, 2] rfl) hF
      · refine kp_aload_n C dX10_older_26 rfl (lv_at hl 0 rfl) ?_
        refine kp_iload_n C dX10_older_27 rfl (lv_at hl 3 rfl) ?_
        refine kp_puti C G h kp_lM0 rfl inWX10 tyX10 tyX10_ok nmX10 (j := 17) (by decide) q4_61 rfl rfl (by decide +kernel) dX10_older_28 hF (fun σ_8 H locs h hF => ?_)
        refine kp_aload_n C dX10_older_31 rfl (lv_at hl 0 rfl) ?_
        obtain ⟨r_4, σ_9, hc, hF⟩ := kp_bd_s hF
        refine kp_cv h (kp_rV (k := 0) (As := []) (rest := []) C G h (kc_X10_goes  hc) q5_11 q5_13 q0_4_0 q1_11 q5_14 ⟨rfl, hd_X10_goes⟩ (by decide) kp_lM0 rfl rfl hl.1 rfl (Nat.le_of_ble_eq_true rfl) dX10_older_32) (fun H locs h => ?_)
        refine kp_aload_n C dX10_older_35 rfl (lv_at hl 0 rfl) ?_
        refine kp_aload_n C dX10_older_36 rfl (lv_at hl 0 rfl) ?_
        obtain ⟨r_5, σ_10, hc, hF⟩ := kp_bd_s hF
        refine kp_ci h (kp_rV (k := 0) (As := []) (rest := [.ref (kp_ad X 0)]) C G h (kc_X10_moving  hc) q5_66 q5_68 q0_4_11 q1_11 q5_69 ⟨rfl, hd_X10_moving⟩ (by decide) kp_lM0 rfl rfl hl.1 rfl (Nat.le_of_ble_eq_true rfl) dX10_older_37) (fun H locs h => ?_)
        obtain ⟨r_6, σ_11, hc, hF⟩ := kp_bd_s hF
        refine kp_ci h (kp_rV (k := 0) (As := [kp_iv r_5]) (rest := []) C G h (kc_X10_fitsOf  hc) q5_94 q5_96 q0_4_14 q1_11 q5_97 ⟨rfl, hd_X10_fitsOf⟩ (by decide) kp_lM0 rfl rfl hl.1 rfl (Nat.le_of_ble_eq_true rfl) dX10_older_40) (fun H locs h => ?_)
        obtain ⟨r_7, σ_12, hc, hF⟩ := kp_bd_s hF
        refine kp_ci h (kp_rS (As := [kp_iv r_6]) (rest := []) C G h (kc_X10_count1  hc) q5_102 q5_103 q1_11 q5_104 hd_X10_count1 (by decide) rfl hl.1 rfl (Nat.le_of_ble_eq_true rfl) dX10_older_43) (fun H locs h => ?_)
        refine kp_iload_n C dX10_older_46 rfl (lv_at hl 1 rfl) ?_
        refine kp_icmp_lt (tgt := 54) C dX10_older_47 (by decide) hF (fun hF => ?_) (fun hF => ?_)
        · refine kp_iload_n C dX10_older_54 rfl (lv_at hl 2 rfl) ?_
          refine kp_istore_n (lv' := fun x2_3 => [(2, kp_iv x2_3), (0, .ref (kp_ad X 0)), (1, kp_iv x1_0), (3, kp_iv x3_1)]) C dX10_older_55 rfl hl (by decide) (fun _ => rfl) hF (fun x2_3 ls hl hF => ?_)
          refine kp_iinc (k := 3) (lv' := fun x3_2 => [(3, kp_iv x3_2), (2, kp_iv x2_3), (0, .ref (kp_ad X 0)), (1, kp_iv x1_0)]) C dX10_older_56 hl rfl (by decide) (fun _ => rfl) hF (fun x3_2 ls hl hF => ?_)
          refine kp_goto (tgt := 20) C dX10_older_59 (by decide) ?_
          exact ih _ _ _ k _ _ _ h (lv_sub hl [2, 3, 1, 0] rfl) K hF
        · refine kp_iload_n C dX10_older_50 rfl (lv_at hl 3 rfl) ?_
          refine kp_goto (tgt := 55) C dX10_older_51 (by decide) ?_
          refine kp_istore_n (lv' := fun x2_4 => [(2, kp_iv x2_4), (0, .ref (kp_ad X 0)), (1, kp_iv x1_0), (3, kp_iv x3_1)]) C dX10_older_55 rfl hl (by decide) (fun _ => rfl) hF (fun x2_4 ls hl hF => ?_)
          refine kp_iinc (k := 3) (lv' := fun x3_3 => [(3, kp_iv x3_3), (2, kp_iv x2_4), (0, .ref (kp_ad X 0)), (1, kp_iv x1_0)]) C dX10_older_56 hl rfl (by decide) (fun _ => rfl) hF (fun x3_3 ls hl hF => ?_)
          refine kp_goto (tgt := 20) C dX10_older_59 (by decide) ?_
          exact ih _ _ _ k _ _ _ h (lv_sub hl [2, 3, 1, 0] rfl) K hF
  refine L20 kp_fu _ _ _ _ _ _ _ h (lv_sub hl [3, 2, 1, 0] rfl) (fun x2_2 σ_6 H locs ls h hl hF => ?_) hF
  clear L20
  refine kp_aload_n C dX10_older_62 rfl (lv_at hl 0 rfl) ?_
  refine kp_iconst C dX10_older_63 ?_
  refine kp_puti C G h kp_lM0 rfl inWX10 tyX10 tyX10_ok nmX10 (j := 17) (by decide) q4_61 rfl rfl (by decide +kernel) dX10_older_64 hF (fun σ_7 H locs h hF => ?_)
  refine kp_iload_n C dX10_older_67 rfl (lv_at hl 1 rfl) ?_
  exact kp_reti C hr hlk G h dX10_older_68 hF
def kf_X10_harm  (a1 : Int) (σ_0 : kp_W) : kp_R :=
  kp_bd (kf_X10_isNoise a1 σ_0) (fun r_0 σ_1 => kp_eq r_0 0 (some ((-1), σ_1)) (kp_bd (kf_X10_goes σ_1) (fun r_1 σ_2 => kp_bd (kf_X10_harmOf a1 σ_2) (fun r_2 σ_3 => some (r_2, σ_3)))))
set_option maxRecDepth 100000 in
set_option maxHeartbeats 4000000 in
theorem kc_X10_harm {l : Launch} {X : kp_X} {a1 : Int}  {σ_0 σ' : kp_W} {r : Int}   (hF : (kf_X10_harm a1 σ_0) = some (r, σ')) : kp_Met l yX10_harm cX10_harm 2 (some .int) 6 X kp_lM 10 σ_0 [.ref (kp_ad X 0), kp_iv a1] (kp_Qi X kp_lM 10 σ' r) := by
  refine kp_body pnX10 (Nat.le_of_ble_eq_true rfl) ?_
  intro p e s m args below meth c ls C hr hlk G h hl
  unfold kf_X10_harm at hF
  have hl : lv_has ls 2 [(0, .ref (kp_ad X 0)), (1, kp_iv a1)] := hl
  refine kp_aload_n C dX10_harm_0 rfl (lv_at hl 0 rfl) ?_
  refine kp_iload_n C dX10_harm_1 rfl (lv_at hl 1 rfl) ?_
  obtain ⟨r_0, σ_1, hc, hF⟩ := kp_bd_s hF
  refine kp_ci h (kp_rV (k := 0) (As := [kp_iv a1]) (rest := []) C G h (kc_X10_isNoise  hc) q4_239 q5_1 q0_3_15 q1_11 q5_2 ⟨rfl, hd_X10_isNoise⟩ (by decide) kp_lM0 rfl rfl hl.1 rfl (Nat.le_of_ble_eq_true rfl) dX10_harm_2) (fun H locs h => ?_)
  refine kp_if_ne (tgt := 10) C dX10_harm_5 (by decide) hF (fun hF => ?_) (fun hF => ?_)
  · refine kp_aload_n C dX10_harm_10 rfl (lv_at hl 0 rfl) ?_
    obtain ⟨r_1, σ_2, hc, hF⟩ := kp_bd_s hF
    refine kp_cv h (kp_rV (k := 0) (As := []) (rest := []) C G h (kc_X10_goes  hc) q5_11 q5_13 q0_4_0 q1_11 q5_14 ⟨rfl, hd_X10_goes⟩ (by decide) kp_lM0 rfl rfl hl.1 rfl (Nat.le_of_ble_eq_true rfl) dX10_harm_11) (fun H locs h => ?_)
    refine kp_aload_n C dX10_harm_14 rfl (lv_at hl 0 rfl) ?_
    refine kp_iload_n C dX10_harm_15 rfl (lv_at hl 1 rfl) ?_
    obtain ⟨r_2, σ_3, hc, hF⟩ := kp_bd_s hF
    refine kp_ci h (kp_rV (k := 0) (As := [kp_iv a1]) (rest := []) C G h (kc_X10_harmOf  hc) q5_124 q5_126 q0_5_2 q1_11 q5_127 ⟨rfl, hd_X10_harmOf⟩ (by decide) kp_lM0 rfl rfl hl.1 rfl (Nat.le_of_ble_eq_true rfl) dX10_harm_16) (fun H locs h => ?_)
    exact kp_reti C hr hlk G h dX10_harm_19 hF
  · refine kp_iconst C dX10_harm_8 ?_
    exact kp_reti C hr hlk G h dX10_harm_9 hF
def kf_X10_runs  (a1 : Int) (σ_0 : kp_W) : kp_R :=
  kp_jn (fun (σ_1 : kp_W) => kp_lt (kp_up σ_1 0 22 ((σ_1 0 22) + 1)) (fun σ_2 => some (0, σ_2))) (fun j19 => kp_ls (σ_0 0 22) 20 (kp_ck (0 ≤ (σ_0 0 22) ∧ (σ_0 0 22) < 20) (kp_lt (kp_up σ_0 9 (Int.toNat (σ_0 0 22)) a1) (fun σ_3 => j19 σ_3))) (j19 σ_0))
set_option maxRecDepth 100000 in
set_option maxHeartbeats 4000000 in
theorem kc_X10_runs {l : Launch} {X : kp_X} {a1 : Int}  {σ_0 σ' : kp_W} {r : Int}   (hF : (kf_X10_runs a1 σ_0) = some (r, σ')) : kp_Met l yX10_runs cX10_runs 2 none 0 X kp_lM 10 σ_0 [.ref (kp_ad X 0), kp_iv a1] (kp_Qv X kp_lM 10 σ') := by
  refine kp_body pnX10 (Nat.le_of_ble_eq_true rfl) ?_
  intro p e s m args below meth c ls C hr hlk G h hl
  unfold kf_X10_runs at hF
  have hl : lv_has ls 2 [(0, .ref (kp_ad X 0)), (1, kp_iv a1)] := hl
  refine kp_aload_n C dX10_runs_0 rfl (lv_at hl 0 rfl) ?_
  refine kp_geti C G h kp_lM0 rfl inWX10 (j := 22) (by decide) q4_66 rfl dX10_runs_1 ?_
  refine kp_bipush C dX10_runs_4 rfl ?_
  obtain ⟨j19, ej19, hF⟩ := kp_jn_s hF
  have J19 : ∀ (σ_1 : kp_W), ∀ (H : Heap) (locs : List Loc) (ls : Array Slot), kp_H X kp_lM 10 s σ_1 H locs → lv_has ls 2 [(0, .ref (kp_ad X 0))] → j19 σ_1 = some (r, σ') → W p l e (kp_rm 0) s m args below meth c H locs 0 0 (MQ below (kp_Qv X kp_lM 10 σ') args s 0 0 (kp_A X 10)) (F0 m 19 ls []) := by
    intro σ_1 H locs ls h hl hF
    rw [ej19] at hF
    refine kp_aload_n C dX10_runs_19 rfl (lv_at hl 0 rfl) ?_
    refine kp_dup C dX10_runs_20 rfl ?_
    refine kp_geti C G h kp_lM0 rfl inWX10 (j := 22) (by decide) q4_66 rfl dX10_runs_21 ?_
    refine kp_iconst C dX10_runs_24 ?_
    refine kp_iadd C dX10_runs_25 ?_
    refine kp_puti C G h kp_lM0 rfl inWX10 tyX10 tyX10_ok nmX10 (j := 22) (by decide) q4_66 rfl rfl (by decide +kernel) dX10_runs_26 hF (fun σ_2 H locs h hF => ?_)
    exact kp_retv (v := 0) C hr hlk G h dX10_runs_29 hF
  clear ej19
  refine kp_icmp_ge (tgt := 19) C dX10_runs_6 (by decide) hF (fun hF => ?_) (fun hF => ?_)
  · exact J19 _ _ _ _ h (lv_sub hl [0] rfl) hF
  · refine kp_aload_n C dX10_runs_9 rfl (lv_at hl 0 rfl) ?_
    refine kp_getr C G h kp_lM0 rfl inWX10 (j := 21) (by decide) q4_65 rfl dX10_runs_10 ?_
    refine kp_aload_n C dX10_runs_13 rfl (lv_at hl 0 rfl) ?_
    refine kp_geti C G h kp_lM0 rfl inWX10 (j := 22) (by decide) q4_66 rfl dX10_runs_14 ?_
    refine kp_iload_n C dX10_runs_17 rfl (lv_at hl 1 rfl) ?_
    refine kp_iast C G h (n := 20) kp_lM9 (by decide) dX10_runs_18 hF (fun σ_3 H locs h hF => ?_)
    exact J19 _ _ _ _ h (lv_sub hl [0] rfl) hF
def kf_X10_isUnder  (a1 : Int) (a2 : Int) (σ_0 : kp_W) : kp_R :=
  kp_eq a2 0 (some (1, σ_0)) (kp_eq a2 a1 (some (1, σ_0)) (kp_jn (fun (_ : Unit) => kp_jn (fun (_ : Unit) => kp_eq a2 3 (kp_eq a1 6 (some (1, σ_0)) (some (0, σ_0))) (some (0, σ_0))) (fun j29 => kp_eq a2 2 (kp_eq a1 5 (some (1, σ_0)) (j29 ())) (j29 ()))) (fun j19 => kp_eq a2 1 (kp_eq a1 4 (some (1, σ_0)) (j19 ())) (j19 ()))))
set_option maxRecDepth 100000 in
set_option maxHeartbeats 4000000 in
theorem kc_X10_isUnder {l : Launch} {X : kp_X} {a1 : Int} {a2 : Int}  {σ_0 σ' : kp_W} {r : Int}   (hF : (kf_X10_isUnder a1 a2 σ_0) = some (r, σ')) : kp_Met l yX10_isUnder cX10_isUnder 2 (some .boolean) 0 X kp_lM 10 σ_0 [kp_iv a1, kp_iv a2] (kp_Qi X kp_lM 10 σ' r) := by
  refine kp_body pnX10 (Nat.le_of_ble_eq_true rfl) ?_
  intro p e s m args below meth c ls C hr hlk G h hl
  unfold kf_X10_isUnder at hF
  have hl : lv_has ls 2 [(0, kp_iv a1), (1, kp_iv a2)] := hl
  refine kp_iload_n C dX10_isUnder_0 rfl (lv_at hl 1 rfl) ?_
  refine kp_if_eq (tgt := 40) C dX10_isUnder_1 (by decide) hF (fun hF => ?_) (fun hF => ?_)
  · refine kp_iconst C dX10_isUnder_40 ?_
    refine kp_goto (tgt := 45) C dX10_isUnder_41 (by decide) ?_
    exact kp_retz C hr hlk G h dX10_isUnder_45 (kp_ck_i (by decide) hF)
  · refine kp_iload_n C dX10_isUnder_4 rfl (lv_at hl 1 rfl) ?_
    refine kp_iload_n C dX10_isUnder_5 rfl (lv_at hl 0 rfl) ?_
    refine kp_icmp_eq (tgt := 40) C dX10_isUnder_6 (by decide) hF (fun hF => ?_) (fun hF => ?_)
    · refine kp_iconst C dX10_isUnder_40 ?_
      refine kp_goto (tgt := 45) C dX10_isUnder_41 (by decide) ?_
      exact kp_retz C hr hlk G h dX10_isUnder_45 (kp_ck_i (by decide) hF)
    · refine kp_iload_n C dX10_isUnder_9 rfl (lv_at hl 1 rfl) ?_
      refine kp_iconst C dX10_isUnder_10 ?_
      obtain ⟨j19, ej19, hF⟩ := kp_jn_s hF
      have J19 : ∀ _ : Unit, ∀ (H : Heap) (locs : List Loc) (ls : Array Slot), kp_H X kp_lM 10 s σ_0 H locs → lv_has ls 2 [(0, kp_iv a1), (1, kp_iv a2)] → j19 () = some (r, σ') → W p l e (kp_rm 0) s m args below meth c H locs 0 0 (MQ below (kp_Qi X kp_lM 10 σ' r) args s 0 0 (kp_A X 10)) (F0 m 19 ls []) := by
        intro _ H locs ls h hl hF
        rw [ej19] at hF
        refine kp_iload_n C dX10_isUnder_19 rfl (lv_at hl 1 rfl) ?_
        refine kp_iconst C dX10_isUnder_20 ?_
        obtain ⟨j29, ej29, hF⟩ := kp_jn_s hF
        have J29 : ∀ _ : Unit, ∀ (H : Heap) (locs : List Loc) (ls : Array Slot), kp_H X kp_lM 10 s σ_0 H locs → lv_has ls 2 [(0, kp_iv a1), (1, kp_iv a2)] → j29 () = some (r, σ') → W p l e (kp_rm 0) s m args below meth c H locs 0 0 (MQ below (kp_Qi X kp_lM 10 σ' r) args s 0 0 (kp_A X 10)) (F0 m 29 ls []) := by
          intro _ H locs ls h hl hF
          rw [ej29] at hF
          refine kp_iload_n C dX10_isUnder_29 rfl (lv_at hl 1 rfl) ?_
          refine kp_iconst C dX10_isUnder_30 ?_
          refine kp_icmp_ne (tgt := 44) C dX10_isUnder_31 (by decide) hF (fun hF => ?_) (fun hF => ?_)
          · refine kp_iconst C dX10_isUnder_44 ?_
            exact kp_retz C hr hlk G h dX10_isUnder_45 (kp_ck_i (by decide) hF)
          · refine kp_iload_n C dX10_isUnder_34 rfl (lv_at hl 0 rfl) ?_
            refine kp_bipush C dX10_isUnder_35 rfl ?_
            refine kp_icmp_ne (tgt := 44) C dX10_isUnder_37 (by decide) hF (fun hF => ?_) (fun hF => ?_)
            · refine kp_iconst C dX10_isUnder_44 ?_
              exact kp_retz C hr hlk G h dX10_isUnder_45 (kp_ck_i (by decide) hF)
            · refine kp_iconst C dX10_isUnder_40 ?_
              refine kp_goto (tgt := 45) C dX10_isUnder_41 (by decide) ?_
              exact kp_retz C hr hlk G h dX10_isUnder_45 (kp_ck_i (by decide) hF)
        clear ej29
        refine kp_icmp_ne (tgt := 29) C dX10_isUnder_21 (by decide) hF (fun hF => ?_) (fun hF => ?_)
        · exact J29 () _ _ _ h (lv_sub hl [0, 1] rfl) hF
        · refine kp_iload_n C dX10_isUnder_24 rfl (lv_at hl 0 rfl) ?_
          refine kp_iconst C dX10_isUnder_25 ?_
          refine kp_icmp_eq (tgt := 40) C dX10_isUnder_26 (by decide) hF (fun hF => ?_) (fun hF => ?_)
          · refine kp_iconst C dX10_isUnder_40 ?_
            refine kp_goto (tgt := 45) C dX10_isUnder_41 (by decide) ?_
            exact kp_retz C hr hlk G h dX10_isUnder_45 (kp_ck_i (by decide) hF)
          · exact J29 () _ _ _ h (lv_sub hl [0, 1] rfl) hF
      clear ej19
      refine kp_icmp_ne (tgt := 19) C dX10_isUnder_11 (by decide) hF (fun hF => ?_) (fun hF => ?_)
      · exact J19 () _ _ _ h (lv_sub hl [0, 1] rfl) hF
      · refine kp_iload_n C dX10_isUnder_14 rfl (lv_at hl 0 rfl) ?_
        refine kp_iconst C dX10_isUnder_15 ?_
        refine kp_icmp_eq (tgt := 40) C dX10_isUnder_16 (by decide) hF (fun hF => ?_) (fun hF => ?_)
        · refine kp_iconst C dX10_isUnder_40 ?_
          refine kp_goto (tgt := 45) C dX10_isUnder_41 (by decide) ?_
          exact kp_retz C hr hlk G h dX10_isUnder_45 (kp_ck_i (by decide) hF)
        · exact J19 () _ _ _ h (lv_sub hl [0, 1] rfl) hF
def kf_X10_plainGrows  (a1 : Int) (σ_0 : kp_W) : kp_R :=
  kp_bd (kf_X10_runs 1 σ_0) (fun r_0 σ_1 => some ((a1 + (σ_1 0 24)), σ_1))
set_option maxRecDepth 100000 in
set_option maxHeartbeats 4000000 in
theorem kc_X10_plainGrows {l : Launch} {X : kp_X} {a1 : Int}  {σ_0 σ' : kp_W} {r : Int}   (hF : (kf_X10_plainGrows a1 σ_0) = some (r, σ')) : kp_Met l yX10_plainGrows cX10_plainGrows 2 (some .int) 1 X kp_lM 10 σ_0 [.ref (kp_ad X 0), kp_iv a1] (kp_Qi X kp_lM 10 σ' r) := by
  refine kp_body pnX10 (Nat.le_of_ble_eq_true rfl) ?_
  intro p e s m args below meth c ls C hr hlk G h hl
  unfold kf_X10_plainGrows at hF
  have hl : lv_has ls 2 [(0, .ref (kp_ad X 0)), (1, kp_iv a1)] := hl
  refine kp_aload_n C dX10_plainGrows_0 rfl (lv_at hl 0 rfl) ?_
  refine kp_iconst C dX10_plainGrows_1 ?_
  obtain ⟨r_0, σ_1, hc, hF⟩ := kp_bd_s hF
  refine kp_cv h (kp_rV (k := 0) (As := [kp_iv 1]) (rest := []) C G h (kc_X10_runs  hc) q5_172 q5_174 q0_5_4 q1_11 q5_175 ⟨rfl, hd_X10_runs⟩ (by decide) kp_lM0 rfl rfl hl.1 rfl (Nat.le_of_ble_eq_true rfl) dX10_plainGrows_2) (fun H locs h => ?_)
  refine kp_iload_n C dX10_plainGrows_5 rfl (lv_at hl 1 rfl) ?_
  refine kp_aload_n C dX10_plainGrows_6 rfl (lv_at hl 0 rfl) ?_
  refine kp_geti C G h kp_lM0 rfl inWX10 (j := 24) (by decide) q4_68 rfl dX10_plainGrows_7 ?_
  refine kp_iadd C dX10_plainGrows_10 ?_
  exact kp_reti C hr hlk G h dX10_plainGrows_11 hF
def kf_X10_growsActs  (a1 : Int) (σ_0 : kp_W) : kp_R :=
  kp_bd (kf_X10_isUnder (σ_0 0 23) 1 σ_0) (fun r_0 σ_1 => kp_eq r_0 0 (kp_eq (σ_1 0 23) 5 (kp_bd (kf_X10_runs 51 σ_1) (fun r_2 σ_3 => kp_bd (kf_X10_plainGrows a1 σ_3) (fun r_3 σ_4 => some ((kp_xor r_3 (σ_4 0 24)), σ_4)))) (kp_bd (kf_X10_plainGrows a1 σ_1) (fun r_1 σ_2 => some (r_1, σ_2)))) (kp_bd (kf_X10_runs 11 σ_1) (fun r_4 σ_5 => kp_bd (kf_X10_plainGrows (a1 * 3) σ_5) (fun r_5 σ_6 => some (r_5, σ_6)))))
set_option maxRecDepth 100000 in
set_option maxHeartbeats 4000000 in
theorem kc_X10_growsActs {l : Launch} {X : kp_X} {a1 : Int}  {σ_0 σ' : kp_W} {r : Int}   (hF : (kf_X10_growsActs a1 σ_0) = some (r, σ')) : kp_Met l yX10_growsActs cX10_growsActs 2 (some .int) 2 X kp_lM 10 σ_0 [.ref (kp_ad X 0), kp_iv a1] (kp_Qi X kp_lM 10 σ' r) := by
  refine kp_body pnX10 (Nat.le_of_ble_eq_true rfl) ?_
  intro p e s m args below meth c ls C hr hlk G h hl
  unfold kf_X10_growsActs at hF
  have hl : lv_has ls 2 [(0, .ref (kp_ad X 0)), (1, kp_iv a1)] := hl
  refine kp_aload_n C dX10_growsActs_0 rfl (lv_at hl 0 rfl) ?_
  refine kp_geti C G h kp_lM0 rfl inWX10 (j := 23) (by decide) q4_67 rfl dX10_growsActs_1 ?_
  refine kp_iconst C dX10_growsActs_4 ?_
  obtain ⟨r_0, σ_1, hc, hF⟩ := kp_bd_s hF
  refine kp_ci h (kp_rS (As := [kp_iv (σ_0 0 23), kp_iv 1]) (rest := []) C G h (kc_X10_isUnder  hc) q5_169 q5_170 q1_11 q5_171 hd_X10_isUnder (by decide) rfl hl.1 rfl (Nat.le_of_ble_eq_true rfl) dX10_growsActs_5) (fun H locs h => ?_)
  refine kp_if_eq (tgt := 25) C dX10_growsActs_8 (by decide) hF (fun hF => ?_) (fun hF => ?_)
  · refine kp_aload_n C dX10_growsActs_25 rfl (lv_at hl 0 rfl) ?_
    refine kp_geti C G h kp_lM0 rfl inWX10 (j := 23) (by decide) q4_67 rfl dX10_growsActs_26 ?_
    refine kp_iconst C dX10_growsActs_29 ?_
    refine kp_icmp_ne (tgt := 50) C dX10_growsActs_30 (by decide) hF (fun hF => ?_) (fun hF => ?_)
    · refine kp_aload_n C dX10_growsActs_50 rfl (lv_at hl 0 rfl) ?_
      refine kp_iload_n C dX10_growsActs_51 rfl (lv_at hl 1 rfl) ?_
      obtain ⟨r_1, σ_2, hc, hF⟩ := kp_bd_s hF
      refine kp_ci h (kp_rV (k := 0) (As := [kp_iv a1]) (rest := []) C G h (kc_X10_plainGrows  hc) q5_176 q5_178 q0_5_5 q1_11 q5_179 ⟨rfl, hd_X10_plainGrows⟩ (by decide) kp_lM0 rfl rfl hl.1 rfl (Nat.le_of_ble_eq_true rfl) dX10_growsActs_52) (fun H locs h => ?_)
      exact kp_reti C hr hlk G h dX10_growsActs_55 hF
    · refine kp_aload_n C dX10_growsActs_33 rfl (lv_at hl 0 rfl) ?_
      refine kp_bipush C dX10_growsActs_34 rfl ?_
      obtain ⟨r_2, σ_3, hc, hF⟩ := kp_bd_s hF
      refine kp_cv h (kp_rV (k := 0) (As := [kp_iv 51]) (rest := []) C G h (kc_X10_runs  hc) q5_172 q5_174 q0_5_4 q1_11 q5_175 ⟨rfl, hd_X10_runs⟩ (by decide) kp_lM0 rfl rfl hl.1 rfl (Nat.le_of_ble_eq_true rfl) dX10_growsActs_36) (fun H locs h => ?_)
      refine kp_aload_n C dX10_growsActs_39 rfl (lv_at hl 0 rfl) ?_
      refine kp_iload_n C dX10_growsActs_40 rfl (lv_at hl 1 rfl) ?_
      obtain ⟨r_3, σ_4, hc, hF⟩ := kp_bd_s hF
      refine kp_ci h (kp_rV (k := 0) (As := [kp_iv a1]) (rest := []) C G h (kc_X10_plainGrows  hc) q5_176 q5_178 q0_5_5 q1_11 q5_179 ⟨rfl, hd_X10_plainGrows⟩ (by decide) kp_lM0 rfl rfl hl.1 rfl (Nat.le_of_ble_eq_true rfl) dX10_growsActs_41) (fun H locs h => ?_)
      refine kp_aload_n C dX10_growsActs_44 rfl (lv_at hl 0 rfl) ?_
      refine kp_geti C G h kp_lM0 rfl inWX10 (j := 24) (by decide) q4_68 rfl dX10_growsActs_45 ?_
      refine kp_xixor C dX10_growsActs_48 ?_
      exact kp_reti C hr hlk G h dX10_growsActs_49 hF
  · refine kp_aload_n C dX10_growsActs_11 rfl (lv_at hl 0 rfl) ?_
    refine kp_bipush C dX10_growsActs_12 rfl ?_
    obtain ⟨r_4, σ_5, hc, hF⟩ := kp_bd_s hF
    refine kp_cv h (kp_rV (k := 0) (As := [kp_iv 11]) (rest := []) C G h (kc_X10_runs  hc) q5_172 q5_174 q0_5_4 q1_11 q5_175 ⟨rfl, hd_X10_runs⟩ (by decide) kp_lM0 rfl rfl hl.1 rfl (Nat.le_of_ble_eq_true rfl) dX10_growsActs_14) (fun H locs h => ?_)
    refine kp_aload_n C dX10_growsActs_17 rfl (lv_at hl 0 rfl) ?_
    refine kp_iload_n C dX10_growsActs_18 rfl (lv_at hl 1 rfl) ?_
    refine kp_iconst C dX10_growsActs_19 ?_
    refine kp_imul C dX10_growsActs_20 ?_
    obtain ⟨r_5, σ_6, hc, hF⟩ := kp_bd_s hF
    refine kp_ci h (kp_rV (k := 0) (As := [kp_iv (a1 * 3)]) (rest := []) C G h (kc_X10_plainGrows  hc) q5_176 q5_178 q0_5_5 q1_11 q5_179 ⟨rfl, hd_X10_plainGrows⟩ (by decide) kp_lM0 rfl rfl hl.1 rfl (Nat.le_of_ble_eq_true rfl) dX10_growsActs_21) (fun H locs h => ?_)
    exact kp_reti C hr hlk G h dX10_growsActs_24 hF
def kf_X10_plainStrikes  (a1 : Int) (σ_0 : kp_W) : kp_R :=
  kp_bd (kf_X10_runs 2 σ_0) (fun r_0 σ_1 => kp_bd (kf_X10_growsActs a1 σ_1) (fun r_1 σ_2 => some ((r_1 - (σ_2 0 25)), σ_2)))
set_option maxRecDepth 100000 in
set_option maxHeartbeats 4000000 in
theorem kc_X10_plainStrikes {l : Launch} {X : kp_X} {a1 : Int}  {σ_0 σ' : kp_W} {r : Int}   (hF : (kf_X10_plainStrikes a1 σ_0) = some (r, σ')) : kp_Met l yX10_plainStrikes cX10_plainStrikes 2 (some .int) 3 X kp_lM 10 σ_0 [.ref (kp_ad X 0), kp_iv a1] (kp_Qi X kp_lM 10 σ' r) := by
  refine kp_body pnX10 (Nat.le_of_ble_eq_true rfl) ?_
  intro p e s m args below meth c ls C hr hlk G h hl
  unfold kf_X10_plainStrikes at hF
  have hl : lv_has ls 2 [(0, .ref (kp_ad X 0)), (1, kp_iv a1)] := hl
  refine kp_aload_n C dX10_plainStrikes_0 rfl (lv_at hl 0 rfl) ?_
  refine kp_iconst C dX10_plainStrikes_1 ?_
  obtain ⟨r_0, σ_1, hc, hF⟩ := kp_bd_s hF
  refine kp_cv h (kp_rV (k := 0) (As := [kp_iv 2]) (rest := []) C G h (kc_X10_runs  hc) q5_172 q5_174 q0_5_4 q1_11 q5_175 ⟨rfl, hd_X10_runs⟩ (by decide) kp_lM0 rfl rfl hl.1 rfl (Nat.le_of_ble_eq_true rfl) dX10_plainStrikes_2) (fun H locs h => ?_)
  refine kp_aload_n C dX10_plainStrikes_5 rfl (lv_at hl 0 rfl) ?_
  refine kp_iload_n C dX10_plainStrikes_6 rfl (lv_at hl 1 rfl) ?_
  obtain ⟨r_1, σ_2, hc, hF⟩ := kp_bd_s hF
  refine kp_ci h (kp_rV (k := 0) (As := [kp_iv a1]) (rest := []) C G h (kc_X10_growsActs  hc) q5_165 q5_167 q0_5_3 q1_11 q5_168 ⟨rfl, hd_X10_growsActs⟩ (by decide) kp_lM0 rfl rfl hl.1 rfl (Nat.le_of_ble_eq_true rfl) dX10_plainStrikes_7) (fun H locs h => ?_)
  refine kp_aload_n C dX10_plainStrikes_10 rfl (lv_at hl 0 rfl) ?_
  refine kp_geti C G h kp_lM0 rfl inWX10 (j := 25) (by decide) q4_69 rfl dX10_plainStrikes_11 ?_
  refine kp_isub C dX10_plainStrikes_14 ?_
  exact kp_reti C hr hlk G h dX10_plainStrikes_15 hF
def kf_X10_strikesActs  (a1 : Int) (σ_0 : kp_W) : kp_R :=
  kp_bd (kf_X10_isUnder (σ_0 0 23) 2 σ_0) (fun r_0 σ_1 => kp_eq r_0 0 (kp_eq (σ_1 0 23) 6 (kp_bd (kf_X10_runs 61 σ_1) (fun r_2 σ_3 => kp_bd (kf_X10_plainStrikes a1 σ_3) (fun r_3 σ_4 => some ((r_3 + (σ_4 0 25)), σ_4)))) (kp_bd (kf_X10_plainStrikes a1 σ_1) (fun r_1 σ_2 => some (r_1, σ_2)))) (kp_bd (kf_X10_runs 21 σ_1) (fun r_4 σ_5 => kp_bd (kf_X10_plainStrikes a1 σ_5) (fun r_5 σ_6 => some ((-r_5), σ_6)))))
set_option maxRecDepth 100000 in
set_option maxHeartbeats 4000000 in
theorem kc_X10_strikesActs {l : Launch} {X : kp_X} {a1 : Int}  {σ_0 σ' : kp_W} {r : Int}   (hF : (kf_X10_strikesActs a1 σ_0) = some (r, σ')) : kp_Met l yX10_strikesActs cX10_strikesActs 2 (some .int) 4 X kp_lM 10 σ_0 [.ref (kp_ad X 0), kp_iv a1] (kp_Qi X kp_lM 10 σ' r) := by
  refine kp_body pnX10 (Nat.le_of_ble_eq_true rfl) ?_
  intro p e s m args below meth c ls C hr hlk G h hl
  unfold kf_X10_strikesActs at hF
  have hl : lv_has ls 2 [(0, .ref (kp_ad X 0)), (1, kp_iv a1)] := hl
  refine kp_aload_n C dX10_strikesActs_0 rfl (lv_at hl 0 rfl) ?_
  refine kp_geti C G h kp_lM0 rfl inWX10 (j := 23) (by decide) q4_67 rfl dX10_strikesActs_1 ?_
  refine kp_iconst C dX10_strikesActs_4 ?_
  obtain ⟨r_0, σ_1, hc, hF⟩ := kp_bd_s hF
  refine kp_ci h (kp_rS (As := [kp_iv (σ_0 0 23), kp_iv 2]) (rest := []) C G h (kc_X10_isUnder  hc) q5_169 q5_170 q1_11 q5_171 hd_X10_isUnder (by decide) rfl hl.1 rfl (Nat.le_of_ble_eq_true rfl) dX10_strikesActs_5) (fun H locs h => ?_)
  refine kp_if_eq (tgt := 24) C dX10_strikesActs_8 (by decide) hF (fun hF => ?_) (fun hF => ?_)
  · refine kp_aload_n C dX10_strikesActs_24 rfl (lv_at hl 0 rfl) ?_
    refine kp_geti C G h kp_lM0 rfl inWX10 (j := 23) (by decide) q4_67 rfl dX10_strikesActs_25 ?_
    refine kp_bipush C dX10_strikesActs_28 rfl ?_
    refine kp_icmp_ne (tgt := 50) C dX10_strikesActs_30 (by decide) hF (fun hF => ?_) (fun hF => ?_)
    · refine kp_aload_n C dX10_strikesActs_50 rfl (lv_at hl 0 rfl) ?_
      refine kp_iload_n C dX10_strikesActs_51 rfl (lv_at hl 1 rfl) ?_
      obtain ⟨r_1, σ_2, hc, hF⟩ := kp_bd_s hF
      refine kp_ci h (kp_rV (k := 0) (As := [kp_iv a1]) (rest := []) C G h (kc_X10_plainStrikes  hc) q5_184 q5_186 q0_5_7 q1_11 q5_187 ⟨rfl, hd_X10_plainStrikes⟩ (by decide) kp_lM0 rfl rfl hl.1 rfl (Nat.le_of_ble_eq_true rfl) dX10_strikesActs_52) (fun H locs h => ?_)
      exact kp_reti C hr hlk G h dX10_strikesActs_55 hF
    · refine kp_aload_n C dX10_strikesActs_33 rfl (lv_at hl 0 rfl) ?_
      refine kp_bipush C dX10_strikesActs_34 rfl ?_
      obtain ⟨r_2, σ_3, hc, hF⟩ := kp_bd_s hF
      refine kp_cv h (kp_rV (k := 0) (As := [kp_iv 61]) (rest := []) C G h (kc_X10_runs  hc) q5_172 q5_174 q0_5_4 q1_11 q5_175 ⟨rfl, hd_X10_runs⟩ (by decide) kp_lM0 rfl rfl hl.1 rfl (Nat.le_of_ble_eq_true rfl) dX10_strikesActs_36) (fun H locs h => ?_)
      refine kp_aload_n C dX10_strikesActs_39 rfl (lv_at hl 0 rfl) ?_
      refine kp_iload_n C dX10_strikesActs_40 rfl (lv_at hl 1 rfl) ?_
      obtain ⟨r_3, σ_4, hc, hF⟩ := kp_bd_s hF
      refine kp_ci h (kp_rV (k := 0) (As := [kp_iv a1]) (rest := []) C G h (kc_X10_plainStrikes  hc) q5_184 q5_186 q0_5_7 q1_11 q5_187 ⟨rfl, hd_X10_plainStrikes⟩ (by decide) kp_lM0 rfl rfl hl.1 rfl (Nat.le_of_ble_eq_true rfl) dX10_strikesActs_41) (fun H locs h => ?_)
      refine kp_aload_n C dX10_strikesActs_44 rfl (lv_at hl 0 rfl) ?_
      refine kp_geti C G h kp_lM0 rfl inWX10 (j := 25) (by decide) q4_69 rfl dX10_strikesActs_45 ?_
      refine kp_iadd C dX10_strikesActs_48 ?_
      exact kp_reti C hr hlk G h dX10_strikesActs_49 hF
  · refine kp_aload_n C dX10_strikesActs_11 rfl (lv_at hl 0 rfl) ?_
    refine kp_bipush C dX10_strikesActs_12 rfl ?_
    obtain ⟨r_4, σ_5, hc, hF⟩ := kp_bd_s hF
    refine kp_cv h (kp_rV (k := 0) (As := [kp_iv 21]) (rest := []) C G h (kc_X10_runs  hc) q5_172 q5_174 q0_5_4 q1_11 q5_175 ⟨rfl, hd_X10_runs⟩ (by decide) kp_lM0 rfl rfl hl.1 rfl (Nat.le_of_ble_eq_true rfl) dX10_strikesActs_14) (fun H locs h => ?_)
    refine kp_aload_n C dX10_strikesActs_17 rfl (lv_at hl 0 rfl) ?_
    refine kp_iload_n C dX10_strikesActs_18 rfl (lv_at hl 1 rfl) ?_
    obtain ⟨r_5, σ_6, hc, hF⟩ := kp_bd_s hF
    refine kp_ci h (kp_rV (k := 0) (As := [kp_iv a1]) (rest := []) C G h (kc_X10_plainStrikes  hc) q5_184 q5_186 q0_5_7 q1_11 q5_187 ⟨rfl, hd_X10_plainStrikes⟩ (by decide) kp_lM0 rfl rfl hl.1 rfl (Nat.le_of_ble_eq_true rfl) dX10_strikesActs_19) (fun H locs h => ?_)
    refine kp_ineg C dX10_strikesActs_22 ?_
    exact kp_reti C hr hlk G h dX10_strikesActs_23 hF
def kf_X10_plainTells  (a1 : Int) (σ_0 : kp_W) : kp_R :=
  kp_bd (kf_X10_runs 3 σ_0) (fun r_0 σ_1 => kp_bd (kf_X10_strikesActs a1 σ_1) (fun r_1 σ_2 => some ((r_1 * 2), σ_2)))
set_option maxRecDepth 100000 in
set_option maxHeartbeats 4000000 in
theorem kc_X10_plainTells {l : Launch} {X : kp_X} {a1 : Int}  {σ_0 σ' : kp_W} {r : Int}   (hF : (kf_X10_plainTells a1 σ_0) = some (r, σ')) : kp_Met l yX10_plainTells cX10_plainTells 2 (some .int) 5 X kp_lM 10 σ_0 [.ref (kp_ad X 0), kp_iv a1] (kp_Qi X kp_lM 10 σ' r) := by
  refine kp_body pnX10 (Nat.le_of_ble_eq_true rfl) ?_
  intro p e s m args below meth c ls C hr hlk G h hl
  unfold kf_X10_plainTells at hF
  have hl : lv_has ls 2 [(0, .ref (kp_ad X 0)), (1, kp_iv a1)] := hl
  refine kp_aload_n C dX10_plainTells_0 rfl (lv_at hl 0 rfl) ?_
  refine kp_iconst C dX10_plainTells_1 ?_
  obtain ⟨r_0, σ_1, hc, hF⟩ := kp_bd_s hF
  refine kp_cv h (kp_rV (k := 0) (As := [kp_iv 3]) (rest := []) C G h (kc_X10_runs  hc) q5_172 q5_174 q0_5_4 q1_11 q5_175 ⟨rfl, hd_X10_runs⟩ (by decide) kp_lM0 rfl rfl hl.1 rfl (Nat.le_of_ble_eq_true rfl) dX10_plainTells_2) (fun H locs h => ?_)
  refine kp_aload_n C dX10_plainTells_5 rfl (lv_at hl 0 rfl) ?_
  refine kp_iload_n C dX10_plainTells_6 rfl (lv_at hl 1 rfl) ?_
  obtain ⟨r_1, σ_2, hc, hF⟩ := kp_bd_s hF
  refine kp_ci h (kp_rV (k := 0) (As := [kp_iv a1]) (rest := []) C G h (kc_X10_strikesActs  hc) q5_180 q5_182 q0_5_6 q1_11 q5_183 ⟨rfl, hd_X10_strikesActs⟩ (by decide) kp_lM0 rfl rfl hl.1 rfl (Nat.le_of_ble_eq_true rfl) dX10_plainTells_7) (fun H locs h => ?_)
  refine kp_iconst C dX10_plainTells_10 ?_
  refine kp_imul C dX10_plainTells_11 ?_
  exact kp_reti C hr hlk G h dX10_plainTells_12 hF
def kf_X10_tellsActs  (a1 : Int) (σ_0 : kp_W) : kp_R :=
  kp_bd (kf_X10_isUnder (σ_0 0 23) 3 σ_0) (fun r_0 σ_1 => kp_eq r_0 0 (kp_eq (σ_1 0 23) 4 (kp_bd (kf_X10_runs 41 σ_1) (fun r_2 σ_3 => kp_bd (kf_X10_plainTells (a1 - 1) σ_3) (fun r_3 σ_4 => kp_lt (r_3 : Int) (fun x2_0 => kp_bd (kf_X10_growsActs 2 σ_4) (fun r_4 σ_5 => some ((x2_0 + r_4), σ_5)))))) (kp_bd (kf_X10_plainTells a1 σ_1) (fun r_1 σ_2 => some (r_1, σ_2)))) (kp_bd (kf_X10_runs 31 σ_1) (fun r_5 σ_6 => kp_bd (kf_X10_plainTells a1 σ_6) (fun r_6 σ_7 => some ((kp_xor r_6 7), σ_7)))))
set_option maxRecDepth 100000 in
set_option maxHeartbeats 4000000 in
theorem kc_X10_tellsActs {l : Launch} {X : kp_X} {a1 : Int}  {σ_0 σ' : kp_W} {r : Int}   (hF : (kf_X10_tellsActs a1 σ_0) = some (r, σ')) : kp_Met l yX10_tellsActs cX10_tellsActs 3 (some .int) 6 X kp_lM 10 σ_0 [.ref (kp_ad X 0), kp_iv a1] (kp_Qi X kp_lM 10 σ' r) := by
  refine kp_body pnX10 (Nat.le_of_ble_eq_true rfl) ?_
  intro p e s m args below meth c ls C hr hlk G h hl
  unfold kf_X10_tellsActs at hF
  have hl : lv_has ls 3 [(0, .ref (kp_ad X 0)), (1, kp_iv a1)] := hl
  refine kp_aload_n C dX10_tellsActs_0 rfl (lv_at hl 0 rfl) ?_
  refine kp_geti C G h kp_lM0 rfl inWX10 (j := 23) (by decide) q4_67 rfl dX10_tellsActs_1 ?_
  refine kp_iconst C dX10_tellsActs_4 ?_
  obtain ⟨r_0, σ_1, hc, hF⟩ := kp_bd_s hF
  refine kp_ci h (kp_rS (As := [kp_iv (σ_0 0 23), kp_iv 3]) (rest := []) C G h (kc_X10_isUnder  hc) q5_169 q5_170 q1_11 q5_171 hd_X10_isUnder (by decide) rfl hl.1 rfl (Nat.le_of_ble_eq_true rfl) dX10_tellsActs_5) (fun H locs h => ?_)
  refine kp_if_eq (tgt := 26) C dX10_tellsActs_8 (by decide) hF (fun hF => ?_) (fun hF => ?_)
  · refine kp_aload_n C dX10_tellsActs_26 rfl (lv_at hl 0 rfl) ?_
    refine kp_geti C G h kp_lM0 rfl inWX10 (j := 23) (by decide) q4_67 rfl dX10_tellsActs_27 ?_
    refine kp_iconst C dX10_tellsActs_30 ?_
    refine kp_icmp_ne (tgt := 56) C dX10_tellsActs_31 (by decide) hF (fun hF => ?_) (fun hF => ?_)
    · refine kp_aload_n C dX10_tellsActs_56 rfl (lv_at hl 0 rfl) ?_
      refine kp_iload_n C dX10_tellsActs_57 rfl (lv_at hl 1 rfl) ?_
      obtain ⟨r_1, σ_2, hc, hF⟩ := kp_bd_s hF
      refine kp_ci h (kp_rV (k := 0) (As := [kp_iv a1]) (rest := []) C G h (kc_X10_plainTells  hc) q5_192 q5_194 q0_5_9 q1_11 q5_195 ⟨rfl, hd_X10_plainTells⟩ (by decide) kp_lM0 rfl rfl hl.1 rfl (Nat.le_of_ble_eq_true rfl) dX10_tellsActs_58) (fun H locs h => ?_)
      exact kp_reti C hr hlk G h dX10_tellsActs_61 hF
    · refine kp_aload_n C dX10_tellsActs_34 rfl (lv_at hl 0 rfl) ?_
      refine kp_bipush C dX10_tellsActs_35 rfl ?_
      obtain ⟨r_2, σ_3, hc, hF⟩ := kp_bd_s hF
      refine kp_cv h (kp_rV (k := 0) (As := [kp_iv 41]) (rest := []) C G h (kc_X10_runs  hc) q5_172 q5_174 q0_5_4 q1_11 q5_175 ⟨rfl, hd_X10_runs⟩ (by decide) kp_lM0 rfl rfl hl.1 rfl (Nat.le_of_ble_eq_true rfl) dX10_tellsActs_37) (fun H locs h => ?_)
      refine kp_aload_n C dX10_tellsActs_40 rfl (lv_at hl 0 rfl) ?_
      refine kp_iload_n C dX10_tellsActs_41 rfl (lv_at hl 1 rfl) ?_
      refine kp_iconst C dX10_tellsActs_42 ?_
      refine kp_isub C dX10_tellsActs_43 ?_
      obtain ⟨r_3, σ_4, hc, hF⟩ := kp_bd_s hF
      refine kp_ci h (kp_rV (k := 0) (As := [kp_iv (a1 - 1)]) (rest := []) C G h (kc_X10_plainTells  hc) q5_192 q5_194 q0_5_9 q1_11 q5_195 ⟨rfl, hd_X10_plainTells⟩ (by decide) kp_lM0 rfl rfl hl.1 rfl (Nat.le_of_ble_eq_true rfl) dX10_tellsActs_44) (fun H locs h => ?_)
      refine kp_istore_n (lv' := fun x2_0 => [(2, kp_iv x2_0), (0, .ref (kp_ad X 0)), (1, kp_iv a1)]) C dX10_tellsActs_47 rfl hl (by decide) (fun _ => rfl) hF (fun x2_0 ls hl hF => ?_)
      refine kp_iload_n C dX10_tellsActs_48 rfl (lv_at hl 0 rfl) ?_
      refine kp_aload_n C dX10_tellsActs_49 rfl (lv_at hl 1 rfl) ?_
      refine kp_iconst C dX10_tellsActs_50 ?_
      obtain ⟨r_4, σ_5, hc, hF⟩ := kp_bd_s hF
      refine kp_ci h (kp_rV (k := 0) (As := [kp_iv 2]) (rest := [kp_iv x2_0]) C G h (kc_X10_growsActs  hc) q5_165 q5_167 q0_5_3 q1_11 q5_168 ⟨rfl, hd_X10_growsActs⟩ (by decide) kp_lM0 rfl rfl hl.1 rfl (Nat.le_of_ble_eq_true rfl) dX10_tellsActs_51) (fun H locs h => ?_)
      refine kp_iadd C dX10_tellsActs_54 ?_
      exact kp_reti C hr hlk G h dX10_tellsActs_55 hF
  · refine kp_aload_n C dX10_tellsActs_11 rfl (lv_at hl 0 rfl) ?_
    refine kp_bipush C dX10_tellsActs_12 rfl ?_
    obtain ⟨r_5, σ_6, hc, hF⟩ := kp_bd_s hF
    refine kp_cv h (kp_rV (k := 0) (As := [kp_iv 31]) (rest := []) C G h (kc_X10_runs  hc) q5_172 q5_174 q0_5_4 q1_11 q5_175 ⟨rfl, hd_X10_runs⟩ (by decide) kp_lM0 rfl rfl hl.1 rfl (Nat.le_of_ble_eq_true rfl) dX10_tellsActs_14) (fun H locs h => ?_)
    refine kp_aload_n C dX10_tellsActs_17 rfl (lv_at hl 0 rfl) ?_
    refine kp_iload_n C dX10_tellsActs_18 rfl (lv_at hl 1 rfl) ?_
    obtain ⟨r_6, σ_7, hc, hF⟩ := kp_bd_s hF
    refine kp_ci h (kp_rV (k := 0) (As := [kp_iv a1]) (rest := []) C G h (kc_X10_plainTells  hc) q5_192 q5_194 q0_5_9 q1_11 q5_195 ⟨rfl, hd_X10_plainTells⟩ (by decide) kp_lM0 rfl rfl hl.1 rfl (Nat.le_of_ble_eq_true rfl) dX10_tellsActs_19) (fun H locs h => ?_)
    refine kp_bipush C dX10_tellsActs_22 rfl ?_
    refine kp_xixor C dX10_tellsActs_24 ?_
    exact kp_reti C hr hlk G h dX10_tellsActs_25 hF
def kf_X10_act  (a1 : Int) (a2 : Int) (a3 : Int) (σ_0 : kp_W) : kp_R :=
  kp_lt (kp_up σ_0 0 22 0) (fun σ_1 => kp_bd (kf_X10_isNoise a1 σ_1) (fun r_0 σ_2 => kp_eq r_0 0 (some (0, σ_2)) (kp_bd (kf_X10_in a2 0 2 σ_2) (fun r_1 σ_3 => kp_eq r_1 0 (some (0, σ_3)) (kp_ck (0 ≤ (250 + a1) ∧ (250 + a1) < 1066) (kp_lt (kp_up σ_3 0 23 (σ_3 1 (Int.toNat (250 + a1)))) (fun σ_4 => kp_lt (kp_up σ_4 0 24 a1) (fun σ_5 => kp_ck (0 ≤ (270 + a1) ∧ (270 + a1) < 1066) (kp_lt (kp_up σ_5 0 25 (σ_5 1 (Int.toNat (270 + a1)))) (fun σ_6 => kp_eq a2 0 (kp_bd (kf_X10_growsActs a3 σ_6) (fun r_4 σ_9 => some (r_4, σ_9))) (kp_eq a2 1 (kp_bd (kf_X10_strikesActs a3 σ_6) (fun r_3 σ_8 => some (r_3, σ_8))) (kp_bd (kf_X10_tellsActs a3 σ_6) (fun r_2 σ_7 => some (r_2, σ_7))))))))))))))
set_option maxRecDepth 100000 in
set_option maxHeartbeats 4000000 in
theorem kc_X10_act {l : Launch} {X : kp_X} {a1 : Int} {a2 : Int} {a3 : Int}  {σ_0 σ' : kp_W} {r : Int}   (hF : (kf_X10_act a1 a2 a3 σ_0) = some (r, σ')) : kp_Met l yX10_act cX10_act 4 (some .int) 7 X kp_lM 10 σ_0 [.ref (kp_ad X 0), kp_iv a1, kp_iv a2, kp_iv a3] (kp_Qi X kp_lM 10 σ' r) := by
  refine kp_body pnX10 (Nat.le_of_ble_eq_true rfl) ?_
  intro p e s m args below meth c ls C hr hlk G h hl
  unfold kf_X10_act at hF
  have hl : lv_has ls 4 [(0, .ref (kp_ad X 0)), (1, kp_iv a1), (2, kp_iv a2), (3, kp_iv a3)] := hl
  refine kp_aload_n C dX10_act_0 rfl (lv_at hl 0 rfl) ?_
  refine kp_iconst C dX10_act_1 ?_
  refine kp_puti C G h kp_lM0 rfl inWX10 tyX10 tyX10_ok nmX10 (j := 22) (by decide) q4_66 rfl rfl (by decide +kernel) dX10_act_2 hF (fun σ_1 H locs h hF => ?_)
  refine kp_aload_n C dX10_act_5 rfl (lv_at hl 0 rfl) ?_
  refine kp_iload_n C dX10_act_6 rfl (lv_at hl 1 rfl) ?_
  obtain ⟨r_0, σ_2, hc, hF⟩ := kp_bd_s hF
  refine kp_ci h (kp_rV (k := 0) (As := [kp_iv a1]) (rest := []) C G h (kc_X10_isNoise  hc) q4_239 q5_1 q0_3_15 q1_11 q5_2 ⟨rfl, hd_X10_isNoise⟩ (by decide) kp_lM0 rfl rfl hl.1 rfl (Nat.le_of_ble_eq_true rfl) dX10_act_7) (fun H locs h => ?_)
  refine kp_if_eq (tgt := 22) C dX10_act_10 (by decide) hF (fun hF => ?_) (fun hF => ?_)
  · refine kp_iconst C dX10_act_22 ?_
    exact kp_reti C hr hlk G h dX10_act_23 hF
  · refine kp_iload_n C dX10_act_13 rfl (lv_at hl 2 rfl) ?_
    refine kp_iconst C dX10_act_14 ?_
    refine kp_iconst C dX10_act_15 ?_
    obtain ⟨r_1, σ_3, hc, hF⟩ := kp_bd_s hF
    refine kp_ci h (kp_rS (As := [kp_iv a2, kp_iv 0, kp_iv 2]) (rest := []) C G h (kc_X10_in  hc) q4_128 q4_129 q1_11 q4_130 hd_X10_in (by decide) rfl hl.1 rfl (Nat.le_of_ble_eq_true rfl) dX10_act_16) (fun H locs h => ?_)
    refine kp_if_ne (tgt := 24) C dX10_act_19 (by decide) hF (fun hF => ?_) (fun hF => ?_)
    · refine kp_aload_n C dX10_act_24 rfl (lv_at hl 0 rfl) ?_
      refine kp_aload_n C dX10_act_25 rfl (lv_at hl 0 rfl) ?_
      refine kp_getr C G h kp_lM0 rfl inWX10 (j := 1) (by decide) q4_45 rfl dX10_act_26 ?_
      refine kp_sipush C dX10_act_29 rfl ?_
      refine kp_iload_n C dX10_act_32 rfl (lv_at hl 1 rfl) ?_
      refine kp_iadd C dX10_act_33 ?_
      refine kp_iald C G h (n := 1066) kp_lM1 (by decide) dX10_act_34 hF (fun hF => ?_)
      refine kp_puti C G h kp_lM0 rfl inWX10 tyX10 tyX10_ok nmX10 (j := 23) (by decide) q4_67 rfl rfl (by decide +kernel) dX10_act_35 hF (fun σ_4 H locs h hF => ?_)
      refine kp_aload_n C dX10_act_38 rfl (lv_at hl 0 rfl) ?_
      refine kp_iload_n C dX10_act_39 rfl (lv_at hl 1 rfl) ?_
      refine kp_puti C G h kp_lM0 rfl inWX10 tyX10 tyX10_ok nmX10 (j := 24) (by decide) q4_68 rfl rfl (by decide +kernel) dX10_act_40 hF (fun σ_5 H locs h hF => ?_)
      refine kp_aload_n C dX10_act_43 rfl (lv_at hl 0 rfl) ?_
      refine kp_aload_n C dX10_act_44 rfl (lv_at hl 0 rfl) ?_
      refine kp_getr C G h kp_lM0 rfl inWX10 (j := 1) (by decide) q4_45 rfl dX10_act_45 ?_
      refine kp_sipush C dX10_act_48 rfl ?_
      refine kp_iload_n C dX10_act_51 rfl (lv_at hl 1 rfl) ?_
      refine kp_iadd C dX10_act_52 ?_
      refine kp_iald C G h (n := 1066) kp_lM1 (by decide) dX10_act_53 hF (fun hF => ?_)
      refine kp_puti C G h kp_lM0 rfl inWX10 tyX10 tyX10_ok nmX10 (j := 25) (by decide) q4_69 rfl rfl (by decide +kernel) dX10_act_54 hF (fun σ_6 H locs h hF => ?_)
      refine kp_iload_n C dX10_act_57 rfl (lv_at hl 2 rfl) ?_
      refine kp_if_ne (tgt := 69) C dX10_act_58 (by decide) hF (fun hF => ?_) (fun hF => ?_)
      · refine kp_iload_n C dX10_act_69 rfl (lv_at hl 2 rfl) ?_
        refine kp_iconst C dX10_act_70 ?_
        refine kp_icmp_ne (tgt := 82) C dX10_act_71 (by decide) hF (fun hF => ?_) (fun hF => ?_)
        · refine kp_aload_n C dX10_act_82 rfl (lv_at hl 0 rfl) ?_
          refine kp_iload_n C dX10_act_83 rfl (lv_at hl 3 rfl) ?_
          obtain ⟨r_2, σ_7, hc, hF⟩ := kp_bd_s hF
          refine kp_ci h (kp_rV (k := 0) (As := [kp_iv a3]) (rest := []) C G h (kc_X10_tellsActs  hc) q5_188 q5_190 q0_5_8 q1_11 q5_191 ⟨rfl, hd_X10_tellsActs⟩ (by decide) kp_lM0 rfl rfl hl.1 rfl (Nat.le_of_ble_eq_true rfl) dX10_act_84) (fun H locs h => ?_)
          exact kp_reti C hr hlk G h dX10_act_87 hF
        · refine kp_aload_n C dX10_act_74 rfl (lv_at hl 0 rfl) ?_
          refine kp_iload_n C dX10_act_75 rfl (lv_at hl 3 rfl) ?_
          obtain ⟨r_3, σ_8, hc, hF⟩ := kp_bd_s hF
          refine kp_ci h (kp_rV (k := 0) (As := [kp_iv a3]) (rest := []) C G h (kc_X10_strikesActs  hc) q5_180 q5_182 q0_5_6 q1_11 q5_183 ⟨rfl, hd_X10_strikesActs⟩ (by decide) kp_lM0 rfl rfl hl.1 rfl (Nat.le_of_ble_eq_true rfl) dX10_act_76) (fun H locs h => ?_)
          refine kp_goto (tgt := 87) C dX10_act_79 (by decide) ?_
          exact kp_reti C hr hlk G h dX10_act_87 hF
      · refine kp_aload_n C dX10_act_61 rfl (lv_at hl 0 rfl) ?_
        refine kp_iload_n C dX10_act_62 rfl (lv_at hl 3 rfl) ?_
        obtain ⟨r_4, σ_9, hc, hF⟩ := kp_bd_s hF
        refine kp_ci h (kp_rV (k := 0) (As := [kp_iv a3]) (rest := []) C G h (kc_X10_growsActs  hc) q5_165 q5_167 q0_5_3 q1_11 q5_168 ⟨rfl, hd_X10_growsActs⟩ (by decide) kp_lM0 rfl rfl hl.1 rfl (Nat.le_of_ble_eq_true rfl) dX10_act_63) (fun H locs h => ?_)
        refine kp_goto (tgt := 87) C dX10_act_66 (by decide) ?_
        exact kp_reti C hr hlk G h dX10_act_87 hF
    · refine kp_iconst C dX10_act_22 ?_
      exact kp_reti C hr hlk G h dX10_act_23 hF
def kf_X10_trace  (a1 : Int) (σ_0 : kp_W) : kp_R :=
  kp_jn (fun (v_0 : Int) => kp_bd (kf_X10_in a1 0 (v_0 - 1) σ_0) (fun r_0 σ_1 => kp_eq r_0 0 (some ((-1), σ_1)) (kp_ck (0 ≤ a1 ∧ a1 < 20) (some ((σ_1 9 (Int.toNat a1)), σ_1))))) (fun j20 => kp_ls (σ_0 0 22) 20 (j20 (σ_0 0 22)) (j20 20))
set_option maxRecDepth 100000 in
set_option maxHeartbeats 4000000 in
theorem kc_X10_trace {l : Launch} {X : kp_X} {a1 : Int}  {σ_0 σ' : kp_W} {r : Int}   (hF : (kf_X10_trace a1 σ_0) = some (r, σ')) : kp_Met l yX10_trace cX10_trace 2 (some .int) 1 X kp_lM 10 σ_0 [.ref (kp_ad X 0), kp_iv a1] (kp_Qi X kp_lM 10 σ' r) := by
  refine kp_body pnX10 (Nat.le_of_ble_eq_true rfl) ?_
  intro p e s m args below meth c ls C hr hlk G h hl
  unfold kf_X10_trace at hF
  have hl : lv_has ls 2 [(0, .ref (kp_ad X 0)), (1, kp_iv a1)] := hl
  refine kp_iload_n C dX10_trace_0 rfl (lv_at hl 1 rfl) ?_
  refine kp_iconst C dX10_trace_1 ?_
  refine kp_aload_n C dX10_trace_2 rfl (lv_at hl 0 rfl) ?_
  refine kp_geti C G h kp_lM0 rfl inWX10 (j := 22) (by decide) q4_66 rfl dX10_trace_3 ?_
  refine kp_bipush C dX10_trace_6 rfl ?_
  obtain ⟨j20, ej20, hF⟩ := kp_jn_s hF
  have J20 : ∀ (v_0 : Int), ∀ (H : Heap) (locs : List Loc) (ls : Array Slot), kp_H X kp_lM 10 s σ_0 H locs → lv_has ls 2 [(0, .ref (kp_ad X 0)), (1, kp_iv a1)] → j20 v_0 = some (r, σ') → W p l e (kp_rm 1) s m args below meth c H locs 0 0 (MQ below (kp_Qi X kp_lM 10 σ' r) args s 0 0 (kp_A X 10)) (F0 m 20 ls [kp_iv v_0, kp_iv 0, kp_iv a1]) := by
    intro v_0 H locs ls h hl hF
    rw [ej20] at hF
    refine kp_iconst C dX10_trace_20 ?_
    refine kp_isub C dX10_trace_21 ?_
    obtain ⟨r_0, σ_1, hc, hF⟩ := kp_bd_s hF
    refine kp_ci h (kp_rS (As := [kp_iv a1, kp_iv 0, kp_iv (v_0 - 1)]) (rest := []) C G h (kc_X10_in  hc) q4_128 q4_129 q1_11 q4_130 hd_X10_in (by decide) rfl hl.1 rfl (Nat.le_of_ble_eq_true rfl) dX10_trace_22) (fun H locs h => ?_)
    refine kp_if_eq (tgt := 37) C dX10_trace_25 (by decide) hF (fun hF => ?_) (fun hF => ?_)
    · refine kp_iconst C dX10_trace_37 ?_
      exact kp_reti C hr hlk G h dX10_trace_38 hF
    · refine kp_aload_n C dX10_trace_28 rfl (lv_at hl 0 rfl) ?_
      refine kp_getr C G h kp_lM0 rfl inWX10 (j := 21) (by decide) q4_65 rfl dX10_trace_29 ?_
      refine kp_iload_n C dX10_trace_32 rfl (lv_at hl 1 rfl) ?_
      refine kp_iald C G h (n := 20) kp_lM9 (by decide) dX10_trace_33 hF (fun hF => ?_)
      refine kp_goto (tgt := 38) C dX10_trace_34 (by decide) ?_
      exact kp_reti C hr hlk G h dX10_trace_38 hF
  clear ej20
  refine kp_icmp_ge (tgt := 18) C dX10_trace_8 (by decide) hF (fun hF => ?_) (fun hF => ?_)
  · refine kp_bipush C dX10_trace_18 rfl ?_
    exact J20 _ _ _ _ h (lv_sub hl [0, 1] rfl) hF
  · refine kp_aload_n C dX10_trace_11 rfl (lv_at hl 0 rfl) ?_
    refine kp_geti C G h kp_lM0 rfl inWX10 (j := 22) (by decide) q4_66 rfl dX10_trace_12 ?_
    refine kp_goto (tgt := 20) C dX10_trace_15 (by decide) ?_
    exact J20 _ _ _ _ h (lv_sub hl [0, 1] rfl) hF
def kf_X10_as  (a1 : Int) (a2 : Int) (σ_0 : kp_W) : kp_R :=
  kp_bd (kf_X10_isNoise a1 σ_0) (fun r_0 σ_1 => kp_eq r_0 0 (some ((-1), σ_1)) (kp_bd (kf_X10_in a2 0 6 σ_1) (fun r_1 σ_2 => kp_eq r_1 0 (some ((-1), σ_2)) (kp_ck (0 ≤ (250 + a1) ∧ (250 + a1) < 1066) (kp_bd (kf_X10_isUnder (σ_2 1 (Int.toNat (250 + a1))) a2 σ_2) (fun r_2 σ_3 => kp_eq r_2 0 (some ((-6), σ_3)) (kp_ck (0 ≤ (270 + a1) ∧ (270 + a1) < 1066) (some ((σ_3 1 (Int.toNat (270 + a1))), σ_3)))))))))
set_option maxRecDepth 100000 in
set_option maxHeartbeats 4000000 in
theorem kc_X10_as {l : Launch} {X : kp_X} {a1 : Int} {a2 : Int}  {σ_0 σ' : kp_W} {r : Int}   (hF : (kf_X10_as a1 a2 σ_0) = some (r, σ')) : kp_Met l yX10_as cX10_as 3 (some .int) 2 X kp_lM 10 σ_0 [.ref (kp_ad X 0), kp_iv a1, kp_iv a2] (kp_Qi X kp_lM 10 σ' r) := by
  refine kp_body pnX10 (Nat.le_of_ble_eq_true rfl) ?_
  intro p e s m args below meth c ls C hr hlk G h hl
  unfold kf_X10_as at hF
  have hl : lv_has ls 3 [(0, .ref (kp_ad X 0)), (1, kp_iv a1), (2, kp_iv a2)] := hl
  refine kp_aload_n C dX10_as_0 rfl (lv_at hl 0 rfl) ?_
  refine kp_iload_n C dX10_as_1 rfl (lv_at hl 1 rfl) ?_
  obtain ⟨r_0, σ_1, hc, hF⟩ := kp_bd_s hF
  refine kp_ci h (kp_rV (k := 0) (As := [kp_iv a1]) (rest := []) C G h (kc_X10_isNoise  hc) q4_239 q5_1 q0_3_15 q1_11 q5_2 ⟨rfl, hd_X10_isNoise⟩ (by decide) kp_lM0 rfl rfl hl.1 rfl (Nat.le_of_ble_eq_true rfl) dX10_as_2) (fun H locs h => ?_)
  refine kp_if_eq (tgt := 18) C dX10_as_5 (by decide) hF (fun hF => ?_) (fun hF => ?_)
  · refine kp_iconst C dX10_as_18 ?_
    exact kp_reti C hr hlk G h dX10_as_19 hF
  · refine kp_iload_n C dX10_as_8 rfl (lv_at hl 2 rfl) ?_
    refine kp_iconst C dX10_as_9 ?_
    refine kp_bipush C dX10_as_10 rfl ?_
    obtain ⟨r_1, σ_2, hc, hF⟩ := kp_bd_s hF
    refine kp_ci h (kp_rS (As := [kp_iv a2, kp_iv 0, kp_iv 6]) (rest := []) C G h (kc_X10_in  hc) q4_128 q4_129 q1_11 q4_130 hd_X10_in (by decide) rfl hl.1 rfl (Nat.le_of_ble_eq_true rfl) dX10_as_12) (fun H locs h => ?_)
    refine kp_if_ne (tgt := 20) C dX10_as_15 (by decide) hF (fun hF => ?_) (fun hF => ?_)
    · refine kp_aload_n C dX10_as_20 rfl (lv_at hl 0 rfl) ?_
      refine kp_getr C G h kp_lM0 rfl inWX10 (j := 1) (by decide) q4_45 rfl dX10_as_21 ?_
      refine kp_sipush C dX10_as_24 rfl ?_
      refine kp_iload_n C dX10_as_27 rfl (lv_at hl 1 rfl) ?_
      refine kp_iadd C dX10_as_28 ?_
      refine kp_iald C G h (n := 1066) kp_lM1 (by decide) dX10_as_29 hF (fun hF => ?_)
      refine kp_iload_n C dX10_as_30 rfl (lv_at hl 2 rfl) ?_
      obtain ⟨r_2, σ_3, hc, hF⟩ := kp_bd_s hF
      refine kp_ci h (kp_rS (As := [kp_iv (σ_2 1 (Int.toNat (250 + a1))), kp_iv a2]) (rest := []) C G h (kc_X10_isUnder  hc) q5_169 q5_170 q1_11 q5_171 hd_X10_isUnder (by decide) rfl hl.1 rfl (Nat.le_of_ble_eq_true rfl) dX10_as_31) (fun H locs h => ?_)
      refine kp_if_eq (tgt := 50) C dX10_as_34 (by decide) hF (fun hF => ?_) (fun hF => ?_)
      · refine kp_bipush C dX10_as_50 rfl ?_
        exact kp_reti C hr hlk G h dX10_as_52 hF
      · refine kp_aload_n C dX10_as_37 rfl (lv_at hl 0 rfl) ?_
        refine kp_getr C G h kp_lM0 rfl inWX10 (j := 1) (by decide) q4_45 rfl dX10_as_38 ?_
        refine kp_sipush C dX10_as_41 rfl ?_
        refine kp_iload_n C dX10_as_44 rfl (lv_at hl 1 rfl) ?_
        refine kp_iadd C dX10_as_45 ?_
        refine kp_iald C G h (n := 1066) kp_lM1 (by decide) dX10_as_46 hF (fun hF => ?_)
        refine kp_goto (tgt := 52) C dX10_as_47 (by decide) ?_
        exact kp_reti C hr hlk G h dX10_as_52 hF
    · refine kp_iconst C dX10_as_18 ?_
      exact kp_reti C hr hlk G h dX10_as_19 hF
def kl_X10_image_2  : Nat → Int → kp_W → (kp_W → kp_R) → kp_R
  | 0, _, _, _ => none
  | n + 1, x1_1, σ_1, k => kp_ls x1_1 1066 (kp_ck (0 ≤ x1_1 ∧ x1_1 < 1066) (kp_ck (0 ≤ x1_1 ∧ x1_1 < 1066) (kp_lt (kp_up σ_1 2 (Int.toNat x1_1) (σ_1 1 (Int.toNat x1_1))) (fun σ_4 => kp_lt (x1_1 + 1) (fun x1_2 => kl_X10_image_2 n x1_2 σ_4 k))))) (k σ_1)
def kf_X10_image   (σ_0 : kp_W) : kp_R :=
  kp_lt (0 : Int) (fun x1_0 => kl_X10_image_2 kp_fu x1_0 σ_0 (fun (σ_2 : kp_W) => kp_lt (kp_up σ_2 0 3 1) (fun σ_3 => some ((σ_3 1 0), σ_3))))
set_option maxRecDepth 100000 in
set_option maxHeartbeats 4000000 in
theorem kc_X10_image {l : Launch} {X : kp_X}  {σ_0 σ' : kp_W} {r : Int}   (hF : (kf_X10_image σ_0) = some (r, σ')) : kp_Met l yX10_image cX10_image 2 (some .int) 0 X kp_lM 10 σ_0 [.ref (kp_ad X 0)] (kp_Qi X kp_lM 10 σ' r) := by
  refine kp_body pnX10 (Nat.le_of_ble_eq_true rfl) ?_
  intro p e s m args below meth c ls C hr hlk G h hl
  unfold kf_X10_image at hF
  have hl : lv_has ls 2 [(0, .ref (kp_ad X 0))] := hl
  refine kp_iconst C dX10_image_0 ?_
  refine kp_istore_n (lv' := fun x1_0 => [(1, kp_iv x1_0), (0, .ref (kp_ad X 0))]) C dX10_image_1 rfl hl (by decide) (fun _ => rfl) hF (fun x1_0 ls hl hF => ?_)
  have L2 : ∀ (n : Nat) (x1_1 : Int) (σ_1 : kp_W) (k : kp_W → kp_R) (H : Heap) (locs : List Loc) (ls : Array Slot), kp_H X kp_lM 10 s σ_1 H locs → lv_has ls 2 [(0, .ref (kp_ad X 0)), (1, kp_iv x1_1)] → (∀ (σ_2 : kp_W) (H : Heap) (locs : List Loc) (ls : Array Slot), kp_H X kp_lM 10 s σ_2 H locs → lv_has ls 2 [(0, .ref (kp_ad X 0))] → k σ_2 = some (r, σ') → W p l e (kp_rm 0) s m args below meth c H locs 0 0 (MQ below (kp_Qi X kp_lM 10 σ' r) args s 0 0 (kp_A X 10)) (F0 m 27 ls [])) → kl_X10_image_2 n x1_1 σ_1 k = some (r, σ') → W p l e (kp_rm 0) s m args below meth c H locs 0 0 (MQ below (kp_Qi X kp_lM 10 σ' r) args s 0 0 (kp_A X 10)) (F0 m 2 ls []) := by
    intro n
    induction n with
    | zero =>
      intro x1_1 σ_1 k H locs ls h hl K hF
      rw [kl_X10_image_2] at hF
      cases hF
    | succ n ih =>
      intro x1_1 σ_1 k H locs ls h hl K hF
      rw [kl_X10_image_2] at hF
      refine kp_iload_n C dX10_image_2 rfl (lv_at hl 1 rfl) ?_
      refine kp_sipush C dX10_image_3 rfl ?_
      refine kp_icmp_ge (tgt := 27) C dX10_image_6 (by decide) hF (fun hF => ?_) (fun hF => ?_)
      · exact K _ _ _ _ h (lv_sub hl [0] rfl) hF
      · refine kp_aload_n C dX10_image_9 rfl (lv_at hl 0 rfl) ?_
        refine kp_getr C G h kp_lM0 rfl inWX10 (j := 2) (by decide) q4_46 rfl dX10_image_10 ?_
        refine kp_iload_n C dX10_image_13 rfl (lv_at hl 1 rfl) ?_
        refine kp_aload_n C dX10_image_14 rfl (lv_at hl 0 rfl) ?_
        refine kp_getr C G h kp_lM0 rfl inWX10 (j := 1) (by decide) q4_45 rfl dX10_image_15 ?_
        refine kp_iload_n C dX10_image_18 rfl (lv_at hl 1 rfl) ?_
        refine kp_iald C G h (n := 1066) kp_lM1 (by decide) dX10_image_19 hF (fun hF => ?_)
        refine kp_iast C G h (n := 1066) kp_lM2 (by decide) dX10_image_20 hF (fun σ_4 H locs h hF => ?_)
        refine kp_iinc (k := 1) (lv' := fun x1_2 => [(1, kp_iv x1_2), (0, .ref (kp_ad X 0))]) C dX10_image_21 hl rfl (by decide) (fun _ => rfl) hF (fun x1_2 ls hl hF => ?_)
        refine kp_goto (tgt := 2) C dX10_image_24 (by decide) ?_
        exact ih _ _ k _ _ _ h (lv_sub hl [1, 0] rfl) K hF
  refine L2 kp_fu _ _ _ _ _ _ h (lv_sub hl [1, 0] rfl) (fun σ_2 H locs ls h hl hF => ?_) hF
  clear L2
  refine kp_aload_n C dX10_image_27 rfl (lv_at hl 0 rfl) ?_
  refine kp_iconst C dX10_image_28 ?_
  have hF := kp_ck_i (c := (1 : Int) = 0 ∨ (1 : Int) = 1) (by decide) hF
  refine kp_putz C G h kp_lM0 rfl inWX10 tyX10 tyX10_ok nmX10 (j := 3) (by decide) q4_47 rfl rfl (by decide +kernel) dX10_image_29 hF (fun σ_3 H locs h hF => ?_)
  refine kp_aload_n C dX10_image_32 rfl (lv_at hl 0 rfl) ?_
  refine kp_getr C G h kp_lM0 rfl inWX10 (j := 1) (by decide) q4_45 rfl dX10_image_33 ?_
  refine kp_iconst C dX10_image_36 ?_
  refine kp_iald0 C G h (i := 0) (n := 1066) kp_lM1 (by decide) (by decide) dX10_image_37 ?_
  exact kp_reti C hr hlk G h dX10_image_38 hF
def kl_X10_undo_12  : Nat → Int → kp_W → (kp_W → kp_R) → kp_R
  | 0, _, _, _ => none
  | n + 1, x1_1, σ_1, k => kp_ls x1_1 1066 (kp_ck (0 ≤ x1_1 ∧ x1_1 < 1066) (kp_ck (0 ≤ x1_1 ∧ x1_1 < 1066) (kp_lt (kp_up σ_1 1 (Int.toNat x1_1) (σ_1 2 (Int.toNat x1_1))) (fun σ_3 => kp_lt (x1_1 + 1) (fun x1_2 => kl_X10_undo_12 n x1_2 σ_3 k))))) (k σ_1)
def kf_X10_undo   (σ_0 : kp_W) : kp_R :=
  kp_eq (σ_0 0 3) 0 (some ((-3), σ_0)) (kp_lt (0 : Int) (fun x1_0 => kl_X10_undo_12 kp_fu x1_0 σ_0 (fun (σ_2 : kp_W) => some ((σ_2 1 0), σ_2))))
set_option maxRecDepth 100000 in
set_option maxHeartbeats 4000000 in
theorem kc_X10_undo {l : Launch} {X : kp_X}  {σ_0 σ' : kp_W} {r : Int}   (hF : (kf_X10_undo σ_0) = some (r, σ')) : kp_Met l yX10_undo cX10_undo 2 (some .int) 0 X kp_lM 10 σ_0 [.ref (kp_ad X 0)] (kp_Qi X kp_lM 10 σ' r) := by
  refine kp_body pnX10 (Nat.le_of_ble_eq_true rfl) ?_
  intro p e s m args below meth c ls C hr hlk G h hl
  unfold kf_X10_undo at hF
  have hl : lv_has ls 2 [(0, .ref (kp_ad X 0))] := hl
  refine kp_aload_n C dX10_undo_0 rfl (lv_at hl 0 rfl) ?_
  refine kp_geti C G h kp_lM0 rfl inWX10 (j := 3) (by decide) q4_47 rfl dX10_undo_1 ?_
  refine kp_if_ne (tgt := 10) C dX10_undo_4 (by decide) hF (fun hF => ?_) (fun hF => ?_)
  · refine kp_iconst C dX10_undo_10 ?_
    refine kp_istore_n (lv' := fun x1_0 => [(1, kp_iv x1_0), (0, .ref (kp_ad X 0))]) C dX10_undo_11 rfl hl (by decide) (fun _ => rfl) hF (fun x1_0 ls hl hF => ?_)
    have L12 : ∀ (n : Nat) (x1_1 : Int) (σ_1 : kp_W) (k : kp_W → kp_R) (H : Heap) (locs : List Loc) (ls : Array Slot), kp_H X kp_lM 10 s σ_1 H locs → lv_has ls 2 [(0, .ref (kp_ad X 0)), (1, kp_iv x1_1)] → (∀ (σ_2 : kp_W) (H : Heap) (locs : List Loc) (ls : Array Slot), kp_H X kp_lM 10 s σ_2 H locs → lv_has ls 2 [(0, .ref (kp_ad X 0))] → k σ_2 = some (r, σ') → W p l e (kp_rm 0) s m args below meth c H locs 0 0 (MQ below (kp_Qi X kp_lM 10 σ' r) args s 0 0 (kp_A X 10)) (F0 m 37 ls [])) → kl_X10_undo_12 n x1_1 σ_1 k = some (r, σ') → W p l e (kp_rm 0) s m args below meth c H locs 0 0 (MQ below (kp_Qi X kp_lM 10 σ' r) args s 0 0 (kp_A X 10)) (F0 m 12 ls []) := by
      intro n
      induction n with
      | zero =>
        intro x1_1 σ_1 k H locs ls h hl K hF
        rw [kl_X10_undo_12] at hF
        cases hF
      | succ n ih =>
        intro x1_1 σ_1 k H locs ls h hl K hF
        rw [kl_X10_undo_12] at hF
        refine kp_iload_n C dX10_undo_12 rfl (lv_at hl 1 rfl) ?_
        refine kp_sipush C dX10_undo_13 rfl ?_
        refine kp_icmp_ge (tgt := 37) C dX10_undo_16 (by decide) hF (fun hF => ?_) (fun hF => ?_)
        · exact K _ _ _ _ h (lv_sub hl [0] rfl) hF
        · refine kp_aload_n C dX10_undo_19 rfl (lv_at hl 0 rfl) ?_
          refine kp_getr C G h kp_lM0 rfl inWX10 (j := 1) (by decide) q4_45 rfl dX10_undo_20 ?_
          refine kp_iload_n C dX10_undo_23 rfl (lv_at hl 1 rfl) ?_
          refine kp_aload_n C dX10_undo_24 rfl (lv_at hl 0 rfl) ?_
          refine kp_getr C G h kp_lM0 rfl inWX10 (j := 2) (by decide) q4_46 rfl dX10_undo_25 ?_
          refine kp_iload_n C dX10_undo_28 rfl (lv_at hl 1 rfl) ?_
          refine kp_iald C G h (n := 1066) kp_lM2 (by decide) dX10_undo_29 hF (fun hF => ?_)
          refine kp_iast C G h (n := 1066) kp_lM1 (by decide) dX10_undo_30 hF (fun σ_3 H locs h hF => ?_)
          refine kp_iinc (k := 1) (lv' := fun x1_2 => [(1, kp_iv x1_2), (0, .ref (kp_ad X 0))]) C dX10_undo_31 hl rfl (by decide) (fun _ => rfl) hF (fun x1_2 ls hl hF => ?_)
          refine kp_goto (tgt := 12) C dX10_undo_34 (by decide) ?_
          exact ih _ _ k _ _ _ h (lv_sub hl [1, 0] rfl) K hF
    refine L12 kp_fu _ _ _ _ _ _ h (lv_sub hl [1, 0] rfl) (fun σ_2 H locs ls h hl hF => ?_) hF
    clear L12
    refine kp_aload_n C dX10_undo_37 rfl (lv_at hl 0 rfl) ?_
    refine kp_getr C G h kp_lM0 rfl inWX10 (j := 1) (by decide) q4_45 rfl dX10_undo_38 ?_
    refine kp_iconst C dX10_undo_41 ?_
    refine kp_iald0 C G h (i := 0) (n := 1066) kp_lM1 (by decide) (by decide) dX10_undo_42 ?_
    exact kp_reti C hr hlk G h dX10_undo_43 hF
  · refine kp_bipush C dX10_undo_7 rfl ?_
    exact kp_reti C hr hlk G h dX10_undo_9 hF
def kf_X10_count  (a1 : Int) (σ_0 : kp_W) : kp_R :=
  kp_eq a1 0 (some ((σ_0 1 0), σ_0)) (kp_eq a1 1 (some ((σ_0 1 1), σ_0)) (kp_eq a1 2 (some ((σ_0 1 2), σ_0)) (kp_eq a1 3 (some ((σ_0 1 3), σ_0)) (kp_eq a1 4 (some ((σ_0 0 22), σ_0)) (some ((-1), σ_0))))))
set_option maxRecDepth 100000 in
set_option maxHeartbeats 4000000 in
theorem kc_X10_count {l : Launch} {X : kp_X} {a1 : Int}  {σ_0 σ' : kp_W} {r : Int}   (hF : (kf_X10_count a1 σ_0) = some (r, σ')) : kp_Met l yX10_count cX10_count 2 (some .int) 0 X kp_lM 10 σ_0 [.ref (kp_ad X 0), kp_iv a1] (kp_Qi X kp_lM 10 σ' r) := by
  refine kp_body pnX10 (Nat.le_of_ble_eq_true rfl) ?_
  intro p e s m args below meth c ls C hr hlk G h hl
  unfold kf_X10_count at hF
  have hl : lv_has ls 2 [(0, .ref (kp_ad X 0)), (1, kp_iv a1)] := hl
  refine kp_iload_n C dX10_count_0 rfl (lv_at hl 1 rfl) ?_
  obtain ⟨hx, -, ha, hb⟩ := kp_eq_s hF
  by_cases q0 : a1 = 0
  · have hF := ha q0
    clear ha hb
    refine kp_tabIn (v := 0) (tgt := 36) C dX10_count_1 q0 (by decide) rfl (by decide) ?_
    refine kp_aload_n C dX10_count_36 rfl (lv_at hl 0 rfl) ?_
    refine kp_getr C G h kp_lM0 rfl inWX10 (j := 1) (by decide) q4_45 rfl dX10_count_37 ?_
    refine kp_iconst C dX10_count_40 ?_
    refine kp_iald0 C G h (i := 0) (n := 1066) kp_lM1 (by decide) (by decide) dX10_count_41 ?_
    exact kp_reti C hr hlk G h dX10_count_42 hF
  · have hF := hb q0
    clear ha hb
    obtain ⟨hx, -, ha, hb⟩ := kp_eq_s hF
    by_cases q1 : a1 = 1
    · have hF := ha q1
      clear ha hb
      refine kp_tabIn (v := 1) (tgt := 43) C dX10_count_1 q1 (by decide) rfl (by decide) ?_
      refine kp_aload_n C dX10_count_43 rfl (lv_at hl 0 rfl) ?_
      refine kp_getr C G h kp_lM0 rfl inWX10 (j := 1) (by decide) q4_45 rfl dX10_count_44 ?_
      refine kp_iconst C dX10_count_47 ?_
      refine kp_iald0 C G h (i := 1) (n := 1066) kp_lM1 (by decide) (by decide) dX10_count_48 ?_
      exact kp_reti C hr hlk G h dX10_count_49 hF
    · have hF := hb q1
      clear ha hb
      obtain ⟨hx, -, ha, hb⟩ := kp_eq_s hF
      by_cases q2 : a1 = 2
      · have hF := ha q2
        clear ha hb
        refine kp_tabIn (v := 2) (tgt := 50) C dX10_count_1 q2 (by decide) rfl (by decide) ?_
        refine kp_aload_n C dX10_count_50 rfl (lv_at hl 0 rfl) ?_
        refine kp_getr C G h kp_lM0 rfl inWX10 (j := 1) (by decide) q4_45 rfl dX10_count_51 ?_
        refine kp_iconst C dX10_count_54 ?_
        refine kp_iald0 C G h (i := 2) (n := 1066) kp_lM1 (by decide) (by decide) dX10_count_55 ?_
        exact kp_reti C hr hlk G h dX10_count_56 hF
      · have hF := hb q2
        clear ha hb
        obtain ⟨hx, -, ha, hb⟩ := kp_eq_s hF
        by_cases q3 : a1 = 3
        · have hF := ha q3
          clear ha hb
          refine kp_tabIn (v := 3) (tgt := 57) C dX10_count_1 q3 (by decide) rfl (by decide) ?_
          refine kp_aload_n C dX10_count_57 rfl (lv_at hl 0 rfl) ?_
          refine kp_getr C G h kp_lM0 rfl inWX10 (j := 1) (by decide) q4_45 rfl dX10_count_58 ?_
          refine kp_iconst C dX10_count_61 ?_
          refine kp_iald0 C G h (i := 3) (n := 1066) kp_lM1 (by decide) (by decide) dX10_count_62 ?_
          exact kp_reti C hr hlk G h dX10_count_63 hF
        · have hF := hb q3
          clear ha hb
          obtain ⟨hx, -, ha, hb⟩ := kp_eq_s hF
          by_cases q4 : a1 = 4
          · have hF := ha q4
            clear ha hb
            refine kp_tabIn (v := 4) (tgt := 64) C dX10_count_1 q4 (by decide) rfl (by decide) ?_
            refine kp_aload_n C dX10_count_64 rfl (lv_at hl 0 rfl) ?_
            refine kp_geti C G h kp_lM0 rfl inWX10 (j := 22) (by decide) q4_66 rfl dX10_count_65 ?_
            exact kp_reti C hr hlk G h dX10_count_68 hF
          · have hF := hb q4
            clear ha hb
            refine kp_tabOut (tgt := 69) C dX10_count_1 hx (by omega) (by decide) ?_
            refine kp_iconst C dX10_count_69 ?_
            exact kp_reti C hr hlk G h dX10_count_70 hF
