-- by program (wip/whole/gen/drive.py)
def kf_X10_isOn  (a1 : Int) (a2 : Int) (σ_0 : kp_W) : kp_R :=
  kp_jn (fun (v_0 : Int) => kp_lt (v_0 : Int) (fun x3_0 => kp_eq (σ_0 0 16) 0 (kp_ls x3_0 0 (some (0, σ_0)) (kp_ck (0 ≤ ((130 + (40 * a1)) + x3_0) ∧ ((130 + (40 * a1)) + x3_0) < 1066) (kp_eq (σ_0 1 (Int.toNat ((130 + (40 * a1)) + x3_0))) 1 (some (1, σ_0)) (some (0, σ_0))))) (some (0, σ_0)))) (fun j14 => kp_eq a1 0 (j14 (a2 - (σ_0 0 17))) (j14 a2))
set_option maxRecDepth 100000 in
set_option maxHeartbeats 4000000 in
theorem kc_X10_isOn {l : Launch} {X : kp_X} {a1 : Int} {a2 : Int}  {σ_0 σ' : kp_W} {r : Int}   (hF : (kf_X10_isOn a1 a2 σ_0) = some (r, σ')) : kp_Met l yX10_isOn cX10_isOn 4 (some .boolean) 0 X kp_lM 10 σ_0 [.ref (kp_ad X 0), kp_iv a1, kp_iv a2] (kp_Qi X kp_lM 10 σ' r) := by
  refine kp_body pnX10 (Nat.le_of_ble_eq_true rfl) ?_
  intro p e s m args below meth c ls C hr hlk G h hl
  unfold kf_X10_isOn at hF
  have hl : lv_has ls 4 [(0, .ref (kp_ad X 0)), (1, kp_iv a1), (2, kp_iv a2)] := hl
  refine kp_iload_n C dX10_isOn_0 rfl (lv_at hl 1 rfl) ?_
  obtain ⟨j14, ej14, hF⟩ := kp_jn_s hF
  have J14 : ∀ (v_0 : Int), ∀ (H : Heap) (locs : List Loc) (ls : Array Slot), kp_H X kp_lM 10 s σ_0 H locs → lv_has ls 4 [(0, .ref (kp_ad X 0)), (1, kp_iv a1)] → j14 v_0 = some (r, σ') → W p l e (kp_rm 0) s m args below meth c H locs 0 0 (MQ below (kp_Qi X kp_lM 10 σ' r) args s 0 0 (kp_A X 10)) (F0 m 14 ls [kp_iv v_0]) := by
    intro v_0 H locs ls h hl hF
    rw [ej14] at hF
    refine kp_istore_n (lv' := fun x3_0 => [(3, kp_iv x3_0), (0, .ref (kp_ad X 0)), (1, kp_iv a1)]) C dX10_isOn_14 rfl hl (by decide) (fun _ => rfl) hF (fun x3_0 ls hl hF => ?_)
    refine kp_aload_n C dX10_isOn_15 rfl (lv_at hl 1 rfl) ?_
    refine kp_geti C G h kp_lM0 rfl inWX10 (j := 16) (by decide) q4_60 rfl dX10_isOn_16 ?_
    refine kp_if_ne (tgt := 49) C dX10_isOn_19 (by decide) hF (fun hF => ?_) (fun hF => ?_)
    · refine kp_iconst C dX10_isOn_49 ?_
      exact kp_retz C hr hlk G h dX10_isOn_50 (kp_ck_i (by decide) hF)
    · refine kp_iload_n C dX10_isOn_22 rfl (lv_at hl 0 rfl) ?_
      refine kp_if_lt (tgt := 49) C dX10_isOn_23 (by decide) hF (fun hF => ?_) (fun hF => ?_)
      · refine kp_iconst C dX10_isOn_49 ?_
        exact kp_retz C hr hlk G h dX10_isOn_50 (kp_ck_i (by decide) hF)
      · refine kp_aload_n C dX10_isOn_26 rfl (lv_at hl 1 rfl) ?_
        refine kp_getr C G h kp_lM0 rfl inWX10 (j := 1) (by decide) q4_45 rfl dX10_isOn_27 ?_
        refine kp_sipush C dX10_isOn_30 rfl ?_
        refine kp_bipush C dX10_isOn_33 rfl ?_
        refine kp_iload_n C dX10_isOn_35 rfl (lv_at hl 2 rfl) ?_
        refine kp_imul C dX10_isOn_36 ?_
        refine kp_iadd C dX10_isOn_37 ?_
        refine kp_iload_n C dX10_isOn_38 rfl (lv_at hl 0 rfl) ?_
        refine kp_iadd C dX10_isOn_39 ?_
        refine kp_iald C G h (n := 1066) kp_lM1 (by decide) dX10_isOn_40 hF (fun hF => ?_)
        refine kp_iconst C dX10_isOn_41 ?_
        refine kp_icmp_ne (tgt := 49) C dX10_isOn_42 (by decide) hF (fun hF => ?_) (fun hF => ?_)
        · refine kp_iconst C dX10_isOn_49 ?_
          exact kp_retz C hr hlk G h dX10_isOn_50 (kp_ck_i (by decide) hF)
        · refine kp_iconst C dX10_isOn_45 ?_
          refine kp_goto (tgt := 50) C dX10_isOn_46 (by decide) ?_
          exact kp_retz C hr hlk G h dX10_isOn_50 (kp_ck_i (by decide) hF)
  clear ej14
  refine kp_if_ne (tgt := 13) C dX10_isOn_1 (by decide) hF (fun hF => ?_) (fun hF => ?_)
  · refine kp_iload_n C dX10_isOn_13 rfl (lv_at hl 2 rfl) ?_
    exact J14 _ _ _ _ h (lv_sub hl [0, 1] rfl) hF
  · refine kp_iload_n C dX10_isOn_4 rfl (lv_at hl 2 rfl) ?_
    refine kp_aload_n C dX10_isOn_5 rfl (lv_at hl 0 rfl) ?_
    refine kp_geti C G h kp_lM0 rfl inWX10 (j := 17) (by decide) q4_61 rfl dX10_isOn_6 ?_
    refine kp_isub C dX10_isOn_9 ?_
    refine kp_goto (tgt := 14) C dX10_isOn_10 (by decide) ?_
    exact J14 _ _ _ _ h (lv_sub hl [0, 1] rfl) hF
def kl_X10_warms_4  : Nat → Int → Int → kp_W → (kp_W → kp_R) → kp_R
  | 0, _, _, _, _ => none
  | n + 1, x1_1, x2_1, σ_1, k => kp_ls x2_1 40 (kp_bd (kf_X10_isOn 0 x2_1 σ_1) (fun r_0 σ_3 => kp_jn (fun (v_0 : Int) (σ_4 : kp_W) => kp_lt ((x1_1 + v_0) : Int) (fun x1_2 => kp_jn (fun (v_1 : Int) => kp_lt (v_1 : Int) (fun x1_3 => kp_ck (0 ≤ x2_1 ∧ x2_1 < 40) (kp_lt (kp_up σ_4 5 (Int.toNat x2_1) x1_3) (fun σ_5 => kp_lt (x2_1 + 1) (fun x2_2 => kl_X10_warms_4 n x1_3 x2_2 σ_5 k))))) (fun j56 => kp_ls x1_2 0 (j56 0) (kp_ls 99 x1_2 (j56 99) (j56 x1_2))))) (fun j34 => kp_eq r_0 0 (kp_bd (kf_X10_told 1 σ_3) (fun r_1 σ_6 => j34 (-r_1) σ_6)) (kp_bd (kf_X10_told 0 σ_3) (fun r_2 σ_7 => j34 r_2 σ_7))))) (k σ_1)
def kf_X10_warms   (σ_0 : kp_W) : kp_R :=
  kp_lt (0 : Int) (fun x1_0 => kp_lt (0 : Int) (fun x2_0 => kl_X10_warms_4 kp_fu x1_0 x2_0 σ_0 (fun (σ_2 : kp_W) => some (0, σ_2))))
set_option maxRecDepth 100000 in
set_option maxHeartbeats 4000000 in
theorem kc_X10_warms {l : Launch} {X : kp_X}  {σ_0 σ' : kp_W} {r : Int}   (hF : (kf_X10_warms σ_0) = some (r, σ')) : kp_Met l yX10_warms cX10_warms 3 none 2 X kp_lM 10 σ_0 [.ref (kp_ad X 0)] (kp_Qv X kp_lM 10 σ') := by
  refine kp_body pnX10 (Nat.le_of_ble_eq_true rfl) ?_
  intro p e s m args below meth c ls C hr hlk G h hl
  unfold kf_X10_warms at hF
  have hl : lv_has ls 3 [(0, .ref (kp_ad X 0))] := hl
  refine kp_iconst C dX10_warms_0 ?_
  refine kp_istore_n (lv' := fun x1_0 => [(1, kp_iv x1_0), (0, .ref (kp_ad X 0))]) C dX10_warms_1 rfl hl (by decide) (fun _ => rfl) hF (fun x1_0 ls hl hF => ?_)
  refine kp_iconst C dX10_warms_2 ?_
  refine kp_istore_n (lv' := fun x2_0 => [(2, kp_iv x2_0), (1, kp_iv x1_0), (0, .ref (kp_ad X 0))]) C dX10_warms_3 rfl hl (by decide) (fun _ => rfl) hF (fun x2_0 ls hl hF => ?_)
  have L4 : ∀ (n : Nat) (x1_1 : Int) (x2_1 : Int) (σ_1 : kp_W) (k : kp_W → kp_R) (H : Heap) (locs : List Loc) (ls : Array Slot), kp_H X kp_lM 10 s σ_1 H locs → lv_has ls 3 [(0, .ref (kp_ad X 0)), (1, kp_iv x1_1), (2, kp_iv x2_1)] → (∀ (σ_2 : kp_W) (H : Heap) (locs : List Loc) (ls : Array Slot), kp_H X kp_lM 10 s σ_2 H locs → lv_has ls 3 [] → k σ_2 = some (r, σ') → W p l e (kp_rm 2) s m args below meth c H locs 0 0 (MQ below (kp_Qv X kp_lM 10 σ') args s 0 0 (kp_A X 10)) (F0 m 70 ls [])) → kl_X10_warms_4 n x1_1 x2_1 σ_1 k = some (r, σ') → W p l e (kp_rm 2) s m args below meth c H locs 0 0 (MQ below (kp_Qv X kp_lM 10 σ') args s 0 0 (kp_A X 10)) (F0 m 4 ls []) := by
    intro n
    induction n with
    | zero =>
      intro x1_1 x2_1 σ_1 k H locs ls h hl K hF
      rw [kl_X10_warms_4] at hF
      cases hF
    | succ n ih =>
      intro x1_1 x2_1 σ_1 k H locs ls h hl K hF
      rw [kl_X10_warms_4] at hF
      refine kp_iload_n C dX10_warms_4 rfl (lv_at hl 2 rfl) ?_
      refine kp_bipush C dX10_warms_5 rfl ?_
      refine kp_icmp_ge (tgt := 70) C dX10_warms_7 (by decide) hF (fun hF => ?_) (fun hF => ?_)
      · exact K _ _ _ _ h (lv_sub hl [] rfl) hF
      · refine kp_iload_n C dX10_warms_10 rfl (lv_at hl 1 rfl) ?_
        refine kp_aload_n C dX10_warms_11 rfl (lv_at hl 0 rfl) ?_
        refine kp_iconst C dX10_warms_12 ?_
        refine kp_iload_n C dX10_warms_13 rfl (lv_at hl 2 rfl) ?_
        obtain ⟨r_0, σ_3, hc, hF⟩ := kp_bd_s hF
        refine kp_ci h (kp_rV (k := 0) (As := [kp_iv 0, kp_iv x2_1]) (rest := [kp_iv x1_1]) C G h (kc_X10_isOn  hc) q4_223 q4_225 q0_3_14 q1_11 q4_226 ⟨rfl, hd_X10_isOn⟩ (by decide) kp_lM0 rfl rfl hl.1 rfl (Nat.le_of_ble_eq_true rfl) dX10_warms_14) (fun H locs h => ?_)
        obtain ⟨j34, ej34, hF⟩ := kp_jn_s hF
        have J34 : ∀ (v_0 : Int), ∀ (σ_4 : kp_W), ∀ (H : Heap) (locs : List Loc) (ls : Array Slot), kp_H X kp_lM 10 s σ_4 H locs → lv_has ls 3 [(0, .ref (kp_ad X 0)), (2, kp_iv x2_1)] → j34 v_0 σ_4 = some (r, σ') → W p l e (kp_rm 2) s m args below meth c H locs 0 0 (MQ below (kp_Qv X kp_lM 10 σ') args s 0 0 (kp_A X 10)) (F0 m 34 ls [kp_iv v_0, kp_iv x1_1]) := by
          intro v_0 σ_4 H locs ls h hl hF
          rw [ej34] at hF
          refine kp_iadd C dX10_warms_34 ?_
          refine kp_istore_n (lv' := fun x1_2 => [(1, kp_iv x1_2), (0, .ref (kp_ad X 0)), (2, kp_iv x2_1)]) C dX10_warms_35 rfl hl (by decide) (fun _ => rfl) hF (fun x1_2 ls hl hF => ?_)
          refine kp_iload_n C dX10_warms_36 rfl (lv_at hl 0 rfl) ?_
          obtain ⟨j56, ej56, hF⟩ := kp_jn_s hF
          have J56 : ∀ (v_1 : Int), ∀ (H : Heap) (locs : List Loc) (ls : Array Slot), kp_H X kp_lM 10 s σ_4 H locs → lv_has ls 3 [(0, .ref (kp_ad X 0)), (2, kp_iv x2_1)] → j56 v_1 = some (r, σ') → W p l e (kp_rm 2) s m args below meth c H locs 0 0 (MQ below (kp_Qv X kp_lM 10 σ') args s 0 0 (kp_A X 10)) (F0 m 56 ls [kp_iv v_1]) := by
            intro v_1 H locs ls h hl hF
            rw [ej56] at hF
            refine kp_istore_n (lv' := fun x1_3 => [(1, kp_iv x1_3), (0, .ref (kp_ad X 0)), (2, kp_iv x2_1)]) C dX10_warms_56 rfl hl (by decide) (fun _ => rfl) hF (fun x1_3 ls hl hF => ?_)
            refine kp_aload_n C dX10_warms_57 rfl (lv_at hl 1 rfl) ?_
            refine kp_getr C G h kp_lM0 rfl inWX10 (j := 14) (by decide) q4_58 rfl dX10_warms_58 ?_
            refine kp_iload_n C dX10_warms_61 rfl (lv_at hl 2 rfl) ?_
            refine kp_iload_n C dX10_warms_62 rfl (lv_at hl 0 rfl) ?_
            refine kp_iast C G h (n := 40) kp_lM5 (by decide) dX10_warms_63 hF (fun σ_5 H locs h hF => ?_)
            refine kp_iinc (k := 2) (lv' := fun x2_2 => [(2, kp_iv x2_2), (1, kp_iv x1_3), (0, .ref (kp_ad X 0))]) C dX10_warms_64 hl rfl (by decide) (fun _ => rfl) hF (fun x2_2 ls hl hF => ?_)
            refine kp_goto (tgt := 4) C dX10_warms_67 (by decide) ?_
            exact ih _ _ _ k _ _ _ h (lv_sub hl [2, 1, 0] rfl) K hF
          clear ej56
          refine kp_if_ge (tgt := 44) C dX10_warms_37 (by decide) hF (fun hF => ?_) (fun hF => ?_)
          · refine kp_iload_n C dX10_warms_44 rfl (lv_at hl 0 rfl) ?_
            refine kp_bipush C dX10_warms_45 rfl ?_
            refine kp_icmp_le (tgt := 55) C dX10_warms_47 (by decide) hF (fun hF => ?_) (fun hF => ?_)
            · refine kp_iload_n C dX10_warms_55 rfl (lv_at hl 0 rfl) ?_
              exact J56 _ _ _ _ h (lv_sub hl [1, 2] rfl) hF
            · refine kp_bipush C dX10_warms_50 rfl ?_
              refine kp_goto (tgt := 56) C dX10_warms_52 (by decide) ?_
              exact J56 _ _ _ _ h (lv_sub hl [1, 2] rfl) hF
          · refine kp_iconst C dX10_warms_40 ?_
            refine kp_goto (tgt := 56) C dX10_warms_41 (by decide) ?_
            exact J56 _ _ _ _ h (lv_sub hl [1, 2] rfl) hF
        clear ej34
        refine kp_if_eq (tgt := 28) C dX10_warms_17 (by decide) hF (fun hF => ?_) (fun hF => ?_)
        · refine kp_aload_n C dX10_warms_28 rfl (lv_at hl 0 rfl) ?_
          refine kp_iconst C dX10_warms_29 ?_
          obtain ⟨r_1, σ_6, hc, hF⟩ := kp_bd_s hF
          refine kp_ci h (kp_rV (k := 0) (As := [kp_iv 1]) (rest := [kp_iv x1_1]) C G h (kc_X10_told  hc) q4_227 q4_205 q4_206 q1_11 q4_207 ⟨rfl, hd_X10_told⟩ (by decide) kp_lM0 rfl rfl hl.1 rfl (Nat.le_of_ble_eq_true rfl) dX10_warms_30) (fun H locs h => ?_)
          refine kp_ineg C dX10_warms_33 ?_
          exact J34 _ _ _ _ _ h (lv_sub hl [0, 2] rfl) hF
        · refine kp_aload_n C dX10_warms_20 rfl (lv_at hl 0 rfl) ?_
          refine kp_iconst C dX10_warms_21 ?_
          obtain ⟨r_2, σ_7, hc, hF⟩ := kp_bd_s hF
          refine kp_ci h (kp_rV (k := 0) (As := [kp_iv 0]) (rest := [kp_iv x1_1]) C G h (kc_X10_told  hc) q4_227 q4_205 q4_206 q1_11 q4_207 ⟨rfl, hd_X10_told⟩ (by decide) kp_lM0 rfl rfl hl.1 rfl (Nat.le_of_ble_eq_true rfl) dX10_warms_22) (fun H locs h => ?_)
          refine kp_goto (tgt := 34) C dX10_warms_25 (by decide) ?_
          exact J34 _ _ _ _ _ h (lv_sub hl [0, 2] rfl) hF
  refine L4 kp_fu _ _ _ _ _ _ _ h (lv_sub hl [2, 1, 0] rfl) (fun σ_2 H locs ls h hl hF => ?_) hF
  clear L4
  exact kp_retv (v := 0) C hr hlk G h dX10_warms_70 hF
def kf_X10_lengthOf  (a1 : Int) (a2 : Int) (σ_0 : kp_W) : kp_R :=
  kp_bd (kf_X10_looksAt a1 a2 σ_0) (fun r_0 σ_1 => kp_ck (0 ≤ a2 ∧ a2 < 40) (kp_ck (0 ≤ ((σ_1 5 (Int.toNat a2)) * (σ_1 0 11)) ∧ ((σ_1 5 (Int.toNat a2)) * (σ_1 0 11)) ≤ 2147483647 ∧ 0 < (10 : Int) ∧ (10 : Int) ≤ 2147483647) (some ((((σ_1 5 (Int.toNat a2)) * (σ_1 0 11)) / 10), σ_1))))
set_option maxRecDepth 100000 in
set_option maxHeartbeats 4000000 in
theorem kc_X10_lengthOf {l : Launch} {X : kp_X} {a1 : Int} {a2 : Int}  {σ_0 σ' : kp_W} {r : Int}   (hF : (kf_X10_lengthOf a1 a2 σ_0) = some (r, σ')) : kp_Met l yX10_lengthOf cX10_lengthOf 3 (some .int) 2 X kp_lM 10 σ_0 [.ref (kp_ad X 0), kp_iv a1, kp_iv a2] (kp_Qi X kp_lM 10 σ' r) := by
  refine kp_body pnX10 (Nat.le_of_ble_eq_true rfl) ?_
  intro p e s m args below meth c ls C hr hlk G h hl
  unfold kf_X10_lengthOf at hF
  have hl : lv_has ls 3 [(0, .ref (kp_ad X 0)), (1, kp_iv a1), (2, kp_iv a2)] := hl
  refine kp_aload_n C dX10_lengthOf_0 rfl (lv_at hl 0 rfl) ?_
  refine kp_iload_n C dX10_lengthOf_1 rfl (lv_at hl 1 rfl) ?_
  refine kp_iload_n C dX10_lengthOf_2 rfl (lv_at hl 2 rfl) ?_
  obtain ⟨r_0, σ_1, hc, hF⟩ := kp_bd_s hF
  refine kp_cv h (kp_rV (k := 0) (As := [kp_iv a1, kp_iv a2]) (rest := []) C G h (kc_X10_looksAt  hc) q5_27 q5_29 q0_4_4 q1_11 q5_30 ⟨rfl, hd_X10_looksAt⟩ (by decide) kp_lM0 rfl rfl hl.1 rfl (Nat.le_of_ble_eq_true rfl) dX10_lengthOf_3) (fun H locs h => ?_)
  refine kp_aload_n C dX10_lengthOf_6 rfl (lv_at hl 0 rfl) ?_
  refine kp_getr C G h kp_lM0 rfl inWX10 (j := 14) (by decide) q4_58 rfl dX10_lengthOf_7 ?_
  refine kp_iload_n C dX10_lengthOf_10 rfl (lv_at hl 2 rfl) ?_
  refine kp_iald C G h (n := 40) kp_lM5 (by decide) dX10_lengthOf_11 hF (fun hF => ?_)
  refine kp_aload_n C dX10_lengthOf_12 rfl (lv_at hl 0 rfl) ?_
  refine kp_geti C G h kp_lM0 rfl inWX10 (j := 11) (by decide) q4_55 rfl dX10_lengthOf_13 ?_
  refine kp_imul C dX10_lengthOf_16 ?_
  refine kp_bipush C dX10_lengthOf_17 rfl ?_
  refine kp_idiv C dX10_lengthOf_19 hF (fun hF => ?_)
  exact kp_reti C hr hlk G h dX10_lengthOf_20 hF
def kl_X10_ticks_4 (a1 : Int) : Nat → Int → Int → kp_W → (kp_W → kp_R) → kp_R
  | 0, _, _, _, _ => none
  | n + 1, x2_1, x3_1, σ_1, k => kp_ls x3_1 40 (kp_bd (kf_X10_lengthOf a1 x3_1 σ_1) (fun r_0 σ_3 => kp_lt (r_0 : Int) (fun x4_0 => kp_bd (kf_X10_size (x4_0 - x2_1) σ_3) (fun r_1 σ_4 => kp_ck (0 ≤ r_1 ∧ r_1 ≤ 2147483647 ∧ 0 < (σ_4 0 12) ∧ (σ_4 0 12) ≤ 2147483647) (kp_lt ((r_1 / (σ_4 0 12)) : Int) (fun x5_0 => kp_jn (fun (v_0 : Int) => kp_lt (v_0 : Int) (fun x2_2 => kp_jn (fun (v_1 : Int) => kp_lt (v_1 : Int) (fun x5_1 => kp_jn (fun (v_2 : Int) => kp_lt (v_2 : Int) (fun x6_0 => kp_ck (0 ≤ (250 + a1) ∧ (250 + a1) < 1066) (kp_eq (σ_4 1 (Int.toNat (250 + a1))) 4 (kp_ck (0 ≤ x3_1 ∧ x3_1 < 40) (kp_ls x6_0 (σ_4 5 (Int.toNat x3_1)) (kp_ck (0 ≤ ((40 * a1) + x3_1) ∧ ((40 * a1) + x3_1) < 400) (kp_lt (kp_up σ_4 6 (Int.toNat ((40 * a1) + x3_1)) x5_1) (fun σ_6 => kp_lt (x3_1 + 1) (fun x3_3 => kl_X10_ticks_4 a1 n x2_2 x3_3 σ_6 k)))) (kp_ck (0 ≤ ((40 * a1) + x3_1) ∧ ((40 * a1) + x3_1) < 400) (kp_lt (kp_up σ_4 6 (Int.toNat ((40 * a1) + x3_1)) 0) (fun σ_7 => kp_lt (x3_1 + 1) (fun x3_4 => kl_X10_ticks_4 a1 n x2_2 x3_4 σ_7 k)))))) (kp_ck (0 ≤ ((40 * a1) + x3_1) ∧ ((40 * a1) + x3_1) < 400) (kp_lt (kp_up σ_4 6 (Int.toNat ((40 * a1) + x3_1)) x5_1) (fun σ_5 => kp_lt (x3_1 + 1) (fun x3_2 => kl_X10_ticks_4 a1 n x2_2 x3_2 σ_5 k))))))) (fun j76 => kp_eq x3_1 0 (j76 0) (kp_ck (0 ≤ (x3_1 - 1) ∧ (x3_1 - 1) < 40) (j76 (σ_4 5 (Int.toNat (x3_1 - 1)))))))) (fun j58 => kp_ls 9 x5_0 (j58 9) (j58 x5_0)))) (fun j43 => kp_ls 0 x5_0 (j43 x4_0) (j43 x2_1)))))))) (k σ_1)
def kf_X10_ticks  (a1 : Int) (σ_0 : kp_W) : kp_R :=
  kp_lt (0 : Int) (fun x2_0 => kp_lt (0 : Int) (fun x3_0 => kl_X10_ticks_4 a1 kp_fu x2_0 x3_0 σ_0 (fun (σ_2 : kp_W) => some (0, σ_2))))
set_option maxRecDepth 100000 in
set_option maxHeartbeats 4000000 in
theorem kc_X10_ticks {l : Launch} {X : kp_X} {a1 : Int}  {σ_0 σ' : kp_W} {r : Int}   (hF : (kf_X10_ticks a1 σ_0) = some (r, σ')) : kp_Met l yX10_ticks cX10_ticks 7 none 3 X kp_lM 10 σ_0 [.ref (kp_ad X 0), kp_iv a1] (kp_Qv X kp_lM 10 σ') := by
  refine kp_body pnX10 (Nat.le_of_ble_eq_true rfl) ?_
  intro p e s m args below meth c ls C hr hlk G h hl
  unfold kf_X10_ticks at hF
  have hl : lv_has ls 7 [(0, .ref (kp_ad X 0)), (1, kp_iv a1)] := hl
  refine kp_iconst C dX10_ticks_0 ?_
  refine kp_istore_n (lv' := fun x2_0 => [(2, kp_iv x2_0), (0, .ref (kp_ad X 0)), (1, kp_iv a1)]) C dX10_ticks_1 rfl hl (by decide) (fun _ => rfl) hF (fun x2_0 ls hl hF => ?_)
  refine kp_iconst C dX10_ticks_2 ?_
  refine kp_istore_n (lv' := fun x3_0 => [(3, kp_iv x3_0), (2, kp_iv x2_0), (0, .ref (kp_ad X 0)), (1, kp_iv a1)]) C dX10_ticks_3 rfl hl (by decide) (fun _ => rfl) hF (fun x3_0 ls hl hF => ?_)
  have L4 : ∀ (n : Nat) (x2_1 : Int) (x3_1 : Int) (σ_1 : kp_W) (k : kp_W → kp_R) (H : Heap) (locs : List Loc) (ls : Array Slot), kp_H X kp_lM 10 s σ_1 H locs → lv_has ls 7 [(0, .ref (kp_ad X 0)), (1, kp_iv a1), (2, kp_iv x2_1), (3, kp_iv x3_1)] → (∀ (σ_2 : kp_W) (H : Heap) (locs : List Loc) (ls : Array Slot), kp_H X kp_lM 10 s σ_2 H locs → lv_has ls 7 [] → k σ_2 = some (r, σ') → W p l e (kp_rm 3) s m args below meth c H locs 0 0 (MQ below (kp_Qv X kp_lM 10 σ') args s 0 0 (kp_A X 10)) (F0 m 126 ls [])) → kl_X10_ticks_4 a1 n x2_1 x3_1 σ_1 k = some (r, σ') → W p l e (kp_rm 3) s m args below meth c H locs 0 0 (MQ below (kp_Qv X kp_lM 10 σ') args s 0 0 (kp_A X 10)) (F0 m 4 ls []) := by
    intro n
    induction n with
    | zero =>
      intro x2_1 x3_1 σ_1 k H locs ls h hl K hF
      rw [kl_X10_ticks_4] at hF
      cases hF
    | succ n ih =>
      intro x2_1 x3_1 σ_1 k H locs ls h hl K hF
      rw [kl_X10_ticks_4] at hF
      refine kp_iload_n C dX10_ticks_4 rfl (lv_at hl 3 rfl) ?_
      refine kp_bipush C dX10_ticks_5 rfl ?_
      refine kp_icmp_ge (tgt := 126) C dX10_ticks_7 (by decide) hF (fun hF => ?_) (fun hF => ?_)
      · exact K _ _ _ _ h (lv_sub hl [] rfl) hF
      · refine kp_aload_n C dX10_ticks_10 rfl (lv_at hl 0 rfl) ?_
        refine kp_iload_n C dX10_ticks_11 rfl (lv_at hl 1 rfl) ?_
        refine kp_iload_n C dX10_ticks_12 rfl (lv_at hl 3 rfl) ?_
        obtain ⟨r_0, σ_3, hc, hF⟩ := kp_bd_s hF
        refine kp_ci h (kp_rV (k := 0) (As := [kp_iv a1, kp_iv x3_1]) (rest := []) C G h (kc_X10_lengthOf  hc) q5_23 q5_25 q0_4_3 q1_11 q5_26 ⟨rfl, hd_X10_lengthOf⟩ (by decide) kp_lM0 rfl rfl hl.1 rfl (Nat.le_of_ble_eq_true rfl) dX10_ticks_13) (fun H locs h => ?_)
        refine kp_istore (lv' := fun x4_0 => [(4, kp_iv x4_0), (0, .ref (kp_ad X 0)), (1, kp_iv a1), (2, kp_iv x2_1), (3, kp_iv x3_1)]) C dX10_ticks_16 hl (by decide) (fun _ => rfl) hF (fun x4_0 ls hl hF => ?_)
        refine kp_iload C dX10_ticks_18 (lv_at hl 0 rfl) ?_
        refine kp_iload_n C dX10_ticks_20 rfl (lv_at hl 3 rfl) ?_
        refine kp_isub C dX10_ticks_21 ?_
        obtain ⟨r_1, σ_4, hc, hF⟩ := kp_bd_s hF
        refine kp_ci h (kp_rS (As := [kp_iv (x4_0 - x2_1)]) (rest := []) C G h (kc_X10_size  hc) q5_31 q5_32 q1_11 q5_33 hd_X10_size (by decide) rfl hl.1 rfl (Nat.le_of_ble_eq_true rfl) dX10_ticks_22) (fun H locs h => ?_)
        refine kp_aload_n C dX10_ticks_25 rfl (lv_at hl 1 rfl) ?_
        refine kp_geti C G h kp_lM0 rfl inWX10 (j := 12) (by decide) q4_56 rfl dX10_ticks_26 ?_
        refine kp_idiv C dX10_ticks_29 hF (fun hF => ?_)
        refine kp_istore (lv' := fun x5_0 => [(5, kp_iv x5_0), (4, kp_iv x4_0), (0, .ref (kp_ad X 0)), (1, kp_iv a1), (2, kp_iv x2_1), (3, kp_iv x3_1)]) C dX10_ticks_30 hl (by decide) (fun _ => rfl) hF (fun x5_0 ls hl hF => ?_)
        refine kp_iload C dX10_ticks_32 (lv_at hl 0 rfl) ?_
        obtain ⟨j43, ej43, hF⟩ := kp_jn_s hF
        have J43 : ∀ (v_0 : Int), ∀ (H : Heap) (locs : List Loc) (ls : Array Slot), kp_H X kp_lM 10 s σ_4 H locs → lv_has ls 7 [(0, .ref (kp_ad X 0)), (1, kp_iv a1), (3, kp_iv x3_1), (5, kp_iv x5_0)] → j43 v_0 = some (r, σ') → W p l e (kp_rm 3) s m args below meth c H locs 0 0 (MQ below (kp_Qv X kp_lM 10 σ') args s 0 0 (kp_A X 10)) (F0 m 43 ls [kp_iv v_0]) := by
          intro v_0 H locs ls h hl hF
          rw [ej43] at hF
          refine kp_istore_n (lv' := fun x2_2 => [(2, kp_iv x2_2), (0, .ref (kp_ad X 0)), (1, kp_iv a1), (3, kp_iv x3_1), (5, kp_iv x5_0)]) C dX10_ticks_43 rfl hl (by decide) (fun _ => rfl) hF (fun x2_2 ls hl hF => ?_)
          refine kp_iload C dX10_ticks_44 (lv_at hl 4 rfl) ?_
          refine kp_bipush C dX10_ticks_46 rfl ?_
          obtain ⟨j58, ej58, hF⟩ := kp_jn_s hF
          have J58 : ∀ (v_1 : Int), ∀ (H : Heap) (locs : List Loc) (ls : Array Slot), kp_H X kp_lM 10 s σ_4 H locs → lv_has ls 7 [(0, .ref (kp_ad X 0)), (1, kp_iv a1), (2, kp_iv x2_2), (3, kp_iv x3_1)] → j58 v_1 = some (r, σ') → W p l e (kp_rm 3) s m args below meth c H locs 0 0 (MQ below (kp_Qv X kp_lM 10 σ') args s 0 0 (kp_A X 10)) (F0 m 58 ls [kp_iv v_1]) := by
            intro v_1 H locs ls h hl hF
            rw [ej58] at hF
            refine kp_istore (lv' := fun x5_1 => [(5, kp_iv x5_1), (0, .ref (kp_ad X 0)), (1, kp_iv a1), (2, kp_iv x2_2), (3, kp_iv x3_1)]) C dX10_ticks_58 hl (by decide) (fun _ => rfl) hF (fun x5_1 ls hl hF => ?_)
            refine kp_iload_n C dX10_ticks_60 rfl (lv_at hl 4 rfl) ?_
            obtain ⟨j76, ej76, hF⟩ := kp_jn_s hF
            have J76 : ∀ (v_2 : Int), ∀ (H : Heap) (locs : List Loc) (ls : Array Slot), kp_H X kp_lM 10 s σ_4 H locs → lv_has ls 7 [(0, .ref (kp_ad X 0)), (1, kp_iv a1), (2, kp_iv x2_2), (3, kp_iv x3_1), (5, kp_iv x5_1)] → j76 v_2 = some (r, σ') → W p l e (kp_rm 3) s m args below meth c H locs 0 0 (MQ below (kp_Qv X kp_lM 10 σ') args s 0 0 (kp_A X 10)) (F0 m 76 ls [kp_iv v_2]) := by
              intro v_2 H locs ls h hl hF
              rw [ej76] at hF
              refine kp_istore (lv' := fun x6_0 => [(6, kp_iv x6_0), (0, .ref (kp_ad X 0)), (1, kp_iv a1), (2, kp_iv x2_2), (3, kp_iv x3_1), (5, kp_iv x5_1)]) C dX10_ticks_76 hl (by decide) (fun _ => rfl) hF (fun x6_0 ls hl hF => ?_)
              refine kp_aload_n C dX10_ticks_78 rfl (lv_at hl 1 rfl) ?_
              refine kp_getr C G h kp_lM0 rfl inWX10 (j := 15) (by decide) q4_59 rfl dX10_ticks_79 ?_
              refine kp_bipush C dX10_ticks_82 rfl ?_
              refine kp_iload_n C dX10_ticks_84 rfl (lv_at hl 2 rfl) ?_
              refine kp_imul C dX10_ticks_85 ?_
              refine kp_iload_n C dX10_ticks_86 rfl (lv_at hl 4 rfl) ?_
              refine kp_iadd C dX10_ticks_87 ?_
              refine kp_aload_n C dX10_ticks_88 rfl (lv_at hl 1 rfl) ?_
              refine kp_getr C G h kp_lM0 rfl inWX10 (j := 1) (by decide) q4_45 rfl dX10_ticks_89 ?_
              refine kp_sipush C dX10_ticks_92 rfl ?_
              refine kp_iload_n C dX10_ticks_95 rfl (lv_at hl 2 rfl) ?_
              refine kp_iadd C dX10_ticks_96 ?_
              refine kp_iald C G h (n := 1066) kp_lM1 (by decide) dX10_ticks_97 hF (fun hF => ?_)
              refine kp_iconst C dX10_ticks_98 ?_
              refine kp_icmp_ne (tgt := 117) C dX10_ticks_99 (by decide) hF (fun hF => ?_) (fun hF => ?_)
              · refine kp_iload C dX10_ticks_117 (lv_at hl 5 rfl) ?_
                refine kp_iast C G h (n := 400) kp_lM6 (by decide) dX10_ticks_119 hF (fun σ_5 H locs h hF => ?_)
                refine kp_iinc (k := 4) (lv' := fun x3_2 => [(3, kp_iv x3_2), (6, kp_iv x6_0), (0, .ref (kp_ad X 0)), (1, kp_iv a1), (2, kp_iv x2_2), (5, kp_iv x5_1)]) C dX10_ticks_120 hl rfl (by decide) (fun _ => rfl) hF (fun x3_2 ls hl hF => ?_)
                refine kp_goto (tgt := 4) C dX10_ticks_123 (by decide) ?_
                exact ih _ _ _ k _ _ _ h (lv_sub hl [2, 3, 4, 0] rfl) K hF
              · refine kp_aload_n C dX10_ticks_102 rfl (lv_at hl 1 rfl) ?_
                refine kp_getr C G h kp_lM0 rfl inWX10 (j := 14) (by decide) q4_58 rfl dX10_ticks_103 ?_
                refine kp_iload_n C dX10_ticks_106 rfl (lv_at hl 4 rfl) ?_
                refine kp_iald C G h (n := 40) kp_lM5 (by decide) dX10_ticks_107 hF (fun hF => ?_)
                refine kp_iload C dX10_ticks_108 (lv_at hl 0 rfl) ?_
                refine kp_icmp_gt (tgt := 117) C dX10_ticks_110 (by decide) hF (fun hF => ?_) (fun hF => ?_)
                · refine kp_iload C dX10_ticks_117 (lv_at hl 5 rfl) ?_
                  refine kp_iast C G h (n := 400) kp_lM6 (by decide) dX10_ticks_119 hF (fun σ_6 H locs h hF => ?_)
                  refine kp_iinc (k := 4) (lv' := fun x3_3 => [(3, kp_iv x3_3), (6, kp_iv x6_0), (0, .ref (kp_ad X 0)), (1, kp_iv a1), (2, kp_iv x2_2), (5, kp_iv x5_1)]) C dX10_ticks_120 hl rfl (by decide) (fun _ => rfl) hF (fun x3_3 ls hl hF => ?_)
                  refine kp_goto (tgt := 4) C dX10_ticks_123 (by decide) ?_
                  exact ih _ _ _ k _ _ _ h (lv_sub hl [2, 3, 4, 0] rfl) K hF
                · refine kp_iconst C dX10_ticks_113 ?_
                  refine kp_goto (tgt := 119) C dX10_ticks_114 (by decide) ?_
                  refine kp_iast C G h (n := 400) kp_lM6 (by decide) dX10_ticks_119 hF (fun σ_7 H locs h hF => ?_)
                  refine kp_iinc (k := 4) (lv' := fun x3_4 => [(3, kp_iv x3_4), (6, kp_iv x6_0), (0, .ref (kp_ad X 0)), (1, kp_iv a1), (2, kp_iv x2_2), (5, kp_iv x5_1)]) C dX10_ticks_120 hl rfl (by decide) (fun _ => rfl) hF (fun x3_4 ls hl hF => ?_)
                  refine kp_goto (tgt := 4) C dX10_ticks_123 (by decide) ?_
                  exact ih _ _ _ k _ _ _ h (lv_sub hl [2, 3, 4, 0] rfl) K hF
            clear ej76
            refine kp_if_ne (tgt := 68) C dX10_ticks_61 (by decide) hF (fun hF => ?_) (fun hF => ?_)
            · refine kp_aload_n C dX10_ticks_68 rfl (lv_at hl 1 rfl) ?_
              refine kp_getr C G h kp_lM0 rfl inWX10 (j := 14) (by decide) q4_58 rfl dX10_ticks_69 ?_
              refine kp_iload_n C dX10_ticks_72 rfl (lv_at hl 4 rfl) ?_
              refine kp_iconst C dX10_ticks_73 ?_
              refine kp_isub C dX10_ticks_74 ?_
              refine kp_iald C G h (n := 40) kp_lM5 (by decide) dX10_ticks_75 hF (fun hF => ?_)
              exact J76 _ _ _ _ h (lv_sub hl [1, 2, 3, 4, 0] rfl) hF
            · refine kp_iconst C dX10_ticks_64 ?_
              refine kp_goto (tgt := 76) C dX10_ticks_65 (by decide) ?_
              exact J76 _ _ _ _ h (lv_sub hl [1, 2, 3, 4, 0] rfl) hF
          clear ej58
          refine kp_icmp_le (tgt := 56) C dX10_ticks_48 (by decide) hF (fun hF => ?_) (fun hF => ?_)
          · refine kp_iload C dX10_ticks_56 (lv_at hl 4 rfl) ?_
            exact J58 _ _ _ _ h (lv_sub hl [1, 2, 0, 3] rfl) hF
          · refine kp_bipush C dX10_ticks_51 rfl ?_
            refine kp_goto (tgt := 58) C dX10_ticks_53 (by decide) ?_
            exact J58 _ _ _ _ h (lv_sub hl [1, 2, 0, 3] rfl) hF
        clear ej43
        refine kp_if_le (tgt := 42) C dX10_ticks_34 (by decide) hF (fun hF => ?_) (fun hF => ?_)
        · refine kp_iload_n C dX10_ticks_42 rfl (lv_at hl 4 rfl) ?_
          exact J43 _ _ _ _ h (lv_sub hl [2, 3, 5, 0] rfl) hF
        · refine kp_iload C dX10_ticks_37 (lv_at hl 1 rfl) ?_
          refine kp_goto (tgt := 43) C dX10_ticks_39 (by decide) ?_
          exact J43 _ _ _ _ h (lv_sub hl [2, 3, 5, 0] rfl) hF
  refine L4 kp_fu _ _ _ _ _ _ _ h (lv_sub hl [2, 3, 1, 0] rfl) (fun σ_2 H locs ls h hl hF => ?_) hF
  clear L4
  exact kp_retv (v := 0) C hr hlk G h dX10_ticks_126 hF
def kl_X10_strikesBy_2 (a1 : Int) : Nat → Int → kp_W → (kp_W → kp_R) → kp_R
  | 0, _, _, _ => none
  | n + 1, x2_1, σ_1, k => kp_ls x2_1 40 (kp_jn (fun (v_0 : Int) (σ_3 : kp_W) => kp_lt (v_0 : Int) (fun x3_0 => kp_bd (kf_X10_isOn 1 x2_1 σ_3) (fun r_0 σ_4 => kp_lt (r_0 : Int) (fun x4_0 => kp_jn (fun (x2_2 : Int) (σ_5 : kp_W) => kp_eq x4_0 0 (kp_ck (0 ≤ ((40 * a1) + x2_1) ∧ ((40 * a1) + x2_1) < 400) (kp_lt (kp_up σ_5 6 (Int.toNat ((40 * a1) + x2_1)) 0) (fun σ_6 => kp_lt (x2_2 + 1) (fun x2_3 => kl_X10_strikesBy_2 a1 n x2_3 σ_6 k)))) (kp_eq x3_0 0 (kp_ck (0 ≤ (250 + a1) ∧ (250 + a1) < 1066) (kp_eq (σ_5 1 (Int.toNat (250 + a1))) 5 (kp_ck (0 ≤ ((40 * a1) + x2_1) ∧ ((40 * a1) + x2_1) < 400) (kp_lt (kp_up σ_5 6 (Int.toNat ((40 * a1) + x2_1)) 1) (fun σ_9 => kp_lt (x2_2 + 1) (fun x2_6 => kl_X10_strikesBy_2 a1 n x2_6 σ_9 k)))) (kp_ck (0 ≤ ((40 * a1) + x2_1) ∧ ((40 * a1) + x2_1) < 400) (kp_lt (kp_up σ_5 6 (Int.toNat ((40 * a1) + x2_1)) 0) (fun σ_8 => kp_lt (x2_2 + 1) (fun x2_5 => kl_X10_strikesBy_2 a1 n x2_5 σ_8 k)))))) (kp_ck (0 ≤ ((40 * a1) + x2_1) ∧ ((40 * a1) + x2_1) < 400) (kp_lt (kp_up σ_5 6 (Int.toNat ((40 * a1) + x2_1)) 0) (fun σ_7 => kp_lt (x2_2 + 1) (fun x2_4 => kl_X10_strikesBy_2 a1 n x2_4 σ_7 k)))))) (fun j69 => kp_eq x4_0 0 (kp_eq x3_0 0 (j69 x2_1 σ_4) (kp_ck (0 ≤ (270 + a1) ∧ (270 + a1) < 1066) (kp_ck (0 ≤ ((40 * a1) + x2_1) ∧ ((40 * a1) + x2_1) < 400) (kp_lt (kp_up σ_4 6 (Int.toNat ((40 * a1) + x2_1)) (σ_4 1 (Int.toNat (270 + a1)))) (fun σ_10 => kp_lt (x2_1 + 1) (fun x2_7 => kl_X10_strikesBy_2 a1 n x2_7 σ_10 k)))))) (j69 x2_1 σ_4)))))) (fun j28 => kp_jn (fun (σ_11 : kp_W) => j28 0 σ_11) (fun j27 => kp_ls 0 x2_1 (kp_bd (kf_X10_isOn 1 (x2_1 - 1) σ_1) (fun r_1 σ_12 => kp_eq r_1 0 (j27 σ_12) (j28 1 σ_12))) (j27 σ_1)))) (k σ_1)
def kf_X10_strikesBy  (a1 : Int) (σ_0 : kp_W) : kp_R :=
  kp_lt (0 : Int) (fun x2_0 => kl_X10_strikesBy_2 a1 kp_fu x2_0 σ_0 (fun (σ_2 : kp_W) => some (0, σ_2)))
set_option maxRecDepth 100000 in
set_option maxHeartbeats 4000000 in
theorem kc_X10_strikesBy {l : Launch} {X : kp_X} {a1 : Int}  {σ_0 σ' : kp_W} {r : Int}   (hF : (kf_X10_strikesBy a1 σ_0) = some (r, σ')) : kp_Met l yX10_strikesBy cX10_strikesBy 5 none 1 X kp_lM 10 σ_0 [.ref (kp_ad X 0), kp_iv a1] (kp_Qv X kp_lM 10 σ') := by
  refine kp_body pnX10 (Nat.le_of_ble_eq_true rfl) ?_
  intro p e s m args below meth c ls C hr hlk G h hl
  unfold kf_X10_strikesBy at hF
  have hl : lv_has ls 5 [(0, .ref (kp_ad X 0)), (1, kp_iv a1)] := hl
  refine kp_iconst C dX10_strikesBy_0 ?_
  refine kp_istore_n (lv' := fun x2_0 => [(2, kp_iv x2_0), (0, .ref (kp_ad X 0)), (1, kp_iv a1)]) C dX10_strikesBy_1 rfl hl (by decide) (fun _ => rfl) hF (fun x2_0 ls hl hF => ?_)
  have L2 : ∀ (n : Nat) (x2_1 : Int) (σ_1 : kp_W) (k : kp_W → kp_R) (H : Heap) (locs : List Loc) (ls : Array Slot), kp_H X kp_lM 10 s σ_1 H locs → lv_has ls 5 [(0, .ref (kp_ad X 0)), (1, kp_iv a1), (2, kp_iv x2_1)] → (∀ (σ_2 : kp_W) (H : Heap) (locs : List Loc) (ls : Array Slot), kp_H X kp_lM 10 s σ_2 H locs → lv_has ls 5 [] → k σ_2 = some (r, σ') → W p l e (kp_rm 1) s m args below meth c H locs 0 0 (MQ below (kp_Qv X kp_lM 10 σ') args s 0 0 (kp_A X 10)) (F0 m 104 ls [])) → kl_X10_strikesBy_2 a1 n x2_1 σ_1 k = some (r, σ') → W p l e (kp_rm 1) s m args below meth c H locs 0 0 (MQ below (kp_Qv X kp_lM 10 σ') args s 0 0 (kp_A X 10)) (F0 m 2 ls []) := by
    intro n
    induction n with
    | zero =>
      intro x2_1 σ_1 k H locs ls h hl K hF
      rw [kl_X10_strikesBy_2] at hF
      cases hF
    | succ n ih =>
      intro x2_1 σ_1 k H locs ls h hl K hF
      rw [kl_X10_strikesBy_2] at hF
      refine kp_iload_n C dX10_strikesBy_2 rfl (lv_at hl 2 rfl) ?_
      refine kp_bipush C dX10_strikesBy_3 rfl ?_
      refine kp_icmp_ge (tgt := 104) C dX10_strikesBy_5 (by decide) hF (fun hF => ?_) (fun hF => ?_)
      · exact K _ _ _ _ h (lv_sub hl [] rfl) hF
      · refine kp_iload_n C dX10_strikesBy_8 rfl (lv_at hl 2 rfl) ?_
        obtain ⟨j28, ej28, hF⟩ := kp_jn_s hF
        have J28 : ∀ (v_0 : Int), ∀ (σ_3 : kp_W), ∀ (H : Heap) (locs : List Loc) (ls : Array Slot), kp_H X kp_lM 10 s σ_3 H locs → lv_has ls 5 [(0, .ref (kp_ad X 0)), (1, kp_iv a1), (2, kp_iv x2_1)] → j28 v_0 σ_3 = some (r, σ') → W p l e (kp_rm 1) s m args below meth c H locs 0 0 (MQ below (kp_Qv X kp_lM 10 σ') args s 0 0 (kp_A X 10)) (F0 m 28 ls [kp_iv v_0]) := by
          intro v_0 σ_3 H locs ls h hl hF
          rw [ej28] at hF
          refine kp_istore_n (lv' := fun x3_0 => [(3, kp_iv x3_0), (0, .ref (kp_ad X 0)), (1, kp_iv a1), (2, kp_iv x2_1)]) C dX10_strikesBy_28 rfl hl (by decide) (fun _ => rfl) hF (fun x3_0 ls hl hF => ?_)
          refine kp_aload_n C dX10_strikesBy_29 rfl (lv_at hl 1 rfl) ?_
          refine kp_iconst C dX10_strikesBy_30 ?_
          refine kp_iload_n C dX10_strikesBy_31 rfl (lv_at hl 3 rfl) ?_
          obtain ⟨r_0, σ_4, hc, hF⟩ := kp_bd_s hF
          refine kp_ci h (kp_rV (k := 0) (As := [kp_iv 1, kp_iv x2_1]) (rest := []) C G h (kc_X10_isOn  hc) q4_223 q4_225 q0_3_14 q1_11 q4_226 ⟨rfl, hd_X10_isOn⟩ (by decide) kp_lM0 rfl rfl hl.1 rfl (Nat.le_of_ble_eq_true rfl) dX10_strikesBy_32) (fun H locs h => ?_)
          refine kp_istore (lv' := fun x4_0 => [(4, kp_iv x4_0), (3, kp_iv x3_0), (0, .ref (kp_ad X 0)), (1, kp_iv a1), (2, kp_iv x2_1)]) C dX10_strikesBy_35 hl (by decide) (fun _ => rfl) hF (fun x4_0 ls hl hF => ?_)
          refine kp_aload_n C dX10_strikesBy_37 rfl (lv_at hl 2 rfl) ?_
          refine kp_getr C G h kp_lM0 rfl inWX10 (j := 15) (by decide) q4_59 rfl dX10_strikesBy_38 ?_
          refine kp_bipush C dX10_strikesBy_41 rfl ?_
          refine kp_iload_n C dX10_strikesBy_43 rfl (lv_at hl 3 rfl) ?_
          refine kp_imul C dX10_strikesBy_44 ?_
          refine kp_iload_n C dX10_strikesBy_45 rfl (lv_at hl 4 rfl) ?_
          refine kp_iadd C dX10_strikesBy_46 ?_
          refine kp_iload C dX10_strikesBy_47 (lv_at hl 0 rfl) ?_
          obtain ⟨j69, ej69, hF⟩ := kp_jn_s hF
          have J69 : ∀ (x2_2 : Int), ∀ (σ_5 : kp_W), ∀ (H : Heap) (locs : List Loc) (ls : Array Slot), kp_H X kp_lM 10 s σ_5 H locs → lv_has ls 5 [(0, .ref (kp_ad X 0)), (1, kp_iv a1), (2, kp_iv x2_2), (3, kp_iv x3_0), (4, kp_iv x4_0)] → j69 x2_2 σ_5 = some (r, σ') → W p l e (kp_rm 1) s m args below meth c H locs 0 0 (MQ below (kp_Qv X kp_lM 10 σ') args s 0 0 (kp_A X 10)) (F0 m 69 ls [kp_iv ((40 * a1) + x2_1), .ref (kp_ad X 6)]) := by
            intro x2_2 σ_5 H locs ls h hl hF
            rw [ej69] at hF
            refine kp_iload C dX10_strikesBy_69 (lv_at hl 4 rfl) ?_
            refine kp_if_eq (tgt := 96) C dX10_strikesBy_71 (by decide) hF (fun hF => ?_) (fun hF => ?_)
            · refine kp_iconst C dX10_strikesBy_96 ?_
              refine kp_iast C G h (n := 400) kp_lM6 (by decide) dX10_strikesBy_97 hF (fun σ_6 H locs h hF => ?_)
              refine kp_iinc (k := 2) (lv' := fun x2_3 => [(2, kp_iv x2_3), (0, .ref (kp_ad X 0)), (1, kp_iv a1), (3, kp_iv x3_0), (4, kp_iv x4_0)]) C dX10_strikesBy_98 hl rfl (by decide) (fun _ => rfl) hF (fun x2_3 ls hl hF => ?_)
              refine kp_goto (tgt := 2) C dX10_strikesBy_101 (by decide) ?_
              exact ih _ _ k _ _ _ h (lv_sub hl [1, 2, 0] rfl) K hF
            · refine kp_iload_n C dX10_strikesBy_74 rfl (lv_at hl 3 rfl) ?_
              refine kp_if_ne (tgt := 96) C dX10_strikesBy_75 (by decide) hF (fun hF => ?_) (fun hF => ?_)
              · refine kp_iconst C dX10_strikesBy_96 ?_
                refine kp_iast C G h (n := 400) kp_lM6 (by decide) dX10_strikesBy_97 hF (fun σ_7 H locs h hF => ?_)
                refine kp_iinc (k := 2) (lv' := fun x2_4 => [(2, kp_iv x2_4), (0, .ref (kp_ad X 0)), (1, kp_iv a1), (3, kp_iv x3_0), (4, kp_iv x4_0)]) C dX10_strikesBy_98 hl rfl (by decide) (fun _ => rfl) hF (fun x2_4 ls hl hF => ?_)
                refine kp_goto (tgt := 2) C dX10_strikesBy_101 (by decide) ?_
                exact ih _ _ k _ _ _ h (lv_sub hl [1, 2, 0] rfl) K hF
              · refine kp_aload_n C dX10_strikesBy_78 rfl (lv_at hl 0 rfl) ?_
                refine kp_getr C G h kp_lM0 rfl inWX10 (j := 1) (by decide) q4_45 rfl dX10_strikesBy_79 ?_
                refine kp_sipush C dX10_strikesBy_82 rfl ?_
                refine kp_iload_n C dX10_strikesBy_85 rfl (lv_at hl 1 rfl) ?_
                refine kp_iadd C dX10_strikesBy_86 ?_
                refine kp_iald C G h (n := 1066) kp_lM1 (by decide) dX10_strikesBy_87 hF (fun hF => ?_)
                refine kp_iconst C dX10_strikesBy_88 ?_
                refine kp_icmp_ne (tgt := 96) C dX10_strikesBy_89 (by decide) hF (fun hF => ?_) (fun hF => ?_)
                · refine kp_iconst C dX10_strikesBy_96 ?_
                  refine kp_iast C G h (n := 400) kp_lM6 (by decide) dX10_strikesBy_97 hF (fun σ_8 H locs h hF => ?_)
                  refine kp_iinc (k := 2) (lv' := fun x2_5 => [(2, kp_iv x2_5), (0, .ref (kp_ad X 0)), (1, kp_iv a1), (3, kp_iv x3_0), (4, kp_iv x4_0)]) C dX10_strikesBy_98 hl rfl (by decide) (fun _ => rfl) hF (fun x2_5 ls hl hF => ?_)
                  refine kp_goto (tgt := 2) C dX10_strikesBy_101 (by decide) ?_
                  exact ih _ _ k _ _ _ h (lv_sub hl [1, 2, 0] rfl) K hF
                · refine kp_iconst C dX10_strikesBy_92 ?_
                  refine kp_goto (tgt := 97) C dX10_strikesBy_93 (by decide) ?_
                  refine kp_iast C G h (n := 400) kp_lM6 (by decide) dX10_strikesBy_97 hF (fun σ_9 H locs h hF => ?_)
                  refine kp_iinc (k := 2) (lv' := fun x2_6 => [(2, kp_iv x2_6), (0, .ref (kp_ad X 0)), (1, kp_iv a1), (3, kp_iv x3_0), (4, kp_iv x4_0)]) C dX10_strikesBy_98 hl rfl (by decide) (fun _ => rfl) hF (fun x2_6 ls hl hF => ?_)
                  refine kp_goto (tgt := 2) C dX10_strikesBy_101 (by decide) ?_
                  exact ih _ _ k _ _ _ h (lv_sub hl [1, 2, 0] rfl) K hF
          clear ej69
          refine kp_if_ne (tgt := 69) C dX10_strikesBy_49 (by decide) hF (fun hF => ?_) (fun hF => ?_)
          · exact J69 _ _ _ _ _ h (lv_sub hl [2, 3, 4, 1, 0] rfl) hF
          · refine kp_iload_n C dX10_strikesBy_52 rfl (lv_at hl 1 rfl) ?_
            refine kp_if_eq (tgt := 69) C dX10_strikesBy_53 (by decide) hF (fun hF => ?_) (fun hF => ?_)
            · exact J69 _ _ _ _ _ h (lv_sub hl [2, 3, 4, 1, 0] rfl) hF
            · refine kp_aload_n C dX10_strikesBy_56 rfl (lv_at hl 2 rfl) ?_
              refine kp_getr C G h kp_lM0 rfl inWX10 (j := 1) (by decide) q4_45 rfl dX10_strikesBy_57 ?_
              refine kp_sipush C dX10_strikesBy_60 rfl ?_
              refine kp_iload_n C dX10_strikesBy_63 rfl (lv_at hl 3 rfl) ?_
              refine kp_iadd C dX10_strikesBy_64 ?_
              refine kp_iald C G h (n := 1066) kp_lM1 (by decide) dX10_strikesBy_65 hF (fun hF => ?_)
              refine kp_goto (tgt := 97) C dX10_strikesBy_66 (by decide) ?_
              refine kp_iast C G h (n := 400) kp_lM6 (by decide) dX10_strikesBy_97 hF (fun σ_10 H locs h hF => ?_)
              refine kp_iinc (k := 4) (lv' := fun x2_7 => [(2, kp_iv x2_7), (4, kp_iv x4_0), (3, kp_iv x3_0), (0, .ref (kp_ad X 0)), (1, kp_iv a1)]) C dX10_strikesBy_98 hl rfl (by decide) (fun _ => rfl) hF (fun x2_7 ls hl hF => ?_)
              refine kp_goto (tgt := 2) C dX10_strikesBy_101 (by decide) ?_
              exact ih _ _ k _ _ _ h (lv_sub hl [3, 4, 0] rfl) K hF
        clear ej28
        obtain ⟨j27, ej27, hF⟩ := kp_jn_s hF
        have J27 : ∀ (σ_11 : kp_W), ∀ (H : Heap) (locs : List Loc) (ls : Array Slot), kp_H X kp_lM 10 s σ_11 H locs → lv_has ls 5 [(0, .ref (kp_ad X 0)), (1, kp_iv a1), (2, kp_iv x2_1)] → j27 σ_11 = some (r, σ') → W p l e (kp_rm 1) s m args below meth c H locs 0 0 (MQ below (kp_Qv X kp_lM 10 σ') args s 0 0 (kp_A X 10)) (F0 m 27 ls []) := by
          intro σ_11 H locs ls h hl hF
          rw [ej27] at hF
          refine kp_iconst C dX10_strikesBy_27 ?_
          exact J28 _ _ _ _ _ h (lv_sub hl [0, 1, 2] rfl) hF
        clear ej27
        refine kp_if_le (tgt := 27) C dX10_strikesBy_9 (by decide) hF (fun hF => ?_) (fun hF => ?_)
        · exact J27 _ _ _ _ h (lv_sub hl [0, 1, 2] rfl) hF
        · refine kp_aload_n C dX10_strikesBy_12 rfl (lv_at hl 0 rfl) ?_
          refine kp_iconst C dX10_strikesBy_13 ?_
          refine kp_iload_n C dX10_strikesBy_14 rfl (lv_at hl 2 rfl) ?_
          refine kp_iconst C dX10_strikesBy_15 ?_
          refine kp_isub C dX10_strikesBy_16 ?_
          obtain ⟨r_1, σ_12, hc, hF⟩ := kp_bd_s hF
          refine kp_ci h (kp_rV (k := 0) (As := [kp_iv 1, kp_iv (x2_1 - 1)]) (rest := []) C G h (kc_X10_isOn  hc) q4_223 q4_225 q0_3_14 q1_11 q4_226 ⟨rfl, hd_X10_isOn⟩ (by decide) kp_lM0 rfl rfl hl.1 rfl (Nat.le_of_ble_eq_true rfl) dX10_strikesBy_17) (fun H locs h => ?_)
          refine kp_if_eq (tgt := 27) C dX10_strikesBy_20 (by decide) hF (fun hF => ?_) (fun hF => ?_)
          · exact J27 _ _ _ _ h (lv_sub hl [0, 1, 2] rfl) hF
          · refine kp_iconst C dX10_strikesBy_23 ?_
            refine kp_goto (tgt := 28) C dX10_strikesBy_24 (by decide) ?_
            exact J28 _ _ _ _ _ h (lv_sub hl [0, 1, 2] rfl) hF
  refine L2 kp_fu _ _ _ _ _ _ h (lv_sub hl [1, 2, 0] rfl) (fun σ_2 H locs ls h hl hF => ?_) hF
  clear L2
  exact kp_retv (v := 0) C hr hlk G h dX10_strikesBy_104 hF
def kl_X10_hums_34 (a1 : Int) (a2 : Int) (x4_0 : Int) : Nat → Int → Int → kp_W → (kp_W → kp_R) → kp_R
  | 0, _, _, _, _ => none
  | n + 1, x3_1, x5_1, σ_1, k => kp_ls x5_1 40 (kp_bd (kf_X10_isOn 2 x5_1 σ_1) (fun r_0 σ_3 => kp_jn (fun (v_1 : Int) => kp_lt (v_1 : Int) (fun x3_2 => kp_ls x3_2 x4_0 (kp_ck (0 ≤ ((40 * a1) + x5_1) ∧ ((40 * a1) + x5_1) < 400) (kp_lt (kp_up σ_3 6 (Int.toNat ((40 * a1) + x5_1)) 0) (fun σ_4 => kp_lt (x5_1 + 1) (fun x5_2 => kl_X10_hums_34 a1 a2 x4_0 n x3_2 x5_2 σ_4 k)))) (kp_ck (0 ≤ ((40 * a1) + x5_1) ∧ ((40 * a1) + x5_1) < 400) (kp_lt (kp_up σ_3 6 (Int.toNat ((40 * a1) + x5_1)) 1) (fun σ_5 => kp_lt (x5_1 + 1) (fun x5_3 => kl_X10_hums_34 a1 a2 x4_0 n x3_2 x5_3 σ_5 k)))))) (fun j59 => kp_eq r_0 a2 (j59 (x3_1 + 1)) (j59 0)))) (k σ_1)
def kf_X10_hums  (a1 : Int) (a2 : Int) (σ_0 : kp_W) : kp_R :=
  kp_lt (0 : Int) (fun x3_0 => kp_ck (0 ≤ (270 + a1) ∧ (270 + a1) < 1066) (kp_jn (fun (v_0 : Int) => kp_lt (v_0 : Int) (fun x4_0 => kp_lt (0 : Int) (fun x5_0 => kl_X10_hums_34 a1 a2 x4_0 kp_fu x3_0 x5_0 σ_0 (fun (σ_2 : kp_W) => some (0, σ_2))))) (fun j29 => kp_eq (σ_0 1 (Int.toNat (270 + a1))) 0 (j29 1) (kp_ck (0 ≤ (270 + a1) ∧ (270 + a1) < 1066) (j29 (σ_0 1 (Int.toNat (270 + a1))))))))
set_option maxRecDepth 100000 in
set_option maxHeartbeats 4000000 in
theorem kc_X10_hums {l : Launch} {X : kp_X} {a1 : Int} {a2 : Int}  {σ_0 σ' : kp_W} {r : Int}   (hF : (kf_X10_hums a1 a2 σ_0) = some (r, σ')) : kp_Met l yX10_hums cX10_hums 6 none 1 X kp_lM 10 σ_0 [.ref (kp_ad X 0), kp_iv a1, kp_iv a2] (kp_Qv X kp_lM 10 σ') := by
  refine kp_body pnX10 (Nat.le_of_ble_eq_true rfl) ?_
  intro p e s m args below meth c ls C hr hlk G h hl
  unfold kf_X10_hums at hF
  have hl : lv_has ls 6 [(0, .ref (kp_ad X 0)), (1, kp_iv a1), (2, kp_iv a2)] := hl
  refine kp_iconst C dX10_hums_0 ?_
  refine kp_istore_n (lv' := fun x3_0 => [(3, kp_iv x3_0), (0, .ref (kp_ad X 0)), (1, kp_iv a1), (2, kp_iv a2)]) C dX10_hums_1 rfl hl (by decide) (fun _ => rfl) hF (fun x3_0 ls hl hF => ?_)
  refine kp_aload_n C dX10_hums_2 rfl (lv_at hl 1 rfl) ?_
  refine kp_getr C G h kp_lM0 rfl inWX10 (j := 1) (by decide) q4_45 rfl dX10_hums_3 ?_
  refine kp_sipush C dX10_hums_6 rfl ?_
  refine kp_iload_n C dX10_hums_9 rfl (lv_at hl 2 rfl) ?_
  refine kp_iadd C dX10_hums_10 ?_
  refine kp_iald C G h (n := 1066) kp_lM1 (by decide) dX10_hums_11 hF (fun hF => ?_)
  obtain ⟨j29, ej29, hF⟩ := kp_jn_s hF
  have J29 : ∀ (v_0 : Int), ∀ (H : Heap) (locs : List Loc) (ls : Array Slot), kp_H X kp_lM 10 s σ_0 H locs → lv_has ls 6 [(0, .ref (kp_ad X 0)), (1, kp_iv a1), (2, kp_iv a2), (3, kp_iv x3_0)] → j29 v_0 = some (r, σ') → W p l e (kp_rm 1) s m args below meth c H locs 0 0 (MQ below (kp_Qv X kp_lM 10 σ') args s 0 0 (kp_A X 10)) (F0 m 29 ls [kp_iv v_0]) := by
    intro v_0 H locs ls h hl hF
    rw [ej29] at hF
    refine kp_istore (lv' := fun x4_0 => [(4, kp_iv x4_0), (0, .ref (kp_ad X 0)), (1, kp_iv a1), (2, kp_iv a2), (3, kp_iv x3_0)]) C dX10_hums_29 hl (by decide) (fun _ => rfl) hF (fun x4_0 ls hl hF => ?_)
    refine kp_iconst C dX10_hums_31 ?_
    refine kp_istore (lv' := fun x5_0 => [(5, kp_iv x5_0), (4, kp_iv x4_0), (0, .ref (kp_ad X 0)), (1, kp_iv a1), (2, kp_iv a2), (3, kp_iv x3_0)]) C dX10_hums_32 hl (by decide) (fun _ => rfl) hF (fun x5_0 ls hl hF => ?_)
    have L34 : ∀ (n : Nat) (x3_1 : Int) (x5_1 : Int) (σ_1 : kp_W) (k : kp_W → kp_R) (H : Heap) (locs : List Loc) (ls : Array Slot), kp_H X kp_lM 10 s σ_1 H locs → lv_has ls 6 [(0, .ref (kp_ad X 0)), (1, kp_iv a1), (2, kp_iv a2), (3, kp_iv x3_1), (4, kp_iv x4_0), (5, kp_iv x5_1)] → (∀ (σ_2 : kp_W) (H : Heap) (locs : List Loc) (ls : Array Slot), kp_H X kp_lM 10 s σ_2 H locs → lv_has ls 6 [] → k σ_2 = some (r, σ') → W p l e (kp_rm 1) s m args below meth c H locs 0 0 (MQ below (kp_Qv X kp_lM 10 σ') args s 0 0 (kp_A X 10)) (F0 m 89 ls [])) → kl_X10_hums_34 a1 a2 x4_0 n x3_1 x5_1 σ_1 k = some (r, σ') → W p l e (kp_rm 1) s m args below meth c H locs 0 0 (MQ below (kp_Qv X kp_lM 10 σ') args s 0 0 (kp_A X 10)) (F0 m 34 ls []) := by
      intro n
      induction n with
      | zero =>
        intro x3_1 x5_1 σ_1 k H locs ls h hl K hF
        rw [kl_X10_hums_34] at hF
        cases hF
      | succ n ih =>
        intro x3_1 x5_1 σ_1 k H locs ls h hl K hF
        rw [kl_X10_hums_34] at hF
        refine kp_iload C dX10_hums_34 (lv_at hl 5 rfl) ?_
        refine kp_bipush C dX10_hums_36 rfl ?_
        refine kp_icmp_ge (tgt := 89) C dX10_hums_38 (by decide) hF (fun hF => ?_) (fun hF => ?_)
        · exact K _ _ _ _ h (lv_sub hl [] rfl) hF
        · refine kp_aload_n C dX10_hums_41 rfl (lv_at hl 0 rfl) ?_
          refine kp_iconst C dX10_hums_42 ?_
          refine kp_iload C dX10_hums_43 (lv_at hl 5 rfl) ?_
          obtain ⟨r_0, σ_3, hc, hF⟩ := kp_bd_s hF
          refine kp_ci h (kp_rV (k := 0) (As := [kp_iv 2, kp_iv x5_1]) (rest := []) C G h (kc_X10_isOn  hc) q4_223 q4_225 q0_3_14 q1_11 q4_226 ⟨rfl, hd_X10_isOn⟩ (by decide) kp_lM0 rfl rfl hl.1 rfl (Nat.le_of_ble_eq_true rfl) dX10_hums_45) (fun H locs h => ?_)
          refine kp_iload_n C dX10_hums_48 rfl (lv_at hl 2 rfl) ?_
          obtain ⟨j59, ej59, hF⟩ := kp_jn_s hF
          have J59 : ∀ (v_1 : Int), ∀ (H : Heap) (locs : List Loc) (ls : Array Slot), kp_H X kp_lM 10 s σ_3 H locs → lv_has ls 6 [(0, .ref (kp_ad X 0)), (1, kp_iv a1), (2, kp_iv a2), (4, kp_iv x4_0), (5, kp_iv x5_1)] → j59 v_1 = some (r, σ') → W p l e (kp_rm 1) s m args below meth c H locs 0 0 (MQ below (kp_Qv X kp_lM 10 σ') args s 0 0 (kp_A X 10)) (F0 m 59 ls [kp_iv v_1]) := by
            intro v_1 H locs ls h hl hF
            rw [ej59] at hF
            refine kp_istore_n (lv' := fun x3_2 => [(3, kp_iv x3_2), (0, .ref (kp_ad X 0)), (1, kp_iv a1), (2, kp_iv a2), (4, kp_iv x4_0), (5, kp_iv x5_1)]) C dX10_hums_59 rfl hl (by decide) (fun _ => rfl) hF (fun x3_2 ls hl hF => ?_)
            refine kp_aload_n C dX10_hums_60 rfl (lv_at hl 1 rfl) ?_
            refine kp_getr C G h kp_lM0 rfl inWX10 (j := 15) (by decide) q4_59 rfl dX10_hums_61 ?_
            refine kp_bipush C dX10_hums_64 rfl ?_
            refine kp_iload_n C dX10_hums_66 rfl (lv_at hl 2 rfl) ?_
            refine kp_imul C dX10_hums_67 ?_
            refine kp_iload C dX10_hums_68 (lv_at hl 5 rfl) ?_
            refine kp_iadd C dX10_hums_70 ?_
            refine kp_iload_n C dX10_hums_71 rfl (lv_at hl 0 rfl) ?_
            refine kp_iload C dX10_hums_72 (lv_at hl 4 rfl) ?_
            refine kp_icmp_lt (tgt := 81) C dX10_hums_74 (by decide) hF (fun hF => ?_) (fun hF => ?_)
            · refine kp_iconst C dX10_hums_81 ?_
              refine kp_iast C G h (n := 400) kp_lM6 (by decide) dX10_hums_82 hF (fun σ_4 H locs h hF => ?_)
              refine kp_iinc (k := 5) (lv' := fun x5_2 => [(5, kp_iv x5_2), (3, kp_iv x3_2), (0, .ref (kp_ad X 0)), (1, kp_iv a1), (2, kp_iv a2), (4, kp_iv x4_0)]) C dX10_hums_83 hl rfl (by decide) (fun _ => rfl) hF (fun x5_2 ls hl hF => ?_)
              refine kp_goto (tgt := 34) C dX10_hums_86 (by decide) ?_
              exact ih _ _ _ k _ _ _ h (lv_sub hl [2, 3, 4, 1, 5, 0] rfl) K hF
            · refine kp_iconst C dX10_hums_77 ?_
              refine kp_goto (tgt := 82) C dX10_hums_78 (by decide) ?_
              refine kp_iast C G h (n := 400) kp_lM6 (by decide) dX10_hums_82 hF (fun σ_5 H locs h hF => ?_)
              refine kp_iinc (k := 5) (lv' := fun x5_3 => [(5, kp_iv x5_3), (3, kp_iv x3_2), (0, .ref (kp_ad X 0)), (1, kp_iv a1), (2, kp_iv a2), (4, kp_iv x4_0)]) C dX10_hums_83 hl rfl (by decide) (fun _ => rfl) hF (fun x5_3 ls hl hF => ?_)
              refine kp_goto (tgt := 34) C dX10_hums_86 (by decide) ?_
              exact ih _ _ _ k _ _ _ h (lv_sub hl [2, 3, 4, 1, 5, 0] rfl) K hF
          clear ej59
          refine kp_icmp_ne (tgt := 58) C dX10_hums_49 (by decide) hF (fun hF => ?_) (fun hF => ?_)
          · refine kp_iconst C dX10_hums_58 ?_
            exact J59 _ _ _ _ h (lv_sub hl [0, 1, 2, 4, 5] rfl) hF
          · refine kp_iload_n C dX10_hums_52 rfl (lv_at hl 3 rfl) ?_
            refine kp_iconst C dX10_hums_53 ?_
            refine kp_iadd C dX10_hums_54 ?_
            refine kp_goto (tgt := 59) C dX10_hums_55 (by decide) ?_
            exact J59 _ _ _ _ h (lv_sub hl [0, 1, 2, 4, 5] rfl) hF
    refine L34 kp_fu _ _ _ _ _ _ _ h (lv_sub hl [2, 3, 4, 5, 1, 0] rfl) (fun σ_2 H locs ls h hl hF => ?_) hF
    clear L34
    exact kp_retv (v := 0) C hr hlk G h dX10_hums_89 hF
  clear ej29
  refine kp_if_ne (tgt := 19) C dX10_hums_12 (by decide) hF (fun hF => ?_) (fun hF => ?_)
  · refine kp_aload_n C dX10_hums_19 rfl (lv_at hl 1 rfl) ?_
    refine kp_getr C G h kp_lM0 rfl inWX10 (j := 1) (by decide) q4_45 rfl dX10_hums_20 ?_
    refine kp_sipush C dX10_hums_23 rfl ?_
    refine kp_iload_n C dX10_hums_26 rfl (lv_at hl 2 rfl) ?_
    refine kp_iadd C dX10_hums_27 ?_
    refine kp_iald C G h (n := 1066) kp_lM1 (by decide) dX10_hums_28 hF (fun hF => ?_)
    exact J29 _ _ _ _ h (lv_sub hl [1, 2, 3, 0] rfl) hF
  · refine kp_iconst C dX10_hums_15 ?_
    refine kp_goto (tgt := 29) C dX10_hums_16 (by decide) ?_
    exact J29 _ _ _ _ h (lv_sub hl [1, 2, 3, 0] rfl) hF
def kl_X10_plainly_2 (a1 : Int) : Nat → Int → kp_W → (kp_W → kp_R) → kp_R
  | 0, _, _, _ => none
  | n + 1, x2_1, σ_1, k => kp_ls x2_1 40 (kp_bd (kf_X10_looksAt a1 x2_1 σ_1) (fun r_0 σ_3 => kp_eq (σ_3 0 13) 0 (kp_ck (0 ≤ x2_1 ∧ x2_1 ≤ 2147483647 ∧ 0 < (10 : Int) ∧ (10 : Int) ≤ 2147483647) (kp_ck (0 ≤ (270 + a1) ∧ (270 + a1) < 1066) (kp_eq (x2_1 % 10) (σ_3 1 (Int.toNat (270 + a1))) (kp_ck (0 ≤ ((40 * a1) + x2_1) ∧ ((40 * a1) + x2_1) < 400) (kp_lt (kp_up σ_3 6 (Int.toNat ((40 * a1) + x2_1)) 1) (fun σ_6 => kp_lt (x2_1 + 1) (fun x2_4 => kl_X10_plainly_2 a1 n x2_4 σ_6 k)))) (kp_ck (0 ≤ ((40 * a1) + x2_1) ∧ ((40 * a1) + x2_1) < 400) (kp_lt (kp_up σ_3 6 (Int.toNat ((40 * a1) + x2_1)) 0) (fun σ_5 => kp_lt (x2_1 + 1) (fun x2_3 => kl_X10_plainly_2 a1 n x2_3 σ_5 k))))))) (kp_ck (0 ≤ ((40 * a1) + x2_1) ∧ ((40 * a1) + x2_1) < 400) (kp_lt (kp_up σ_3 6 (Int.toNat ((40 * a1) + x2_1)) 0) (fun σ_4 => kp_lt (x2_1 + 1) (fun x2_2 => kl_X10_plainly_2 a1 n x2_2 σ_4 k)))))) (k σ_1)
def kf_X10_plainly  (a1 : Int) (σ_0 : kp_W) : kp_R :=
  kp_lt (0 : Int) (fun x2_0 => kl_X10_plainly_2 a1 kp_fu x2_0 σ_0 (fun (σ_2 : kp_W) => some (0, σ_2)))
set_option maxRecDepth 100000 in
set_option maxHeartbeats 4000000 in
theorem kc_X10_plainly {l : Launch} {X : kp_X} {a1 : Int}  {σ_0 σ' : kp_W} {r : Int}   (hF : (kf_X10_plainly a1 σ_0) = some (r, σ')) : kp_Met l yX10_plainly cX10_plainly 3 none 2 X kp_lM 10 σ_0 [.ref (kp_ad X 0), kp_iv a1] (kp_Qv X kp_lM 10 σ') := by
  refine kp_body pnX10 (Nat.le_of_ble_eq_true rfl) ?_
  intro p e s m args below meth c ls C hr hlk G h hl
  unfold kf_X10_plainly at hF
  have hl : lv_has ls 3 [(0, .ref (kp_ad X 0)), (1, kp_iv a1)] := hl
  refine kp_iconst C dX10_plainly_0 ?_
  refine kp_istore_n (lv' := fun x2_0 => [(2, kp_iv x2_0), (0, .ref (kp_ad X 0)), (1, kp_iv a1)]) C dX10_plainly_1 rfl hl (by decide) (fun _ => rfl) hF (fun x2_0 ls hl hF => ?_)
  have L2 : ∀ (n : Nat) (x2_1 : Int) (σ_1 : kp_W) (k : kp_W → kp_R) (H : Heap) (locs : List Loc) (ls : Array Slot), kp_H X kp_lM 10 s σ_1 H locs → lv_has ls 3 [(0, .ref (kp_ad X 0)), (1, kp_iv a1), (2, kp_iv x2_1)] → (∀ (σ_2 : kp_W) (H : Heap) (locs : List Loc) (ls : Array Slot), kp_H X kp_lM 10 s σ_2 H locs → lv_has ls 3 [] → k σ_2 = some (r, σ') → W p l e (kp_rm 2) s m args below meth c H locs 0 0 (MQ below (kp_Qv X kp_lM 10 σ') args s 0 0 (kp_A X 10)) (F0 m 60 ls [])) → kl_X10_plainly_2 a1 n x2_1 σ_1 k = some (r, σ') → W p l e (kp_rm 2) s m args below meth c H locs 0 0 (MQ below (kp_Qv X kp_lM 10 σ') args s 0 0 (kp_A X 10)) (F0 m 2 ls []) := by
    intro n
    induction n with
    | zero =>
      intro x2_1 σ_1 k H locs ls h hl K hF
      rw [kl_X10_plainly_2] at hF
      cases hF
    | succ n ih =>
      intro x2_1 σ_1 k H locs ls h hl K hF
      rw [kl_X10_plainly_2] at hF
      refine kp_iload_n C dX10_plainly_2 rfl (lv_at hl 2 rfl) ?_
      refine kp_bipush C dX10_plainly_3 rfl ?_
      refine kp_icmp_ge (tgt := 60) C dX10_plainly_5 (by decide) hF (fun hF => ?_) (fun hF => ?_)
      · exact K _ _ _ _ h (lv_sub hl [] rfl) hF
      · refine kp_aload_n C dX10_plainly_8 rfl (lv_at hl 0 rfl) ?_
        refine kp_iload_n C dX10_plainly_9 rfl (lv_at hl 1 rfl) ?_
        refine kp_iload_n C dX10_plainly_10 rfl (lv_at hl 2 rfl) ?_
        obtain ⟨r_0, σ_3, hc, hF⟩ := kp_bd_s hF
        refine kp_cv h (kp_rV (k := 0) (As := [kp_iv a1, kp_iv x2_1]) (rest := []) C G h (kc_X10_looksAt  hc) q5_27 q5_29 q0_4_4 q1_11 q5_30 ⟨rfl, hd_X10_looksAt⟩ (by decide) kp_lM0 rfl rfl hl.1 rfl (Nat.le_of_ble_eq_true rfl) dX10_plainly_11) (fun H locs h => ?_)
        refine kp_aload_n C dX10_plainly_14 rfl (lv_at hl 0 rfl) ?_
        refine kp_getr C G h kp_lM0 rfl inWX10 (j := 15) (by decide) q4_59 rfl dX10_plainly_15 ?_
        refine kp_bipush C dX10_plainly_18 rfl ?_
        refine kp_iload_n C dX10_plainly_20 rfl (lv_at hl 1 rfl) ?_
        refine kp_imul C dX10_plainly_21 ?_
        refine kp_iload_n C dX10_plainly_22 rfl (lv_at hl 2 rfl) ?_
        refine kp_iadd C dX10_plainly_23 ?_
        refine kp_aload_n C dX10_plainly_24 rfl (lv_at hl 0 rfl) ?_
        refine kp_geti C G h kp_lM0 rfl inWX10 (j := 13) (by decide) q4_57 rfl dX10_plainly_25 ?_
        refine kp_if_ne (tgt := 52) C dX10_plainly_28 (by decide) hF (fun hF => ?_) (fun hF => ?_)
        · refine kp_iconst C dX10_plainly_52 ?_
          refine kp_iast C G h (n := 400) kp_lM6 (by decide) dX10_plainly_53 hF (fun σ_4 H locs h hF => ?_)
          refine kp_iinc (k := 2) (lv' := fun x2_2 => [(2, kp_iv x2_2), (0, .ref (kp_ad X 0)), (1, kp_iv a1)]) C dX10_plainly_54 hl rfl (by decide) (fun _ => rfl) hF (fun x2_2 ls hl hF => ?_)
          refine kp_goto (tgt := 2) C dX10_plainly_57 (by decide) ?_
          exact ih _ _ k _ _ _ h (lv_sub hl [1, 2, 0] rfl) K hF
        · refine kp_iload_n C dX10_plainly_31 rfl (lv_at hl 2 rfl) ?_
          refine kp_bipush C dX10_plainly_32 rfl ?_
          refine kp_irem C dX10_plainly_34 hF (fun hF => ?_)
          refine kp_aload_n C dX10_plainly_35 rfl (lv_at hl 0 rfl) ?_
          refine kp_getr C G h kp_lM0 rfl inWX10 (j := 1) (by decide) q4_45 rfl dX10_plainly_36 ?_
          refine kp_sipush C dX10_plainly_39 rfl ?_
          refine kp_iload_n C dX10_plainly_42 rfl (lv_at hl 1 rfl) ?_
          refine kp_iadd C dX10_plainly_43 ?_
          refine kp_iald C G h (n := 1066) kp_lM1 (by decide) dX10_plainly_44 hF (fun hF => ?_)
          refine kp_icmp_ne (tgt := 52) C dX10_plainly_45 (by decide) hF (fun hF => ?_) (fun hF => ?_)
          · refine kp_iconst C dX10_plainly_52 ?_
            refine kp_iast C G h (n := 400) kp_lM6 (by decide) dX10_plainly_53 hF (fun σ_5 H locs h hF => ?_)
            refine kp_iinc (k := 2) (lv' := fun x2_3 => [(2, kp_iv x2_3), (0, .ref (kp_ad X 0)), (1, kp_iv a1)]) C dX10_plainly_54 hl rfl (by decide) (fun _ => rfl) hF (fun x2_3 ls hl hF => ?_)
            refine kp_goto (tgt := 2) C dX10_plainly_57 (by decide) ?_
            exact ih _ _ k _ _ _ h (lv_sub hl [1, 2, 0] rfl) K hF
          · refine kp_iconst C dX10_plainly_48 ?_
            refine kp_goto (tgt := 53) C dX10_plainly_49 (by decide) ?_
            refine kp_iast C G h (n := 400) kp_lM6 (by decide) dX10_plainly_53 hF (fun σ_6 H locs h hF => ?_)
            refine kp_iinc (k := 2) (lv' := fun x2_4 => [(2, kp_iv x2_4), (0, .ref (kp_ad X 0)), (1, kp_iv a1)]) C dX10_plainly_54 hl rfl (by decide) (fun _ => rfl) hF (fun x2_4 ls hl hF => ?_)
            refine kp_goto (tgt := 2) C dX10_plainly_57 (by decide) ?_
            exact ih _ _ k _ _ _ h (lv_sub hl [1, 2, 0] rfl) K hF
  refine L2 kp_fu _ _ _ _ _ _ h (lv_sub hl [1, 2, 0] rfl) (fun σ_2 H locs ls h hl hF => ?_) hF
  clear L2
  exact kp_retv (v := 0) C hr hlk G h dX10_plainly_60 hF
def kf_X10_goesOf  (a1 : Int) (σ_0 : kp_W) : kp_R :=
  kp_ck (0 ≤ (250 + a1) ∧ (250 + a1) < 1066) (kp_jn (fun (σ_1 : kp_W) => kp_bd (kf_X10_ticks a1 σ_1) (fun r_0 σ_2 => some (0, σ_2))) (fun j48 => kp_jn (fun (σ_3 : kp_W) => kp_bd (kf_X10_strikesBy a1 σ_3) (fun r_1 σ_4 => some (0, σ_4))) (fun j56 => kp_eq (σ_0 1 (Int.toNat (250 + a1))) 1 (j48 σ_0) (kp_eq (σ_0 1 (Int.toNat (250 + a1))) 2 (j56 σ_0) (kp_eq (σ_0 1 (Int.toNat (250 + a1))) 3 (kp_bd (kf_X10_hums a1 1 σ_0) (fun r_2 σ_5 => some (0, σ_5))) (kp_eq (σ_0 1 (Int.toNat (250 + a1))) 4 (j48 σ_0) (kp_eq (σ_0 1 (Int.toNat (250 + a1))) 5 (j56 σ_0) (kp_eq (σ_0 1 (Int.toNat (250 + a1))) 6 (kp_bd (kf_X10_hums a1 0 σ_0) (fun r_3 σ_6 => some (0, σ_6))) (kp_bd (kf_X10_plainly a1 σ_0) (fun r_4 σ_7 => some (0, σ_7)))))))))))
set_option maxRecDepth 100000 in
set_option maxHeartbeats 4000000 in
theorem kc_X10_goesOf {l : Launch} {X : kp_X} {a1 : Int}  {σ_0 σ' : kp_W} {r : Int}   (hF : (kf_X10_goesOf a1 σ_0) = some (r, σ')) : kp_Met l yX10_goesOf cX10_goesOf 2 none 4 X kp_lM 10 σ_0 [.ref (kp_ad X 0), kp_iv a1] (kp_Qv X kp_lM 10 σ') := by
  refine kp_body pnX10 (Nat.le_of_ble_eq_true rfl) ?_
  intro p e s m args below meth c ls C hr hlk G h hl
  unfold kf_X10_goesOf at hF
  have hl : lv_has ls 2 [(0, .ref (kp_ad X 0)), (1, kp_iv a1)] := hl
  refine kp_aload_n C dX10_goesOf_0 rfl (lv_at hl 0 rfl) ?_
  refine kp_getr C G h kp_lM0 rfl inWX10 (j := 1) (by decide) q4_45 rfl dX10_goesOf_1 ?_
  refine kp_sipush C dX10_goesOf_4 rfl ?_
  refine kp_iload_n C dX10_goesOf_7 rfl (lv_at hl 1 rfl) ?_
  refine kp_iadd C dX10_goesOf_8 ?_
  refine kp_iald C G h (n := 1066) kp_lM1 (by decide) dX10_goesOf_9 hF (fun hF => ?_)
  obtain ⟨j48, ej48, hF⟩ := kp_jn_s hF
  have J48 : ∀ (σ_1 : kp_W), ∀ (H : Heap) (locs : List Loc) (ls : Array Slot), kp_H X kp_lM 10 s σ_1 H locs → lv_has ls 2 [(0, .ref (kp_ad X 0)), (1, kp_iv a1)] → j48 σ_1 = some (r, σ') → W p l e (kp_rm 4) s m args below meth c H locs 0 0 (MQ below (kp_Qv X kp_lM 10 σ') args s 0 0 (kp_A X 10)) (F0 m 48 ls []) := by
    intro σ_1 H locs ls h hl hF
    rw [ej48] at hF
    refine kp_aload_n C dX10_goesOf_48 rfl (lv_at hl 0 rfl) ?_
    refine kp_iload_n C dX10_goesOf_49 rfl (lv_at hl 1 rfl) ?_
    obtain ⟨r_0, σ_2, hc, hF⟩ := kp_bd_s hF
    refine kp_cv h (kp_rV (k := 0) (As := [kp_iv a1]) (rest := []) C G h (kc_X10_ticks  hc) q5_19 q5_21 q0_4_2 q1_11 q5_22 ⟨rfl, hd_X10_ticks⟩ (by decide) kp_lM0 rfl rfl hl.1 rfl (Nat.le_of_ble_eq_true rfl) dX10_goesOf_50) (fun H locs h => ?_)
    refine kp_goto (tgt := 87) C dX10_goesOf_53 (by decide) ?_
    exact kp_retv (v := 0) C hr hlk G h dX10_goesOf_87 hF
  clear ej48
  obtain ⟨j56, ej56, hF⟩ := kp_jn_s hF
  have J56 : ∀ (σ_3 : kp_W), ∀ (H : Heap) (locs : List Loc) (ls : Array Slot), kp_H X kp_lM 10 s σ_3 H locs → lv_has ls 2 [(0, .ref (kp_ad X 0)), (1, kp_iv a1)] → j56 σ_3 = some (r, σ') → W p l e (kp_rm 4) s m args below meth c H locs 0 0 (MQ below (kp_Qv X kp_lM 10 σ') args s 0 0 (kp_A X 10)) (F0 m 56 ls []) := by
    intro σ_3 H locs ls h hl hF
    rw [ej56] at hF
    refine kp_aload_n C dX10_goesOf_56 rfl (lv_at hl 0 rfl) ?_
    refine kp_iload_n C dX10_goesOf_57 rfl (lv_at hl 1 rfl) ?_
    obtain ⟨r_1, σ_4, hc, hF⟩ := kp_bd_s hF
    refine kp_cv h (kp_rV (k := 0) (As := [kp_iv a1]) (rest := []) C G h (kc_X10_strikesBy  hc) q5_34 q5_36 q0_4_5 q1_11 q5_37 ⟨rfl, hd_X10_strikesBy⟩ (by decide) kp_lM0 rfl rfl hl.1 rfl (Nat.le_of_ble_eq_true rfl) dX10_goesOf_58) (fun H locs h => ?_)
    refine kp_goto (tgt := 87) C dX10_goesOf_61 (by decide) ?_
    exact kp_retv (v := 0) C hr hlk G h dX10_goesOf_87 hF
  clear ej56
  obtain ⟨hx, -, ha, hb⟩ := kp_eq_s hF
  by_cases q0 : (σ_0 1 (Int.toNat (250 + a1))) = 1
  · have hF := ha q0
    clear ha hb
    refine kp_tabIn (v := 1) (tgt := 48) C dX10_goesOf_10 q0 (by decide) rfl (by decide) ?_
    exact J48 _ _ _ _ h (lv_sub hl [0, 1] rfl) hF
  · have hF := hb q0
    clear ha hb
    obtain ⟨hx, -, ha, hb⟩ := kp_eq_s hF
    by_cases q1 : (σ_0 1 (Int.toNat (250 + a1))) = 2
    · have hF := ha q1
      clear ha hb
      refine kp_tabIn (v := 2) (tgt := 56) C dX10_goesOf_10 q1 (by decide) rfl (by decide) ?_
      exact J56 _ _ _ _ h (lv_sub hl [0, 1] rfl) hF
    · have hF := hb q1
      clear ha hb
      obtain ⟨hx, -, ha, hb⟩ := kp_eq_s hF
      by_cases q2 : (σ_0 1 (Int.toNat (250 + a1))) = 3
      · have hF := ha q2
        clear ha hb
        refine kp_tabIn (v := 3) (tgt := 64) C dX10_goesOf_10 q2 (by decide) rfl (by decide) ?_
        refine kp_aload_n C dX10_goesOf_64 rfl (lv_at hl 0 rfl) ?_
        refine kp_iload_n C dX10_goesOf_65 rfl (lv_at hl 1 rfl) ?_
        refine kp_iconst C dX10_goesOf_66 ?_
        obtain ⟨r_2, σ_5, hc, hF⟩ := kp_bd_s hF
        refine kp_cv h (kp_rV (k := 0) (As := [kp_iv a1, kp_iv 1]) (rest := []) C G h (kc_X10_hums  hc) q5_38 q5_40 q0_4_6 q1_11 q5_41 ⟨rfl, hd_X10_hums⟩ (by decide) kp_lM0 rfl rfl hl.1 rfl (Nat.le_of_ble_eq_true rfl) dX10_goesOf_67) (fun H locs h => ?_)
        refine kp_goto (tgt := 87) C dX10_goesOf_70 (by decide) ?_
        exact kp_retv (v := 0) C hr hlk G h dX10_goesOf_87 hF
      · have hF := hb q2
        clear ha hb
        obtain ⟨hx, -, ha, hb⟩ := kp_eq_s hF
        by_cases q3 : (σ_0 1 (Int.toNat (250 + a1))) = 4
        · have hF := ha q3
          clear ha hb
          refine kp_tabIn (v := 4) (tgt := 48) C dX10_goesOf_10 q3 (by decide) rfl (by decide) ?_
          exact J48 _ _ _ _ h (lv_sub hl [0, 1] rfl) hF
        · have hF := hb q3
          clear ha hb
          obtain ⟨hx, -, ha, hb⟩ := kp_eq_s hF
          by_cases q4 : (σ_0 1 (Int.toNat (250 + a1))) = 5
          · have hF := ha q4
            clear ha hb
            refine kp_tabIn (v := 5) (tgt := 56) C dX10_goesOf_10 q4 (by decide) rfl (by decide) ?_
            exact J56 _ _ _ _ h (lv_sub hl [0, 1] rfl) hF
          · have hF := hb q4
            clear ha hb
            obtain ⟨hx, -, ha, hb⟩ := kp_eq_s hF
            by_cases q5 : (σ_0 1 (Int.toNat (250 + a1))) = 6
            · have hF := ha q5
              clear ha hb
              refine kp_tabIn (v := 6) (tgt := 73) C dX10_goesOf_10 q5 (by decide) rfl (by decide) ?_
              refine kp_aload_n C dX10_goesOf_73 rfl (lv_at hl 0 rfl) ?_
              refine kp_iload_n C dX10_goesOf_74 rfl (lv_at hl 1 rfl) ?_
              refine kp_iconst C dX10_goesOf_75 ?_
              obtain ⟨r_3, σ_6, hc, hF⟩ := kp_bd_s hF
              refine kp_cv h (kp_rV (k := 0) (As := [kp_iv a1, kp_iv 0]) (rest := []) C G h (kc_X10_hums  hc) q5_38 q5_40 q0_4_6 q1_11 q5_41 ⟨rfl, hd_X10_hums⟩ (by decide) kp_lM0 rfl rfl hl.1 rfl (Nat.le_of_ble_eq_true rfl) dX10_goesOf_76) (fun H locs h => ?_)
              refine kp_goto (tgt := 87) C dX10_goesOf_79 (by decide) ?_
              exact kp_retv (v := 0) C hr hlk G h dX10_goesOf_87 hF
            · have hF := hb q5
              clear ha hb
              refine kp_tabOut (tgt := 82) C dX10_goesOf_10 hx (by omega) (by decide) ?_
              refine kp_aload_n C dX10_goesOf_82 rfl (lv_at hl 0 rfl) ?_
              refine kp_iload_n C dX10_goesOf_83 rfl (lv_at hl 1 rfl) ?_
              obtain ⟨r_4, σ_7, hc, hF⟩ := kp_bd_s hF
              refine kp_cv h (kp_rV (k := 0) (As := [kp_iv a1]) (rest := []) C G h (kc_X10_plainly  hc) q5_42 q5_44 q0_4_7 q1_11 q5_45 ⟨rfl, hd_X10_plainly⟩ (by decide) kp_lM0 rfl rfl hl.1 rfl (Nat.le_of_ble_eq_true rfl) dX10_goesOf_84) (fun H locs h => ?_)
              exact kp_retv (v := 0) C hr hlk G h dX10_goesOf_87 hF
