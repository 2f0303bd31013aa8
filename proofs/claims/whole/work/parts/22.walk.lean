-- by program (wip/whole/gen/drive.py)
def kl_X5_oneOf_7 (a1 : Nat) (σ_1 : kp_W) (x2_0 : Int) : Nat → Int → (Int → kp_R) → kp_R
  | 0, _, _ => none
  | n + 1, x3_1, k => kp_ls x3_1 (kp_slen a1) (kp_ck (0 ≤ x3_1 ∧ x3_1 < kp_slen a1) (kp_eq (kp_sch a1 x3_1) x2_0 (k x3_1) (kp_lt (x3_1 + 1) (fun x3_3 => kl_X5_oneOf_7 a1 σ_1 x2_0 n x3_3 k)))) (some ((-1), σ_1))
def kf_X5_oneOf  (a1 : Nat) (σ_0 : kp_W) : kp_R :=
  kp_bd (kf_X5_peek σ_0) (fun r_0 σ_1 => kp_lt (r_0 : Int) (fun x2_0 => kp_lt (0 : Int) (fun x3_0 => kl_X5_oneOf_7 a1 σ_1 x2_0 kp_fu x3_0 (fun (x3_2 : Int) => kp_lt (kp_up σ_1 39 2 ((σ_1 39 2) + 1)) (fun σ_2 => some (x3_2, σ_2))))))
set_option maxRecDepth 100000 in
set_option maxHeartbeats 4000000 in
theorem kc_X5_oneOf {l : Launch} {X : kp_X} {a1 : Nat}  {σ_0 σ' : kp_W} {r : Int} (h1 : a1 < 10)  (hF : (kf_X5_oneOf a1 σ_0) = some (r, σ')) : kp_Met l yX5_oneOf cX5_oneOf 4 (some .int) 5 X kp_lK 55 σ_0 [.ref (kp_ad X 39), .ref (kp_sK X a1)] (kp_Qi X kp_lK 55 σ' r) := by
  refine kp_body pnX5 (Nat.le_of_ble_eq_true rfl) ?_
  intro p e s m args below meth c ls C hr hlk G h hl
  unfold kf_X5_oneOf at hF
  have hl : lv_has ls 4 [(0, .ref (kp_ad X 39)), (1, .ref (kp_sK X a1))] := hl
  refine kp_aload_n C dX5_oneOf_0 rfl (lv_at hl 0 rfl) ?_
  obtain ⟨r_0, σ_1, hc, hF⟩ := kp_bd_s hF
  refine kp_ci h (kp_rV (k := 39) (As := []) (rest := []) C G h (kc_X5_peek  hc) q2_119 q2_121 q0_1_2 q1_8 q2_122 ⟨rfl, hd_X5_peek⟩ (by decide) kp_lK39 rfl rfl hl.1 rfl (Nat.le_of_ble_eq_true rfl) dX5_oneOf_1) (fun H locs h => ?_)
  refine kp_istore_n (lv' := fun x2_0 => [(2, kp_iv x2_0), (0, .ref (kp_ad X 39)), (1, .ref (kp_sK X a1))]) C dX5_oneOf_4 rfl hl (by decide) (fun _ => rfl) hF (fun x2_0 ls hl hF => ?_)
  refine kp_iconst C dX5_oneOf_5 ?_
  refine kp_istore_n (lv' := fun x3_0 => [(3, kp_iv x3_0), (2, kp_iv x2_0), (0, .ref (kp_ad X 39)), (1, .ref (kp_sK X a1))]) C dX5_oneOf_6 rfl hl (by decide) (fun _ => rfl) hF (fun x3_0 ls hl hF => ?_)
  have L7 : ∀ (n : Nat) (x3_1 : Int) (k : Int → kp_R) (H : Heap) (locs : List Loc) (ls : Array Slot), kp_H X kp_lK 55 s σ_1 H locs → lv_has ls 4 [(0, .ref (kp_ad X 39)), (1, .ref (kp_sK X a1)), (2, kp_iv x2_0), (3, kp_iv x3_1)] → (∀ (x3_2 : Int) (H : Heap) (locs : List Loc) (ls : Array Slot), kp_H X kp_lK 55 s σ_1 H locs → lv_has ls 4 [(0, .ref (kp_ad X 39)), (3, kp_iv x3_2)] → k x3_2 = some (r, σ') → W p l e (kp_rm 5) s m args below meth c H locs 0 0 (MQ below (kp_Qi X kp_lK 55 σ' r) args s 0 0 (kp_A X 55)) (F0 m 27 ls [])) → kl_X5_oneOf_7 a1 σ_1 x2_0 n x3_1 k = some (r, σ') → W p l e (kp_rm 5) s m args below meth c H locs 0 0 (MQ below (kp_Qi X kp_lK 55 σ' r) args s 0 0 (kp_A X 55)) (F0 m 7 ls []) := by
    intro n
    induction n with
    | zero =>
      intro x3_1 k H locs ls h hl K hF
      rw [kl_X5_oneOf_7] at hF
      cases hF
    | succ n ih =>
      intro x3_1 k H locs ls h hl K hF
      rw [kl_X5_oneOf_7] at hF
      refine kp_iload_n C dX5_oneOf_7 rfl (lv_at hl 3 rfl) ?_
      refine kp_aload_n C dX5_oneOf_8 rfl (lv_at hl 1 rfl) ?_
      refine kp_ci h (kp_rT (i := a1) (As := []) (rest := [kp_iv x3_1]) C G h h1 (kc_length h1) q2_148 q2_149 q2_150 q1_13 q2_151 hd_J0_length_8abf5 (by decide) rfl hl.1 rfl (Nat.le_of_ble_eq_true rfl) dX5_oneOf_9) (fun H locs h => ?_)
      refine kp_icmp_ge (tgt := 45) C dX5_oneOf_12 (by decide) hF (fun hF => ?_) (fun hF => ?_)
      · refine kp_iconst C dX5_oneOf_45 ?_
        exact kp_reti C hr hlk G h dX5_oneOf_46 hF
      · refine kp_aload_n C dX5_oneOf_15 rfl (lv_at hl 1 rfl) ?_
        refine kp_iload_n C dX5_oneOf_16 rfl (lv_at hl 3 rfl) ?_
        obtain ⟨hcc, hF⟩ := kp_ck_s hF
        refine kp_ci h (kp_rT (i := a1) (As := [kp_iv x3_1]) (rest := []) C G h h1 (kc_charAt h1 hcc) q2_79 q2_80 q2_81 q1_13 q2_82 hd_J0_charAt_5068e (by decide) rfl hl.1 rfl (Nat.le_of_ble_eq_true rfl) dX5_oneOf_17) (fun H locs h => ?_)
        refine kp_iload_n C dX5_oneOf_20 rfl (lv_at hl 2 rfl) ?_
        refine kp_icmp_eq (tgt := 27) C dX5_oneOf_21 (by decide) hF (fun hF => ?_) (fun hF => ?_)
        · exact K _ _ _ _ h (lv_sub hl [0, 3] rfl) hF
        · refine kp_goto (tgt := 39) C dX5_oneOf_24 (by decide) ?_
          refine kp_iinc (k := 3) (lv' := fun x3_3 => [(3, kp_iv x3_3), (0, .ref (kp_ad X 39)), (1, .ref (kp_sK X a1)), (2, kp_iv x2_0)]) C dX5_oneOf_39 hl rfl (by decide) (fun _ => rfl) hF (fun x3_3 ls hl hF => ?_)
          refine kp_goto (tgt := 7) C dX5_oneOf_42 (by decide) ?_
          exact ih _ k _ _ _ h (lv_sub hl [1, 2, 3, 0] rfl) K hF
  refine L7 kp_fu _ _ _ _ _ h (lv_sub hl [2, 3, 1, 0] rfl) (fun x3_2 H locs ls h hl hF => ?_) hF
  clear L7
  refine kp_aload_n C dX5_oneOf_27 rfl (lv_at hl 0 rfl) ?_
  refine kp_dup C dX5_oneOf_28 rfl ?_
  refine kp_geti C G h kp_lK39 rfl inWX5 (j := 2) (by decide) q1_193 rfl dX5_oneOf_29 ?_
  refine kp_iconst C dX5_oneOf_32 ?_
  refine kp_iadd C dX5_oneOf_33 ?_
  refine kp_puti C G h kp_lK39 rfl inWX5 tyX5 tyX5_ok nmX5 (j := 2) (by decide) q1_193 rfl rfl (by decide +kernel) dX5_oneOf_34 hF (fun σ_2 H locs h hF => ?_)
  refine kp_iload_n C dX5_oneOf_37 rfl (lv_at hl 1 rfl) ?_
  exact kp_reti C hr hlk G h dX5_oneOf_38 hF
def kf_X8_code  (a1 : Int) (a2 : Int) (a3 : Int) (σ_0 : kp_W) : kp_R :=
  some (((((a1 * 3) + a2) * 100) + a3), σ_0)
set_option maxRecDepth 100000 in
set_option maxHeartbeats 4000000 in
theorem kc_X8_code {l : Launch} {X : kp_X} {a1 : Int} {a2 : Int} {a3 : Int}  {σ_0 σ' : kp_W} {r : Int}   (hF : (kf_X8_code a1 a2 a3 σ_0) = some (r, σ')) : kp_Met l yX8_code cX8_code 3 (some .int) 0 X kp_lK 55 σ_0 [kp_iv a1, kp_iv a2, kp_iv a3] (kp_Qi X kp_lK 55 σ' r) := by
  refine kp_body pnX8 (Nat.le_of_ble_eq_true rfl) ?_
  intro p e s m args below meth c ls C hr hlk G h hl
  unfold kf_X8_code at hF
  have hl : lv_has ls 3 [(0, kp_iv a1), (1, kp_iv a2), (2, kp_iv a3)] := hl
  refine kp_iload_n C dX8_code_0 rfl (lv_at hl 0 rfl) ?_
  refine kp_iconst C dX8_code_1 ?_
  refine kp_imul C dX8_code_2 ?_
  refine kp_iload_n C dX8_code_3 rfl (lv_at hl 1 rfl) ?_
  refine kp_iadd C dX8_code_4 ?_
  refine kp_bipush C dX8_code_5 rfl ?_
  refine kp_imul C dX8_code_7 ?_
  refine kp_iload_n C dX8_code_8 rfl (lv_at hl 2 rfl) ?_
  refine kp_iadd C dX8_code_9 ?_
  exact kp_reti C hr hlk G h dX8_code_10 hF
def kf_X5_test   (σ_0 : kp_W) : kp_R :=
  kp_bd (kf_X5_oneOf 0 σ_0) (fun r_0 σ_1 => kp_lt (r_0 : Int) (fun x1_0 => kp_ls x1_0 0 (some (0, σ_1)) (kp_bd (kf_X5_oneOf 1 σ_1) (fun r_1 σ_2 => kp_lt (r_1 : Int) (fun x2_0 => kp_ls x2_0 0 (some (0, σ_2)) (kp_bd (kf_X5_number σ_2) (fun r_2 σ_3 => kp_lt (r_2 : Int) (fun x3_0 => kp_ls x3_0 0 (some (0, σ_3)) (kp_bd (kf_X8_code x1_0 x2_0 x3_0 σ_3) (fun r_3 σ_4 => kp_bd (kf_X2_put r_3 σ_4) (fun r_4 σ_5 => some (1, σ_5))))))))))))
set_option maxRecDepth 100000 in
set_option maxHeartbeats 4000000 in
theorem kc_X5_test {l : Launch} {X : kp_X}  {σ_0 σ' : kp_W} {r : Int}   (hF : (kf_X5_test σ_0) = some (r, σ')) : kp_Met l yX5_test cX5_test 4 (some .boolean) 6 X kp_lK 55 σ_0 [.ref (kp_ad X 39)] (kp_Qi X kp_lK 55 σ' r) := by
  refine kp_body pnX5 (Nat.le_of_ble_eq_true rfl) ?_
  intro p e s m args below meth c ls C hr hlk G h hl
  unfold kf_X5_test at hF
  have hl : lv_has ls 4 [(0, .ref (kp_ad X 39))] := hl
  refine kp_aload_n C dX5_test_0 rfl (lv_at hl 0 rfl) ?_
  refine kp_ldcS (tx := "npkvt") (i := 0) C G (by decide +kernel) dX5_test_1 ?_
  obtain ⟨r_0, σ_1, hc, hF⟩ := kp_bd_s hF
  refine kp_ci h (kp_rV (k := 39) (As := [.ref (kp_sK X 0)]) (rest := []) C G h (kc_X5_oneOf (by decide) hc) q2_144 q2_146 q0_1_8 q1_8 q2_147 ⟨rfl, hd_X5_oneOf⟩ (by decide) kp_lK39 rfl rfl hl.1 rfl (Nat.le_of_ble_eq_true rfl) dX5_test_3) (fun H locs h => ?_)
  refine kp_istore_n (lv' := fun x1_0 => [(1, kp_iv x1_0), (0, .ref (kp_ad X 39))]) C dX5_test_6 rfl hl (by decide) (fun _ => rfl) hF (fun x1_0 ls hl hF => ?_)
  refine kp_iload_n C dX5_test_7 rfl (lv_at hl 0 rfl) ?_
  refine kp_if_ge (tgt := 13) C dX5_test_8 (by decide) hF (fun hF => ?_) (fun hF => ?_)
  · refine kp_aload_n C dX5_test_13 rfl (lv_at hl 1 rfl) ?_
    refine kp_ldcS (tx := "<=>") (i := 1) C G (by decide +kernel) dX5_test_14 ?_
    obtain ⟨r_1, σ_2, hc, hF⟩ := kp_bd_s hF
    refine kp_ci h (kp_rV (k := 39) (As := [.ref (kp_sK X 1)]) (rest := []) C G h (kc_X5_oneOf (by decide) hc) q2_144 q2_146 q0_1_8 q1_8 q2_147 ⟨rfl, hd_X5_oneOf⟩ (by decide) kp_lK39 rfl rfl hl.1 rfl (Nat.le_of_ble_eq_true rfl) dX5_test_16) (fun H locs h => ?_)
    refine kp_istore_n (lv' := fun x2_0 => [(2, kp_iv x2_0), (1, kp_iv x1_0), (0, .ref (kp_ad X 39))]) C dX5_test_19 rfl hl (by decide) (fun _ => rfl) hF (fun x2_0 ls hl hF => ?_)
    refine kp_iload_n C dX5_test_20 rfl (lv_at hl 0 rfl) ?_
    refine kp_if_ge (tgt := 26) C dX5_test_21 (by decide) hF (fun hF => ?_) (fun hF => ?_)
    · refine kp_aload_n C dX5_test_26 rfl (lv_at hl 2 rfl) ?_
      obtain ⟨r_2, σ_3, hc, hF⟩ := kp_bd_s hF
      refine kp_ci h (kp_rV (k := 39) (As := []) (rest := []) C G h (kc_X5_number  hc) q2_127 q2_129 q0_1_4 q1_8 q2_130 ⟨rfl, hd_X5_number⟩ (by decide) kp_lK39 rfl rfl hl.1 rfl (Nat.le_of_ble_eq_true rfl) dX5_test_27) (fun H locs h => ?_)
      refine kp_istore_n (lv' := fun x3_0 => [(3, kp_iv x3_0), (2, kp_iv x2_0), (1, kp_iv x1_0), (0, .ref (kp_ad X 39))]) C dX5_test_30 rfl hl (by decide) (fun _ => rfl) hF (fun x3_0 ls hl hF => ?_)
      refine kp_iload_n C dX5_test_31 rfl (lv_at hl 0 rfl) ?_
      refine kp_if_ge (tgt := 37) C dX5_test_32 (by decide) hF (fun hF => ?_) (fun hF => ?_)
      · refine kp_aload_n C dX5_test_37 rfl (lv_at hl 3 rfl) ?_
        refine kp_getr C G h kp_lK39 rfl inWX5 (j := 0) (by decide) q1_190 rfl dX5_test_38 ?_
        refine kp_iload_n C dX5_test_41 rfl (lv_at hl 2 rfl) ?_
        refine kp_iload_n C dX5_test_42 rfl (lv_at hl 1 rfl) ?_
        refine kp_iload_n C dX5_test_43 rfl (lv_at hl 0 rfl) ?_
        obtain ⟨r_3, σ_4, hc, hF⟩ := kp_bd_s hF
        refine kp_ci h (kp_rS (As := [kp_iv x1_0, kp_iv x2_0, kp_iv x3_0]) (rest := [.ref (kp_ad X 40)]) C G h (kc_X8_code  hc) q2_157 q2_158 q1_17 q2_159 hd_X8_code (by decide) rfl hl.1 rfl (Nat.le_of_ble_eq_true rfl) dX5_test_44) (fun H locs h => ?_)
        obtain ⟨r_4, σ_5, hc, hF⟩ := kp_bd_s hF
        refine kp_cv h (kp_rV (k := 40) (As := [kp_iv r_3]) (rest := []) C G h (kc_X2_put  hc) q2_160 q2_161 q2_162 q1_4 q2_163 ⟨rfl, hd_X2_put⟩ (by decide) kp_lK40 rfl rfl hl.1 rfl (Nat.le_of_ble_eq_true rfl) dX5_test_47) (fun H locs h => ?_)
        refine kp_iconst C dX5_test_50 ?_
        exact kp_retz C hr hlk G h dX5_test_51 (kp_ck_i (by decide) hF)
      · refine kp_iconst C dX5_test_35 ?_
        exact kp_retz C hr hlk G h dX5_test_36 (kp_ck_i (by decide) hF)
    · refine kp_iconst C dX5_test_24 ?_
      exact kp_retz C hr hlk G h dX5_test_25 (kp_ck_i (by decide) hF)
  · refine kp_iconst C dX5_test_11 ?_
    exact kp_retz C hr hlk G h dX5_test_12 (kp_ck_i (by decide) hF)
def kl_X5_factor_4  : Nat → Int → Int → kp_W → (Int → Int → kp_W → kp_R) → kp_R
  | 0, _, _, _, _ => none
  | n + 1, x2_1, x3_1, σ_1, k => kp_ls x2_1 5 (kp_bd (kf_X5_eats 33 σ_1) (fun r_5 σ_10 => kp_eq r_5 0 (k x2_1 x3_1 σ_10) (kp_eq x3_1 0 (kp_lt (1 : Int) (fun x3_4 => kp_lt (x2_1 + 1) (fun x2_4 => kl_X5_factor_4 n x2_4 x3_4 σ_10 k))) (kp_lt (0 : Int) (fun x3_3 => kp_lt (x2_1 + 1) (fun x2_3 => kl_X5_factor_4 n x2_3 x3_3 σ_10 k)))))) (k x2_1 x3_1 σ_1)
def kf_X5_factor (eit : Int → kp_W → kp_R) (a1 : Int) (σ_0 : kp_W) : kp_R :=
  kp_lt (a1 : Int) (fun x2_0 => kp_lt (0 : Int) (fun x3_0 => kl_X5_factor_4 kp_fu x2_0 x3_0 σ_0 (fun (x2_2 : Int) (x3_2 : Int) (σ_2 : kp_W) => kp_jn (fun (σ_3 : kp_W) => kp_eq x3_2 0 (some (1, σ_3)) (kp_bd (kf_X2_put (-1) σ_3) (fun r_0 σ_4 => some (1, σ_4)))) (fun j78 => kp_jn (fun (σ_5 : kp_W) => kp_bd (kf_X5_test σ_5) (fun r_1 σ_6 => kp_eq r_1 0 (some (0, σ_6)) (j78 σ_6))) (fun j69 => kp_ls x2_2 5 (kp_bd (kf_X5_eats 40 σ_2) (fun r_2 σ_7 => kp_eq r_2 0 (j69 σ_7) (kp_bd (eit (x2_2 + 1) σ_7) (fun r_3 σ_8 => kp_eq r_3 0 (some (0, σ_8)) (kp_bd (kf_X5_eats 41 σ_8) (fun r_4 σ_9 => kp_eq r_4 0 (some (0, σ_9)) (j78 σ_9))))))) (j69 σ_2))))))
set_option maxRecDepth 100000 in
set_option maxHeartbeats 4000000 in
theorem kc_X5_factor {l : Launch} {X : kp_X} {D : Nat} {a1 : Int} {eit : Int → kp_W → kp_R} {σ_0 σ' : kp_W} {r : Int}  (hD : 7 ≤ D) {D0 : Nat} (eD0 : D0 + 1 ≤ D) (heit : ∀ (b0 : Int) (σ σ' : kp_W) (r : Int), eit b0 σ = some (r, σ') → kp_Met l yX5_either cX5_either 5 (some .boolean) D0 X kp_lK 55 σ [.ref (kp_ad X 39), kp_iv b0] (kp_Qi X kp_lK 55 σ' r)) (hF : (kf_X5_factor eit a1 σ_0) = some (r, σ')) : kp_Met l yX5_factor cX5_factor 4 (some .boolean) D X kp_lK 55 σ_0 [.ref (kp_ad X 39), kp_iv a1] (kp_Qi X kp_lK 55 σ' r) := by
  refine kp_body pnX5 (Nat.le_of_ble_eq_true rfl) ?_
  intro p e s m args below meth c ls C hr hlk G h hl
  unfold kf_X5_factor at hF
  have hl : lv_has ls 4 [(0, .ref (kp_ad X 39)), (1, kp_iv a1)] := hl
  refine kp_iload_n C dX5_factor_0 rfl (lv_at hl 1 rfl) ?_
  refine kp_istore_n (lv' := fun x2_0 => [(2, kp_iv x2_0), (0, .ref (kp_ad X 39)), (1, kp_iv a1)]) C dX5_factor_1 rfl hl (by decide) (fun _ => rfl) hF (fun x2_0 ls hl hF => ?_)
  refine kp_iconst C dX5_factor_2 ?_
  refine kp_istore_n (lv' := fun x3_0 => [(3, kp_iv x3_0), (2, kp_iv x2_0), (0, .ref (kp_ad X 39)), (1, kp_iv a1)]) C dX5_factor_3 rfl hl (by decide) (fun _ => rfl) hF (fun x3_0 ls hl hF => ?_)
  have L4 : ∀ (n : Nat) (x2_1 : Int) (x3_1 : Int) (σ_1 : kp_W) (k : Int → Int → kp_W → kp_R) (H : Heap) (locs : List Loc) (ls : Array Slot), kp_H X kp_lK 55 s σ_1 H locs → lv_has ls 4 [(0, .ref (kp_ad X 39)), (2, kp_iv x2_1), (3, kp_iv x3_1)] → (∀ (x2_2 : Int) (x3_2 : Int) (σ_2 : kp_W) (H : Heap) (locs : List Loc) (ls : Array Slot), kp_H X kp_lK 55 s σ_2 H locs → lv_has ls 4 [(0, .ref (kp_ad X 39)), (2, kp_iv x2_2), (3, kp_iv x3_2)] → k x2_2 x3_2 σ_2 = some (r, σ') → W p l e (kp_rm D) s m args below meth c H locs 0 0 (MQ below (kp_Qi X kp_lK 55 σ' r) args s 0 0 (kp_A X 55)) (F0 m 34 ls [])) → kl_X5_factor_4 n x2_1 x3_1 σ_1 k = some (r, σ') → W p l e (kp_rm D) s m args below meth c H locs 0 0 (MQ below (kp_Qi X kp_lK 55 σ' r) args s 0 0 (kp_A X 55)) (F0 m 4 ls []) := by
    intro n
    induction n with
    | zero =>
      intro x2_1 x3_1 σ_1 k H locs ls h hl K hF
      rw [kl_X5_factor_4] at hF
      cases hF
    | succ n ih =>
      intro x2_1 x3_1 σ_1 k H locs ls h hl K hF
      rw [kl_X5_factor_4] at hF
      refine kp_iload_n C dX5_factor_4 rfl (lv_at hl 1 rfl) ?_
      refine kp_iconst C dX5_factor_5 ?_
      refine kp_icmp_ge (tgt := 34) C dX5_factor_6 (by decide) hF (fun hF => ?_) (fun hF => ?_)
      · exact K _ _ _ _ _ _ h (lv_sub hl [0, 1, 2] rfl) hF
      · refine kp_aload_n C dX5_factor_9 rfl (lv_at hl 0 rfl) ?_
        refine kp_bipush C dX5_factor_10 rfl ?_
        obtain ⟨r_5, σ_10, hc, hF⟩ := kp_bd_s hF
        refine kp_ci h (kp_rV (k := 39) (As := [kp_iv 33]) (rest := []) C G h (kc_X5_eats  hc) q2_123 q2_125 q0_1_3 q1_8 q2_126 ⟨rfl, hd_X5_eats⟩ ⟨by omega, by decide⟩ kp_lK39 rfl rfl hl.1 rfl (Nat.le_of_ble_eq_true rfl) dX5_factor_12) (fun H locs h => ?_)
        refine kp_if_eq (tgt := 34) C dX5_factor_15 (by decide) hF (fun hF => ?_) (fun hF => ?_)
        · exact K _ _ _ _ _ _ h (lv_sub hl [0, 1, 2] rfl) hF
        · refine kp_iload_n C dX5_factor_18 rfl (lv_at hl 2 rfl) ?_
          refine kp_if_ne (tgt := 26) C dX5_factor_19 (by decide) hF (fun hF => ?_) (fun hF => ?_)
          · refine kp_iconst C dX5_factor_26 ?_
            refine kp_istore_n (lv' := fun x3_3 => [(3, kp_iv x3_3), (0, .ref (kp_ad X 39)), (2, kp_iv x2_1)]) C dX5_factor_27 rfl hl (by decide) (fun _ => rfl) hF (fun x3_3 ls hl hF => ?_)
            refine kp_iinc (k := 2) (lv' := fun x2_3 => [(2, kp_iv x2_3), (3, kp_iv x3_3), (0, .ref (kp_ad X 39))]) C dX5_factor_28 hl rfl (by decide) (fun _ => rfl) hF (fun x2_3 ls hl hF => ?_)
            refine kp_goto (tgt := 4) C dX5_factor_31 (by decide) ?_
            exact ih _ _ _ k _ _ _ h (lv_sub hl [2, 0, 1] rfl) K hF
          · refine kp_iconst C dX5_factor_22 ?_
            refine kp_goto (tgt := 27) C dX5_factor_23 (by decide) ?_
            refine kp_istore_n (lv' := fun x3_4 => [(3, kp_iv x3_4), (0, .ref (kp_ad X 39)), (2, kp_iv x2_1)]) C dX5_factor_27 rfl hl (by decide) (fun _ => rfl) hF (fun x3_4 ls hl hF => ?_)
            refine kp_iinc (k := 2) (lv' := fun x2_4 => [(2, kp_iv x2_4), (3, kp_iv x3_4), (0, .ref (kp_ad X 39))]) C dX5_factor_28 hl rfl (by decide) (fun _ => rfl) hF (fun x2_4 ls hl hF => ?_)
            refine kp_goto (tgt := 4) C dX5_factor_31 (by decide) ?_
            exact ih _ _ _ k _ _ _ h (lv_sub hl [2, 0, 1] rfl) K hF
  refine L4 kp_fu _ _ _ _ _ _ _ h (lv_sub hl [2, 1, 0] rfl) (fun x2_2 x3_2 σ_2 H locs ls h hl hF => ?_) hF
  clear L4
  refine kp_iload_n C dX5_factor_34 rfl (lv_at hl 1 rfl) ?_
  refine kp_iconst C dX5_factor_35 ?_
  obtain ⟨j78, ej78, hF⟩ := kp_jn_s hF
  have J78 : ∀ (σ_3 : kp_W), ∀ (H : Heap) (locs : List Loc) (ls : Array Slot), kp_H X kp_lK 55 s σ_3 H locs → lv_has ls 4 [(0, .ref (kp_ad X 39)), (3, kp_iv x3_2)] → j78 σ_3 = some (r, σ') → W p l e (kp_rm D) s m args below meth c H locs 0 0 (MQ below (kp_Qi X kp_lK 55 σ' r) args s 0 0 (kp_A X 55)) (F0 m 78 ls []) := by
    intro σ_3 H locs ls h hl hF
    rw [ej78] at hF
    refine kp_iload_n C dX5_factor_78 rfl (lv_at hl 1 rfl) ?_
    refine kp_if_eq (tgt := 90) C dX5_factor_79 (by decide) hF (fun hF => ?_) (fun hF => ?_)
    · refine kp_iconst C dX5_factor_90 ?_
      exact kp_retz C hr hlk G h dX5_factor_91 (kp_ck_i (by decide) hF)
    · refine kp_aload_n C dX5_factor_82 rfl (lv_at hl 0 rfl) ?_
      refine kp_getr C G h kp_lK39 rfl inWX5 (j := 0) (by decide) q1_190 rfl dX5_factor_83 ?_
      refine kp_iconst C dX5_factor_86 ?_
      obtain ⟨r_0, σ_4, hc, hF⟩ := kp_bd_s hF
      refine kp_cv h (kp_rV (k := 40) (As := [kp_iv (-1)]) (rest := []) C G h (kc_X2_put  hc) q2_160 q2_161 q2_162 q1_4 q2_163 ⟨rfl, hd_X2_put⟩ ⟨by omega, by decide⟩ kp_lK40 rfl rfl hl.1 rfl (Nat.le_of_ble_eq_true rfl) dX5_factor_87) (fun H locs h => ?_)
      refine kp_iconst C dX5_factor_90 ?_
      exact kp_retz C hr hlk G h dX5_factor_91 (kp_ck_i (by decide) hF)
  clear ej78
  obtain ⟨j69, ej69, hF⟩ := kp_jn_s hF
  have J69 : ∀ (σ_5 : kp_W), ∀ (H : Heap) (locs : List Loc) (ls : Array Slot), kp_H X kp_lK 55 s σ_5 H locs → lv_has ls 4 [(0, .ref (kp_ad X 39)), (3, kp_iv x3_2)] → j69 σ_5 = some (r, σ') → W p l e (kp_rm D) s m args below meth c H locs 0 0 (MQ below (kp_Qi X kp_lK 55 σ' r) args s 0 0 (kp_A X 55)) (F0 m 69 ls []) := by
    intro σ_5 H locs ls h hl hF
    rw [ej69] at hF
    refine kp_aload_n C dX5_factor_69 rfl (lv_at hl 0 rfl) ?_
    obtain ⟨r_1, σ_6, hc, hF⟩ := kp_bd_s hF
    refine kp_ci h (kp_rV (k := 39) (As := []) (rest := []) C G h (kc_X5_test  hc) q2_139 q2_141 q0_1_7 q1_8 q2_142 ⟨rfl, hd_X5_test⟩ ⟨by omega, by decide⟩ kp_lK39 rfl rfl hl.1 rfl (Nat.le_of_ble_eq_true rfl) dX5_factor_70) (fun H locs h => ?_)
    refine kp_if_ne (tgt := 78) C dX5_factor_73 (by decide) hF (fun hF => ?_) (fun hF => ?_)
    · exact J78 _ _ _ _ h (lv_sub hl [0, 1] rfl) hF
    · refine kp_iconst C dX5_factor_76 ?_
      exact kp_retz C hr hlk G h dX5_factor_77 (kp_ck_i (by decide) hF)
  clear ej69
  refine kp_icmp_ge (tgt := 69) C dX5_factor_36 (by decide) hF (fun hF => ?_) (fun hF => ?_)
  · exact J69 _ _ _ _ h (lv_sub hl [0, 2] rfl) hF
  · refine kp_aload_n C dX5_factor_39 rfl (lv_at hl 0 rfl) ?_
    refine kp_bipush C dX5_factor_40 rfl ?_
    obtain ⟨r_2, σ_7, hc, hF⟩ := kp_bd_s hF
    refine kp_ci h (kp_rV (k := 39) (As := [kp_iv 40]) (rest := []) C G h (kc_X5_eats  hc) q2_123 q2_125 q0_1_3 q1_8 q2_126 ⟨rfl, hd_X5_eats⟩ ⟨by omega, by decide⟩ kp_lK39 rfl rfl hl.1 rfl (Nat.le_of_ble_eq_true rfl) dX5_factor_42) (fun H locs h => ?_)
    refine kp_if_eq (tgt := 69) C dX5_factor_45 (by decide) hF (fun hF => ?_) (fun hF => ?_)
    · exact J69 _ _ _ _ h (lv_sub hl [0, 2] rfl) hF
    · refine kp_aload_n C dX5_factor_48 rfl (lv_at hl 0 rfl) ?_
      refine kp_iload_n C dX5_factor_49 rfl (lv_at hl 1 rfl) ?_
      refine kp_iconst C dX5_factor_50 ?_
      refine kp_iadd C dX5_factor_51 ?_
      obtain ⟨r_3, σ_8, hc, hF⟩ := kp_bd_s hF
      refine kp_ci h (kp_rV (k := 39) (As := [kp_iv (x2_2 + 1)]) (rest := []) C G h (heit _ _ _ _ hc) q2_131 q2_133 q0_1_5 q1_8 q2_134 ⟨rfl, hd_X5_either⟩ ⟨by omega, by decide⟩ kp_lK39 rfl rfl hl.1 rfl (Nat.le_of_ble_eq_true rfl) dX5_factor_52) (fun H locs h => ?_)
      refine kp_if_eq (tgt := 67) C dX5_factor_55 (by decide) hF (fun hF => ?_) (fun hF => ?_)
      · refine kp_iconst C dX5_factor_67 ?_
        exact kp_retz C hr hlk G h dX5_factor_68 (kp_ck_i (by decide) hF)
      · refine kp_aload_n C dX5_factor_58 rfl (lv_at hl 0 rfl) ?_
        refine kp_bipush C dX5_factor_59 rfl ?_
        obtain ⟨r_4, σ_9, hc, hF⟩ := kp_bd_s hF
        refine kp_ci h (kp_rV (k := 39) (As := [kp_iv 41]) (rest := []) C G h (kc_X5_eats  hc) q2_123 q2_125 q0_1_3 q1_8 q2_126 ⟨rfl, hd_X5_eats⟩ ⟨by omega, by decide⟩ kp_lK39 rfl rfl hl.1 rfl (Nat.le_of_ble_eq_true rfl) dX5_factor_61) (fun H locs h => ?_)
        refine kp_if_ne (tgt := 78) C dX5_factor_64 (by decide) hF (fun hF => ?_) (fun hF => ?_)
        · exact J78 _ _ _ _ h (lv_sub hl [0, 2] rfl) hF
        · refine kp_iconst C dX5_factor_67 ?_
          exact kp_retz C hr hlk G h dX5_factor_68 (kp_ck_i (by decide) hF)
def kl_X5_either_7 (fac : Int → kp_W → kp_R) (a1 : Int) : Nat → Int → Int → Int → kp_W → (kp_W → kp_R) → kp_R
  | 0, _, _, _, _, _ => none
  | n + 1, x2_1, x3_1, x4_1, σ_1, k => kp_ls x4_1 120 (kp_bd (fac a1 σ_1) (fun r_0 σ_3 => kp_eq r_0 0 (some (0, σ_3)) (kp_jn (fun (σ_4 : kp_W) => kp_bd (kf_X5_eats 38 σ_4) (fun r_1 σ_5 => kp_lt (r_1 : Int) (fun x2_2 => kp_eq x2_2 0 (kp_jn (fun (σ_6 : kp_W) => kp_bd (kf_X5_eats 124 σ_6) (fun r_2 σ_7 => kp_lt (r_2 : Int) (fun x3_2 => kp_eq x3_2 0 (some (1, σ_7)) (kp_lt (x4_1 + 1) (fun x4_2 => kl_X5_either_7 fac a1 n x2_2 x3_2 x4_2 σ_7 k))))) (fun j64 => kp_eq x3_1 0 (j64 σ_5) (kp_bd (kf_X2_put (-3) σ_5) (fun r_3 σ_8 => j64 σ_8)))) (kp_lt (x4_1 + 1) (fun x4_3 => kl_X5_either_7 fac a1 n x2_2 x3_1 x4_3 σ_5 k))))) (fun j37 => kp_eq x2_1 0 (j37 σ_3) (kp_bd (kf_X2_put (-2) σ_3) (fun r_4 σ_9 => j37 σ_9)))))) (k σ_1)
def kf_X5_either (fac : Int → kp_W → kp_R) (a1 : Int) (σ_0 : kp_W) : kp_R :=
  kp_lt (0 : Int) (fun x2_0 => kp_lt (0 : Int) (fun x3_0 => kp_lt (0 : Int) (fun x4_0 => kl_X5_either_7 fac a1 kp_fu x2_0 x3_0 x4_0 σ_0 (fun (σ_2 : kp_W) => some (0, σ_2)))))
set_option maxRecDepth 100000 in
set_option maxHeartbeats 4000000 in
theorem kc_X5_either {l : Launch} {X : kp_X} {D : Nat} {a1 : Int} {fac : Int → kp_W → kp_R} {σ_0 σ' : kp_W} {r : Int}  (hD : 7 ≤ D) {D0 : Nat} (eD0 : D0 + 1 ≤ D) (hfac : ∀ (b0 : Int) (σ σ' : kp_W) (r : Int), fac b0 σ = some (r, σ') → kp_Met l yX5_factor cX5_factor 4 (some .boolean) D0 X kp_lK 55 σ [.ref (kp_ad X 39), kp_iv b0] (kp_Qi X kp_lK 55 σ' r)) (hF : (kf_X5_either fac a1 σ_0) = some (r, σ')) : kp_Met l yX5_either cX5_either 5 (some .boolean) D X kp_lK 55 σ_0 [.ref (kp_ad X 39), kp_iv a1] (kp_Qi X kp_lK 55 σ' r) := by
  refine kp_body pnX5 (Nat.le_of_ble_eq_true rfl) ?_
  intro p e s m args below meth c ls C hr hlk G h hl
  unfold kf_X5_either at hF
  have hl : lv_has ls 5 [(0, .ref (kp_ad X 39)), (1, kp_iv a1)] := hl
  refine kp_iconst C dX5_either_0 ?_
  refine kp_istore_n (lv' := fun x2_0 => [(2, kp_iv x2_0), (0, .ref (kp_ad X 39)), (1, kp_iv a1)]) C dX5_either_1 rfl hl (by decide) (fun _ => rfl) hF (fun x2_0 ls hl hF => ?_)
  refine kp_iconst C dX5_either_2 ?_
  refine kp_istore_n (lv' := fun x3_0 => [(3, kp_iv x3_0), (2, kp_iv x2_0), (0, .ref (kp_ad X 39)), (1, kp_iv a1)]) C dX5_either_3 rfl hl (by decide) (fun _ => rfl) hF (fun x3_0 ls hl hF => ?_)
  refine kp_iconst C dX5_either_4 ?_
  refine kp_istore (lv' := fun x4_0 => [(4, kp_iv x4_0), (3, kp_iv x3_0), (2, kp_iv x2_0), (0, .ref (kp_ad X 39)), (1, kp_iv a1)]) C dX5_either_5 hl (by decide) (fun _ => rfl) hF (fun x4_0 ls hl hF => ?_)
  have L7 : ∀ (n : Nat) (x2_1 : Int) (x3_1 : Int) (x4_1 : Int) (σ_1 : kp_W) (k : kp_W → kp_R) (H : Heap) (locs : List Loc) (ls : Array Slot), kp_H X kp_lK 55 s σ_1 H locs → lv_has ls 5 [(0, .ref (kp_ad X 39)), (1, kp_iv a1), (2, kp_iv x2_1), (3, kp_iv x3_1), (4, kp_iv x4_1)] → (∀ (σ_2 : kp_W) (H : Heap) (locs : List Loc) (ls : Array Slot), kp_H X kp_lK 55 s σ_2 H locs → lv_has ls 5 [] → k σ_2 = some (r, σ') → W p l e (kp_rm D) s m args below meth c H locs 0 0 (MQ below (kp_Qi X kp_lK 55 σ' r) args s 0 0 (kp_A X 55)) (F0 m 83 ls [])) → kl_X5_either_7 fac a1 n x2_1 x3_1 x4_1 σ_1 k = some (r, σ') → W p l e (kp_rm D) s m args below meth c H locs 0 0 (MQ below (kp_Qi X kp_lK 55 σ' r) args s 0 0 (kp_A X 55)) (F0 m 7 ls []) := by
    intro n
    induction n with
    | zero =>
      intro x2_1 x3_1 x4_1 σ_1 k H locs ls h hl K hF
      rw [kl_X5_either_7] at hF
      cases hF
    | succ n ih =>
      intro x2_1 x3_1 x4_1 σ_1 k H locs ls h hl K hF
      rw [kl_X5_either_7] at hF
      refine kp_iload C dX5_either_7 (lv_at hl 4 rfl) ?_
      refine kp_bipush C dX5_either_9 rfl ?_
      refine kp_icmp_ge (tgt := 83) C dX5_either_11 (by decide) hF (fun hF => ?_) (fun hF => ?_)
      · exact K _ _ _ _ h (lv_sub hl [] rfl) hF
      · refine kp_aload_n C dX5_either_14 rfl (lv_at hl 0 rfl) ?_
        refine kp_iload_n C dX5_either_15 rfl (lv_at hl 1 rfl) ?_
        obtain ⟨r_0, σ_3, hc, hF⟩ := kp_bd_s hF
        refine kp_ci h (kp_rV (k := 39) (As := [kp_iv a1]) (rest := []) C G h (hfac _ _ _ _ hc) q2_135 q2_137 q0_1_6 q1_8 q2_138 ⟨rfl, hd_X5_factor⟩ ⟨by omega, by decide⟩ kp_lK39 rfl rfl hl.1 rfl (Nat.le_of_ble_eq_true rfl) dX5_either_16) (fun H locs h => ?_)
        refine kp_if_ne (tgt := 24) C dX5_either_19 (by decide) hF (fun hF => ?_) (fun hF => ?_)
        · refine kp_iload_n C dX5_either_24 rfl (lv_at hl 2 rfl) ?_
          obtain ⟨j37, ej37, hF⟩ := kp_jn_s hF
          have J37 : ∀ (σ_4 : kp_W), ∀ (H : Heap) (locs : List Loc) (ls : Array Slot), kp_H X kp_lK 55 s σ_4 H locs → lv_has ls 5 [(0, .ref (kp_ad X 39)), (1, kp_iv a1), (3, kp_iv x3_1), (4, kp_iv x4_1)] → j37 σ_4 = some (r, σ') → W p l e (kp_rm D) s m args below meth c H locs 0 0 (MQ below (kp_Qi X kp_lK 55 σ' r) args s 0 0 (kp_A X 55)) (F0 m 37 ls []) := by
            intro σ_4 H locs ls h hl hF
            rw [ej37] at hF
            refine kp_aload_n C dX5_either_37 rfl (lv_at hl 0 rfl) ?_
            refine kp_bipush C dX5_either_38 rfl ?_
            obtain ⟨r_1, σ_5, hc, hF⟩ := kp_bd_s hF
            refine kp_ci h (kp_rV (k := 39) (As := [kp_iv 38]) (rest := []) C G h (kc_X5_eats  hc) q2_123 q2_125 q0_1_3 q1_8 q2_126 ⟨rfl, hd_X5_eats⟩ ⟨by omega, by decide⟩ kp_lK39 rfl rfl hl.1 rfl (Nat.le_of_ble_eq_true rfl) dX5_either_40) (fun H locs h => ?_)
            refine kp_istore_n (lv' := fun x2_2 => [(2, kp_iv x2_2), (0, .ref (kp_ad X 39)), (1, kp_iv a1), (3, kp_iv x3_1), (4, kp_iv x4_1)]) C dX5_either_43 rfl hl (by decide) (fun _ => rfl) hF (fun x2_2 ls hl hF => ?_)
            refine kp_iload_n C dX5_either_44 rfl (lv_at hl 0 rfl) ?_
            refine kp_if_eq (tgt := 51) C dX5_either_45 (by decide) hF (fun hF => ?_) (fun hF => ?_)
            · refine kp_iload_n C dX5_either_51 rfl (lv_at hl 3 rfl) ?_
              obtain ⟨j64, ej64, hF⟩ := kp_jn_s hF
              have J64 : ∀ (σ_6 : kp_W), ∀ (H : Heap) (locs : List Loc) (ls : Array Slot), kp_H X kp_lK 55 s σ_6 H locs → lv_has ls 5 [(0, .ref (kp_ad X 39)), (1, kp_iv a1), (2, kp_iv x2_2), (4, kp_iv x4_1)] → j64 σ_6 = some (r, σ') → W p l e (kp_rm D) s m args below meth c H locs 0 0 (MQ below (kp_Qi X kp_lK 55 σ' r) args s 0 0 (kp_A X 55)) (F0 m 64 ls []) := by
                intro σ_6 H locs ls h hl hF
                rw [ej64] at hF
                refine kp_aload_n C dX5_either_64 rfl (lv_at hl 0 rfl) ?_
                refine kp_bipush C dX5_either_65 rfl ?_
                obtain ⟨r_2, σ_7, hc, hF⟩ := kp_bd_s hF
                refine kp_ci h (kp_rV (k := 39) (As := [kp_iv 124]) (rest := []) C G h (kc_X5_eats  hc) q2_123 q2_125 q0_1_3 q1_8 q2_126 ⟨rfl, hd_X5_eats⟩ ⟨by omega, by decide⟩ kp_lK39 rfl rfl hl.1 rfl (Nat.le_of_ble_eq_true rfl) dX5_either_67) (fun H locs h => ?_)
                refine kp_istore_n (lv' := fun x3_2 => [(3, kp_iv x3_2), (0, .ref (kp_ad X 39)), (1, kp_iv a1), (2, kp_iv x2_2), (4, kp_iv x4_1)]) C dX5_either_70 rfl hl (by decide) (fun _ => rfl) hF (fun x3_2 ls hl hF => ?_)
                refine kp_iload_n C dX5_either_71 rfl (lv_at hl 0 rfl) ?_
                refine kp_if_ne (tgt := 77) C dX5_either_72 (by decide) hF (fun hF => ?_) (fun hF => ?_)
                · refine kp_iinc (k := 4) (lv' := fun x4_2 => [(4, kp_iv x4_2), (3, kp_iv x3_2), (0, .ref (kp_ad X 39)), (1, kp_iv a1), (2, kp_iv x2_2)]) C dX5_either_77 hl rfl (by decide) (fun _ => rfl) hF (fun x4_2 ls hl hF => ?_)
                  refine kp_goto (tgt := 7) C dX5_either_80 (by decide) ?_
                  exact ih _ _ _ _ k _ _ _ h (lv_sub hl [2, 3, 4, 1, 0] rfl) K hF
                · refine kp_iconst C dX5_either_75 ?_
                  exact kp_retz C hr hlk G h dX5_either_76 (kp_ck_i (by decide) hF)
              clear ej64
              refine kp_if_eq (tgt := 64) C dX5_either_52 (by decide) hF (fun hF => ?_) (fun hF => ?_)
              · exact J64 _ _ _ _ h (lv_sub hl [1, 2, 0, 4] rfl) hF
              · refine kp_aload_n C dX5_either_55 rfl (lv_at hl 1 rfl) ?_
                refine kp_getr C G h kp_lK39 rfl inWX5 (j := 0) (by decide) q1_190 rfl dX5_either_56 ?_
                refine kp_bipush C dX5_either_59 rfl ?_
                obtain ⟨r_3, σ_8, hc, hF⟩ := kp_bd_s hF
                refine kp_cv h (kp_rV (k := 40) (As := [kp_iv (-3)]) (rest := []) C G h (kc_X2_put  hc) q2_160 q2_161 q2_162 q1_4 q2_163 ⟨rfl, hd_X2_put⟩ ⟨by omega, by decide⟩ kp_lK40 rfl rfl hl.1 rfl (Nat.le_of_ble_eq_true rfl) dX5_either_61) (fun H locs h => ?_)
                exact J64 _ _ _ _ h (lv_sub hl [1, 2, 0, 4] rfl) hF
            · refine kp_goto (tgt := 77) C dX5_either_48 (by decide) ?_
              refine kp_iinc (k := 4) (lv' := fun x4_3 => [(4, kp_iv x4_3), (2, kp_iv x2_2), (0, .ref (kp_ad X 39)), (1, kp_iv a1), (3, kp_iv x3_1)]) C dX5_either_77 hl rfl (by decide) (fun _ => rfl) hF (fun x4_3 ls hl hF => ?_)
              refine kp_goto (tgt := 7) C dX5_either_80 (by decide) ?_
              exact ih _ _ _ _ k _ _ _ h (lv_sub hl [2, 3, 1, 4, 0] rfl) K hF
          clear ej37
          refine kp_if_eq (tgt := 37) C dX5_either_25 (by decide) hF (fun hF => ?_) (fun hF => ?_)
          · exact J37 _ _ _ _ h (lv_sub hl [0, 1, 3, 4] rfl) hF
          · refine kp_aload_n C dX5_either_28 rfl (lv_at hl 0 rfl) ?_
            refine kp_getr C G h kp_lK39 rfl inWX5 (j := 0) (by decide) q1_190 rfl dX5_either_29 ?_
            refine kp_bipush C dX5_either_32 rfl ?_
            obtain ⟨r_4, σ_9, hc, hF⟩ := kp_bd_s hF
            refine kp_cv h (kp_rV (k := 40) (As := [kp_iv (-2)]) (rest := []) C G h (kc_X2_put  hc) q2_160 q2_161 q2_162 q1_4 q2_163 ⟨rfl, hd_X2_put⟩ ⟨by omega, by decide⟩ kp_lK40 rfl rfl hl.1 rfl (Nat.le_of_ble_eq_true rfl) dX5_either_34) (fun H locs h => ?_)
            exact J37 _ _ _ _ h (lv_sub hl [0, 1, 3, 4] rfl) hF
        · refine kp_iconst C dX5_either_22 ?_
          exact kp_retz C hr hlk G h dX5_either_23 (kp_ck_i (by decide) hF)
  refine L7 kp_fu _ _ _ _ _ _ _ _ h (lv_sub hl [3, 4, 2, 1, 0] rfl) (fun σ_2 H locs ls h hl hF => ?_) hF
  clear L7
  refine kp_iconst C dX5_either_83 ?_
  exact kp_retz C hr hlk G h dX5_either_84 (kp_ck_i (by decide) hF)
def kt_X5_factor : Nat → Int → kp_W → kp_R
  | 0, _, _ => none
  | n + 1, a1, σ => kf_X5_factor (fun a1 σ => kf_X5_either (kt_X5_factor n) a1 σ) a1 σ
def kt_X5_either (n : Nat) (a1 : Int) (σ : kp_W) : kp_R := kf_X5_either (kt_X5_factor n) a1 σ
theorem kt_X5_factor_c {l : Launch} {X : kp_X} : ∀ (n : Nat) (b0 : Int) (σ σ' : kp_W) (r : Int), kt_X5_factor n b0 σ = some (r, σ') → kp_Met l yX5_factor cX5_factor 4 (some .boolean) (7 + 4 * n) X kp_lK 55 σ [.ref (kp_ad X 39), kp_iv b0] (kp_Qi X kp_lK 55 σ' r)
  | 0, _, _, _, _, h => by rw [kt_X5_factor] at h; cases h
  | n + 1, b0, σ, σ', r, h => by
    rw [kt_X5_factor] at h
    exact kc_X5_factor (D := 7 + 4 * (n + 1)) (by omega) (D0 := 7 + 4 * n + 1) (by omega) (fun b0 σ σ' r h => kc_X5_either (D := 7 + 4 * n + 1) (by omega) (D0 := 7 + 4 * n) (by omega) (kt_X5_factor_c n) h) h
theorem kt_X5_either_c {l : Launch} {X : kp_X} (n : Nat) {b0 : Int} {σ σ' : kp_W} {r : Int} (h : kt_X5_either n b0 σ = some (r, σ')) : kp_Met l yX5_either cX5_either 5 (some .boolean) (7 + 4 * n + 1) X kp_lK 55 σ [.ref (kp_ad X 39), kp_iv b0] (kp_Qi X kp_lK 55 σ' r) := kc_X5_either (by omega) (by omega) (kt_X5_factor_c n) h

def kf_X5_clause   (σ_0 : kp_W) : kp_R :=
  kp_bd (kf_X5_word σ_0) (fun r_0 σ_1 => kp_lt (r_0 : Int) (fun x1_0 => kp_ls x1_0 0 (some (0, σ_1)) (kp_bd (kf_X5_number σ_1) (fun r_1 σ_2 => kp_lt (r_1 : Int) (fun x2_0 => kp_ls x2_0 0 (some (0, σ_2)) (kp_lt ((x1_0 - 2) : Int) (fun x3_0 => kp_jn (fun (σ_3 : kp_W) => kp_bd (kf_X5_eats 32 σ_3) (fun r_2 σ_4 => kp_eq r_2 0 (some (0, σ_4)) (kp_bd (kt_X5_either 10 0 σ_4) (fun r_3 σ_5 => kp_eq r_3 0 (some (0, σ_5)) (kp_jn (fun (v_0 : Int) => kp_bd (kf_X2_close v_0 x2_0 σ_5) (fun r_4 σ_6 => some (1, σ_6))) (fun j79 => kp_eq x1_0 0 (j79 1) (j79 0))))))) (fun j47 => kp_ls x3_0 0 (j47 σ_2) (kp_ls x3_0 5 (kp_ck (0 ≤ x3_0 ∧ x3_0 < 5) (kp_lt (kp_up σ_2 41 (Int.toNat x3_0) x2_0) (fun σ_7 => some (1, σ_7)))) (j47 σ_2))))))))))
set_option maxRecDepth 100000 in
set_option maxHeartbeats 4000000 in
theorem kc_X5_clause {l : Launch} {X : kp_X}  {σ_0 σ' : kp_W} {r : Int}   (hF : (kf_X5_clause σ_0) = some (r, σ')) : kp_Met l yX5_clause cX5_clause 4 (some .boolean) 51 X kp_lK 55 σ_0 [.ref (kp_ad X 39)] (kp_Qi X kp_lK 55 σ' r) := by
  refine kp_body pnX5 (Nat.le_of_ble_eq_true rfl) ?_
  intro p e s m args below meth c ls C hr hlk G h hl
  unfold kf_X5_clause at hF
  have hl : lv_has ls 4 [(0, .ref (kp_ad X 39))] := hl
  refine kp_aload_n C dX5_clause_0 rfl (lv_at hl 0 rfl) ?_
  obtain ⟨r_0, σ_1, hc, hF⟩ := kp_bd_s hF
  refine kp_ci h (kp_rV (k := 39) (As := []) (rest := []) C G h (kc_X5_word  hc) q2_74 q2_76 q0_1_1 q1_8 q2_77 ⟨rfl, hd_X5_word⟩ (by decide) kp_lK39 rfl rfl hl.1 rfl (Nat.le_of_ble_eq_true rfl) dX5_clause_1) (fun H locs h => ?_)
  refine kp_istore_n (lv' := fun x1_0 => [(1, kp_iv x1_0), (0, .ref (kp_ad X 39))]) C dX5_clause_4 rfl hl (by decide) (fun _ => rfl) hF (fun x1_0 ls hl hF => ?_)
  refine kp_iload_n C dX5_clause_5 rfl (lv_at hl 0 rfl) ?_
  refine kp_if_ge (tgt := 11) C dX5_clause_6 (by decide) hF (fun hF => ?_) (fun hF => ?_)
  · refine kp_aload_n C dX5_clause_11 rfl (lv_at hl 1 rfl) ?_
    obtain ⟨r_1, σ_2, hc, hF⟩ := kp_bd_s hF
    refine kp_ci h (kp_rV (k := 39) (As := []) (rest := []) C G h (kc_X5_number  hc) q2_127 q2_129 q0_1_4 q1_8 q2_130 ⟨rfl, hd_X5_number⟩ (by decide) kp_lK39 rfl rfl hl.1 rfl (Nat.le_of_ble_eq_true rfl) dX5_clause_12) (fun H locs h => ?_)
    refine kp_istore_n (lv' := fun x2_0 => [(2, kp_iv x2_0), (1, kp_iv x1_0), (0, .ref (kp_ad X 39))]) C dX5_clause_15 rfl hl (by decide) (fun _ => rfl) hF (fun x2_0 ls hl hF => ?_)
    refine kp_iload_n C dX5_clause_16 rfl (lv_at hl 0 rfl) ?_
    refine kp_if_ge (tgt := 22) C dX5_clause_17 (by decide) hF (fun hF => ?_) (fun hF => ?_)
    · refine kp_iload_n C dX5_clause_22 rfl (lv_at hl 1 rfl) ?_
      refine kp_iconst C dX5_clause_23 ?_
      refine kp_isub C dX5_clause_24 ?_
      refine kp_istore_n (lv' := fun x3_0 => [(3, kp_iv x3_0), (2, kp_iv x2_0), (1, kp_iv x1_0), (0, .ref (kp_ad X 39))]) C dX5_clause_25 rfl hl (by decide) (fun _ => rfl) hF (fun x3_0 ls hl hF => ?_)
      refine kp_iload_n C dX5_clause_26 rfl (lv_at hl 0 rfl) ?_
      obtain ⟨j47, ej47, hF⟩ := kp_jn_s hF
      have J47 : ∀ (σ_3 : kp_W), ∀ (H : Heap) (locs : List Loc) (ls : Array Slot), kp_H X kp_lK 55 s σ_3 H locs → lv_has ls 4 [(0, .ref (kp_ad X 39)), (1, kp_iv x1_0), (2, kp_iv x2_0)] → j47 σ_3 = some (r, σ') → W p l e (kp_rm 51) s m args below meth c H locs 0 0 (MQ below (kp_Qi X kp_lK 55 σ' r) args s 0 0 (kp_A X 55)) (F0 m 47 ls []) := by
        intro σ_3 H locs ls h hl hF
        rw [ej47] at hF
        refine kp_aload_n C dX5_clause_47 rfl (lv_at hl 0 rfl) ?_
        refine kp_bipush C dX5_clause_48 rfl ?_
        obtain ⟨r_2, σ_4, hc, hF⟩ := kp_bd_s hF
        refine kp_ci h (kp_rV (k := 39) (As := [kp_iv 32]) (rest := []) C G h (kc_X5_eats  hc) q2_123 q2_125 q0_1_3 q1_8 q2_126 ⟨rfl, hd_X5_eats⟩ (by decide) kp_lK39 rfl rfl hl.1 rfl (Nat.le_of_ble_eq_true rfl) dX5_clause_50) (fun H locs h => ?_)
        refine kp_if_eq (tgt := 64) C dX5_clause_53 (by decide) hF (fun hF => ?_) (fun hF => ?_)
        · refine kp_iconst C dX5_clause_64 ?_
          exact kp_retz C hr hlk G h dX5_clause_65 (kp_ck_i (by decide) hF)
        · refine kp_aload_n C dX5_clause_56 rfl (lv_at hl 0 rfl) ?_
          refine kp_iconst C dX5_clause_57 ?_
          obtain ⟨r_3, σ_5, hc, hF⟩ := kp_bd_s hF
          refine kp_ci h (kp_rV (k := 39) (As := [kp_iv 0]) (rest := []) C G h (kt_X5_either_c 10 hc) q2_131 q2_133 q0_1_5 q1_8 q2_134 ⟨rfl, hd_X5_either⟩ ⟨by decide, by decide⟩ kp_lK39 rfl rfl hl.1 rfl (Nat.le_of_ble_eq_true rfl) dX5_clause_58) (fun H locs h => ?_)
          refine kp_if_ne (tgt := 66) C dX5_clause_61 (by decide) hF (fun hF => ?_) (fun hF => ?_)
          · refine kp_aload_n C dX5_clause_66 rfl (lv_at hl 0 rfl) ?_
            refine kp_getr C G h kp_lK39 rfl inWX5 (j := 0) (by decide) q1_190 rfl dX5_clause_67 ?_
            refine kp_iload_n C dX5_clause_70 rfl (lv_at hl 1 rfl) ?_
            obtain ⟨j79, ej79, hF⟩ := kp_jn_s hF
            have J79 : ∀ (v_0 : Int), ∀ (H : Heap) (locs : List Loc) (ls : Array Slot), kp_H X kp_lK 55 s σ_5 H locs → lv_has ls 4 [(2, kp_iv x2_0)] → j79 v_0 = some (r, σ') → W p l e (kp_rm 51) s m args below meth c H locs 0 0 (MQ below (kp_Qi X kp_lK 55 σ' r) args s 0 0 (kp_A X 55)) (F0 m 79 ls [kp_iv v_0, .ref (kp_ad X 40)]) := by
              intro v_0 H locs ls h hl hF
              rw [ej79] at hF
              refine kp_iload_n C dX5_clause_79 rfl (lv_at hl 0 rfl) ?_
              obtain ⟨r_4, σ_6, hc, hF⟩ := kp_bd_s hF
              refine kp_cv h (kp_rV (k := 40) (As := [kp_iv v_0, kp_iv x2_0]) (rest := []) C G h (kc_X2_close  hc) q2_164 q2_165 q2_166 q1_4 q2_167 ⟨rfl, hd_X2_close⟩ (by decide) kp_lK40 rfl rfl hl.1 rfl (Nat.le_of_ble_eq_true rfl) dX5_clause_80) (fun H locs h => ?_)
              refine kp_iconst C dX5_clause_83 ?_
              exact kp_retz C hr hlk G h dX5_clause_84 (kp_ck_i (by decide) hF)
            clear ej79
            refine kp_if_ne (tgt := 78) C dX5_clause_71 (by decide) hF (fun hF => ?_) (fun hF => ?_)
            · refine kp_iconst C dX5_clause_78 ?_
              exact J79 _ _ _ _ h (lv_sub hl [2] rfl) hF
            · refine kp_iconst C dX5_clause_74 ?_
              refine kp_goto (tgt := 79) C dX5_clause_75 (by decide) ?_
              exact J79 _ _ _ _ h (lv_sub hl [2] rfl) hF
          · refine kp_iconst C dX5_clause_64 ?_
            exact kp_retz C hr hlk G h dX5_clause_65 (kp_ck_i (by decide) hF)
      clear ej47
      refine kp_if_lt (tgt := 47) C dX5_clause_27 (by decide) hF (fun hF => ?_) (fun hF => ?_)
      · exact J47 _ _ _ _ h (lv_sub hl [3, 2, 1] rfl) hF
      · refine kp_iload_n C dX5_clause_30 rfl (lv_at hl 0 rfl) ?_
        refine kp_iconst C dX5_clause_31 ?_
        refine kp_icmp_ge (tgt := 47) C dX5_clause_32 (by decide) hF (fun hF => ?_) (fun hF => ?_)
        · exact J47 _ _ _ _ h (lv_sub hl [3, 2, 1] rfl) hF
        · refine kp_aload_n C dX5_clause_35 rfl (lv_at hl 3 rfl) ?_
          refine kp_getr C G h kp_lK39 rfl inWX5 (j := 0) (by decide) q1_190 rfl dX5_clause_36 ?_
          refine kp_getr C G h kp_lK40 rfl inWX2 (j := 0) (by decide) q1_69 rfl dX5_clause_39 ?_
          refine kp_iload_n C dX5_clause_42 rfl (lv_at hl 0 rfl) ?_
          refine kp_iload_n C dX5_clause_43 rfl (lv_at hl 1 rfl) ?_
          refine kp_iast C G h (n := 5) kp_lK41 (by decide) dX5_clause_44 hF (fun σ_7 H locs h hF => ?_)
          refine kp_iconst C dX5_clause_45 ?_
          exact kp_retz C hr hlk G h dX5_clause_46 (kp_ck_i (by decide) hF)
    · refine kp_iconst C dX5_clause_20 ?_
      exact kp_retz C hr hlk G h dX5_clause_21 (kp_ck_i (by decide) hF)
  · refine kp_iconst C dX5_clause_9 ?_
    exact kp_retz C hr hlk G h dX5_clause_10 (kp_ck_i (by decide) hF)
def kl_X5_reads_22  : Nat → Int → kp_W → (kp_W → kp_R) → kp_R
  | 0, _, _, _ => none
  | n + 1, x2_1, σ_4, k => kp_ls 10 x2_1 (k σ_4) (kp_bd (kf_X5_clause σ_4) (fun r_2 σ_6 => kp_eq r_2 0 (some (0, σ_6)) (kp_ls (σ_6 39 2) (σ_6 46 1) (kp_eq x2_1 10 (some (0, σ_6)) (kp_bd (kf_X5_eats 59 σ_6) (fun r_3 σ_7 => kp_eq r_3 0 (some (0, σ_7)) (kp_lt (x2_1 + 1) (fun x2_2 => kl_X5_reads_22 n x2_2 σ_7 k))))) (some (1, σ_6)))))
def kf_X5_reads   (σ_0 : kp_W) : kp_R :=
  kp_bd (kf_X7_copy_46_3 σ_0) (fun r_0 σ_1 => kp_lt (kp_up σ_1 39 2 0) (fun σ_2 => kp_bd (kf_X2_empty_40 σ_2) (fun r_1 σ_3 => kp_lt (1 : Int) (fun x2_0 => kl_X5_reads_22 kp_fu x2_0 σ_3 (fun (σ_5 : kp_W) => some (0, σ_5))))))
set_option maxRecDepth 100000 in
set_option maxHeartbeats 4000000 in
theorem kc_X5_reads {l : Launch} {X : kp_X}  {σ_0 σ' : kp_W} {r : Int}   (hF : (kf_X5_reads σ_0) = some (r, σ')) : kp_Met l yX5_reads cX5_reads 3 (some .boolean) 52 X kp_lK 55 σ_0 [.ref (kp_ad X 39), .ref (kp_ad X 3)] (kp_Qi X kp_lK 55 σ' r) := by
  refine kp_body pnX5 (Nat.le_of_ble_eq_true rfl) ?_
  intro p e s m args below meth c ls C hr hlk G h hl
  unfold kf_X5_reads at hF
  have hl : lv_has ls 3 [(0, .ref (kp_ad X 39)), (1, .ref (kp_ad X 3))] := hl
  refine kp_aload_n C dX5_reads_0 rfl (lv_at hl 0 rfl) ?_
  refine kp_getr C G h kp_lK39 rfl inWX5 (j := 1) (by decide) q1_192 rfl dX5_reads_1 ?_
  refine kp_aload_n C dX5_reads_4 rfl (lv_at hl 1 rfl) ?_
  obtain ⟨r_0, σ_1, hc, hF⟩ := kp_bd_s hF
  refine kp_cv h (kp_rV (k := 46) (As := [.ref (kp_ad X 3)]) (rest := []) C G h (kc_X7_copy_46_3  hc) q2_64 q2_65 q2_66 q1_3 q2_67 ⟨rfl, hd_X7_copy⟩ (by decide) kp_lK46 rfl rfl hl.1 rfl (Nat.le_of_ble_eq_true rfl) dX5_reads_5) (fun H locs h => ?_)
  refine kp_aload_n C dX5_reads_8 rfl (lv_at hl 0 rfl) ?_
  refine kp_iconst C dX5_reads_9 ?_
  refine kp_puti C G h kp_lK39 rfl inWX5 tyX5 tyX5_ok nmX5 (j := 2) (by decide) q1_193 rfl rfl (by decide +kernel) dX5_reads_10 hF (fun σ_2 H locs h hF => ?_)
  refine kp_aload_n C dX5_reads_13 rfl (lv_at hl 0 rfl) ?_
  refine kp_getr C G h kp_lK39 rfl inWX5 (j := 0) (by decide) q1_190 rfl dX5_reads_14 ?_
  obtain ⟨r_1, σ_3, hc, hF⟩ := kp_bd_s hF
  refine kp_cv h (kp_rV (k := 40) (As := []) (rest := []) C G h (kc_X2_empty_40  hc) q2_69 q1_59 q1_60 q1_4 q1_61 ⟨rfl, hd_X2_empty⟩ (by decide) kp_lK40 rfl rfl hl.1 rfl (Nat.le_of_ble_eq_true rfl) dX5_reads_17) (fun H locs h => ?_)
  refine kp_iconst C dX5_reads_20 ?_
  refine kp_istore_n (lv' := fun x2_0 => [(2, kp_iv x2_0), (0, .ref (kp_ad X 39)), (1, .ref (kp_ad X 3))]) C dX5_reads_21 rfl hl (by decide) (fun _ => rfl) hF (fun x2_0 ls hl hF => ?_)
  have L22 : ∀ (n : Nat) (x2_1 : Int) (σ_4 : kp_W) (k : kp_W → kp_R) (H : Heap) (locs : List Loc) (ls : Array Slot), kp_H X kp_lK 55 s σ_4 H locs → lv_has ls 3 [(0, .ref (kp_ad X 39)), (2, kp_iv x2_1)] → (∀ (σ_5 : kp_W) (H : Heap) (locs : List Loc) (ls : Array Slot), kp_H X kp_lK 55 s σ_5 H locs → lv_has ls 3 [] → k σ_5 = some (r, σ') → W p l e (kp_rm 52) s m args below meth c H locs 0 0 (MQ below (kp_Qi X kp_lK 55 σ' r) args s 0 0 (kp_A X 55)) (F0 m 76 ls [])) → kl_X5_reads_22 n x2_1 σ_4 k = some (r, σ') → W p l e (kp_rm 52) s m args below meth c H locs 0 0 (MQ below (kp_Qi X kp_lK 55 σ' r) args s 0 0 (kp_A X 55)) (F0 m 22 ls []) := by
    intro n
    induction n with
    | zero =>
      intro x2_1 σ_4 k H locs ls h hl K hF
      rw [kl_X5_reads_22] at hF
      cases hF
    | succ n ih =>
      intro x2_1 σ_4 k H locs ls h hl K hF
      rw [kl_X5_reads_22] at hF
      refine kp_iload_n C dX5_reads_22 rfl (lv_at hl 1 rfl) ?_
      refine kp_bipush C dX5_reads_23 rfl ?_
      refine kp_icmp_gt (tgt := 76) C dX5_reads_25 (by decide) hF (fun hF => ?_) (fun hF => ?_)
      · exact K _ _ _ _ h (lv_sub hl [] rfl) hF
      · refine kp_aload_n C dX5_reads_28 rfl (lv_at hl 0 rfl) ?_
        obtain ⟨r_2, σ_6, hc, hF⟩ := kp_bd_s hF
        refine kp_ci h (kp_rV (k := 39) (As := []) (rest := []) C G h (kc_X5_clause  hc) q2_70 q2_72 q0_1_0 q1_8 q2_73 ⟨rfl, hd_X5_clause⟩ (by decide) kp_lK39 rfl rfl hl.1 rfl (Nat.le_of_ble_eq_true rfl) dX5_reads_29) (fun H locs h => ?_)
        refine kp_if_ne (tgt := 37) C dX5_reads_32 (by decide) hF (fun hF => ?_) (fun hF => ?_)
        · refine kp_aload_n C dX5_reads_37 rfl (lv_at hl 0 rfl) ?_
          refine kp_geti C G h kp_lK39 rfl inWX5 (j := 2) (by decide) q1_193 rfl dX5_reads_38 ?_
          refine kp_aload_n C dX5_reads_41 rfl (lv_at hl 0 rfl) ?_
          refine kp_getr C G h kp_lK39 rfl inWX5 (j := 1) (by decide) q1_192 rfl dX5_reads_42 ?_
          refine kp_geti C G h kp_lK46 rfl inWX7 (j := 1) (by decide) q1_43 rfl dX5_reads_45 ?_
          refine kp_icmp_lt (tgt := 53) C dX5_reads_48 (by decide) hF (fun hF => ?_) (fun hF => ?_)
          · refine kp_iload_n C dX5_reads_53 rfl (lv_at hl 1 rfl) ?_
            refine kp_bipush C dX5_reads_54 rfl ?_
            refine kp_icmp_eq (tgt := 68) C dX5_reads_56 (by decide) hF (fun hF => ?_) (fun hF => ?_)
            · refine kp_iconst C dX5_reads_68 ?_
              exact kp_retz C hr hlk G h dX5_reads_69 (kp_ck_i (by decide) hF)
            · refine kp_aload_n C dX5_reads_59 rfl (lv_at hl 0 rfl) ?_
              refine kp_bipush C dX5_reads_60 rfl ?_
              obtain ⟨r_3, σ_7, hc, hF⟩ := kp_bd_s hF
              refine kp_ci h (kp_rV (k := 39) (As := [kp_iv 59]) (rest := []) C G h (kc_X5_eats  hc) q2_123 q2_125 q0_1_3 q1_8 q2_126 ⟨rfl, hd_X5_eats⟩ (by decide) kp_lK39 rfl rfl hl.1 rfl (Nat.le_of_ble_eq_true rfl) dX5_reads_62) (fun H locs h => ?_)
              refine kp_if_ne (tgt := 70) C dX5_reads_65 (by decide) hF (fun hF => ?_) (fun hF => ?_)
              · refine kp_iinc (k := 1) (lv' := fun x2_2 => [(2, kp_iv x2_2), (0, .ref (kp_ad X 39))]) C dX5_reads_70 hl rfl (by decide) (fun _ => rfl) hF (fun x2_2 ls hl hF => ?_)
                refine kp_goto (tgt := 22) C dX5_reads_73 (by decide) ?_
                exact ih _ _ k _ _ _ h (lv_sub hl [1, 0] rfl) K hF
              · refine kp_iconst C dX5_reads_68 ?_
                exact kp_retz C hr hlk G h dX5_reads_69 (kp_ck_i (by decide) hF)
          · refine kp_iconst C dX5_reads_51 ?_
            exact kp_retz C hr hlk G h dX5_reads_52 (kp_ck_i (by decide) hF)
        · refine kp_iconst C dX5_reads_35 ?_
          exact kp_retz C hr hlk G h dX5_reads_36 (kp_ck_i (by decide) hF)
  refine L22 kp_fu _ _ _ _ _ _ h (lv_sub hl [1, 0] rfl) (fun σ_5 H locs ls h hl hF => ?_) hF
  clear L22
  refine kp_iconst C dX5_reads_76 ?_
  exact kp_retz C hr hlk G h dX5_reads_77 (kp_ck_i (by decide) hF)
def kf_X6_lengthOf  (a1 : Int) (a2 : Int) (σ_0 : kp_W) : kp_R :=
  kp_ck (0 ≤ a2 ∧ a2 < 40) (kp_ck (0 ≤ ((a1 * 40) + a2) ∧ ((a1 * 40) + a2) < 400) (kp_ck (0 ≤ ((σ_0 49 (Int.toNat a2)) * (σ_0 50 (Int.toNat ((a1 * 40) + a2)))) ∧ ((σ_0 49 (Int.toNat a2)) * (σ_0 50 (Int.toNat ((a1 * 40) + a2)))) ≤ 2147483647 ∧ 0 < (10 : Int) ∧ (10 : Int) ≤ 2147483647) (some ((((σ_0 49 (Int.toNat a2)) * (σ_0 50 (Int.toNat ((a1 * 40) + a2)))) / 10), σ_0))))
set_option maxRecDepth 100000 in
set_option maxHeartbeats 4000000 in
theorem kc_X6_lengthOf {l : Launch} {X : kp_X} {a1 : Int} {a2 : Int}  {σ_0 σ' : kp_W} {r : Int}   (hF : (kf_X6_lengthOf a1 a2 σ_0) = some (r, σ')) : kp_Met l yX6_lengthOf cX6_lengthOf 3 (some .int) 0 X kp_lK 55 σ_0 [.ref (kp_ad X 48), kp_iv a1, kp_iv a2] (kp_Qi X kp_lK 55 σ' r) := by
  refine kp_body pnX6 (Nat.le_of_ble_eq_true rfl) ?_
  intro p e s m args below meth c ls C hr hlk G h hl
  unfold kf_X6_lengthOf at hF
  have hl : lv_has ls 3 [(0, .ref (kp_ad X 48)), (1, kp_iv a1), (2, kp_iv a2)] := hl
  refine kp_aload_n C dX6_lengthOf_0 rfl (lv_at hl 0 rfl) ?_
  refine kp_getr C G h kp_lK48 rfl inWX6 (j := 0) (by decide) q1_208 rfl dX6_lengthOf_1 ?_
  refine kp_iload_n C dX6_lengthOf_4 rfl (lv_at hl 2 rfl) ?_
  refine kp_iald C G h (n := 40) kp_lK49 (by decide) dX6_lengthOf_5 hF (fun hF => ?_)
  refine kp_aload_n C dX6_lengthOf_6 rfl (lv_at hl 0 rfl) ?_
  refine kp_getr C G h kp_lK48 rfl inWX6 (j := 1) (by decide) q1_210 rfl dX6_lengthOf_7 ?_
  refine kp_iload_n C dX6_lengthOf_10 rfl (lv_at hl 1 rfl) ?_
  refine kp_bipush C dX6_lengthOf_11 rfl ?_
  refine kp_imul C dX6_lengthOf_13 ?_
  refine kp_iload_n C dX6_lengthOf_14 rfl (lv_at hl 2 rfl) ?_
  refine kp_iadd C dX6_lengthOf_15 ?_
  refine kp_iald C G h (n := 400) kp_lK50 (by decide) dX6_lengthOf_16 hF (fun hF => ?_)
  refine kp_imul C dX6_lengthOf_17 ?_
  refine kp_bipush C dX6_lengthOf_18 rfl ?_
  refine kp_idiv C dX6_lengthOf_20 hF (fun hF => ?_)
  exact kp_reti C hr hlk G h dX6_lengthOf_21 hF
def kf_X6_holdOf  (a1 : Int) (a2 : Int) (σ_0 : kp_W) : kp_R :=
  kp_ck (0 ≤ ((a1 * 40) + a2) ∧ ((a1 * 40) + a2) < 400) (kp_ck (kp_in 1 ∧ kp_in (σ_0 51 (Int.toNat ((a1 * 40) + a2)))) (some ((kp_max 1 (σ_0 51 (Int.toNat ((a1 * 40) + a2)))), σ_0)))
set_option maxRecDepth 100000 in
set_option maxHeartbeats 4000000 in
theorem kc_X6_holdOf {l : Launch} {X : kp_X} {a1 : Int} {a2 : Int}  {σ_0 σ' : kp_W} {r : Int}   (hF : (kf_X6_holdOf a1 a2 σ_0) = some (r, σ')) : kp_Met l yX6_holdOf cX6_holdOf 3 (some .int) 1 X kp_lK 55 σ_0 [.ref (kp_ad X 48), kp_iv a1, kp_iv a2] (kp_Qi X kp_lK 55 σ' r) := by
  refine kp_body pnX6 (Nat.le_of_ble_eq_true rfl) ?_
  intro p e s m args below meth c ls C hr hlk G h hl
  unfold kf_X6_holdOf at hF
  have hl : lv_has ls 3 [(0, .ref (kp_ad X 48)), (1, kp_iv a1), (2, kp_iv a2)] := hl
  refine kp_iconst C dX6_holdOf_0 ?_
  refine kp_aload_n C dX6_holdOf_1 rfl (lv_at hl 0 rfl) ?_
  refine kp_getr C G h kp_lK48 rfl inWX6 (j := 2) (by decide) q1_211 rfl dX6_holdOf_2 ?_
  refine kp_iload_n C dX6_holdOf_5 rfl (lv_at hl 1 rfl) ?_
  refine kp_bipush C dX6_holdOf_6 rfl ?_
  refine kp_imul C dX6_holdOf_8 ?_
  refine kp_iload_n C dX6_holdOf_9 rfl (lv_at hl 2 rfl) ?_
  refine kp_iadd C dX6_holdOf_10 ?_
  refine kp_iald C G h (n := 400) kp_lK51 (by decide) dX6_holdOf_11 hF (fun hF => ?_)
  refine kp_mmax C hl.1 q2_236 q2_237 q1_18 q2_238 (by decide) (Nat.le_of_ble_eq_true rfl) dX6_holdOf_12 hF (fun hF => ?_)
  exact kp_reti C hr hlk G h dX6_holdOf_15 hF
def kf_X6_knocksOf  (a1 : Int) (a2 : Int) (σ_0 : kp_W) : kp_R :=
  kp_ck (0 ≤ ((a1 * 40) + a2) ∧ ((a1 * 40) + a2) < 400) (some ((σ_0 52 (Int.toNat ((a1 * 40) + a2))), σ_0))
set_option maxRecDepth 100000 in
set_option maxHeartbeats 4000000 in
theorem kc_X6_knocksOf {l : Launch} {X : kp_X} {a1 : Int} {a2 : Int}  {σ_0 σ' : kp_W} {r : Int}   (hF : (kf_X6_knocksOf a1 a2 σ_0) = some (r, σ')) : kp_Met l yX6_knocksOf cX6_knocksOf 3 (some .int) 0 X kp_lK 55 σ_0 [.ref (kp_ad X 48), kp_iv a1, kp_iv a2] (kp_Qi X kp_lK 55 σ' r) := by
  refine kp_body pnX6 (Nat.le_of_ble_eq_true rfl) ?_
  intro p e s m args below meth c ls C hr hlk G h hl
  unfold kf_X6_knocksOf at hF
  have hl : lv_has ls 3 [(0, .ref (kp_ad X 48)), (1, kp_iv a1), (2, kp_iv a2)] := hl
  refine kp_aload_n C dX6_knocksOf_0 rfl (lv_at hl 0 rfl) ?_
  refine kp_getr C G h kp_lK48 rfl inWX6 (j := 3) (by decide) q1_212 rfl dX6_knocksOf_1 ?_
  refine kp_iload_n C dX6_knocksOf_4 rfl (lv_at hl 1 rfl) ?_
  refine kp_bipush C dX6_knocksOf_5 rfl ?_
  refine kp_imul C dX6_knocksOf_7 ?_
  refine kp_iload_n C dX6_knocksOf_8 rfl (lv_at hl 2 rfl) ?_
  refine kp_iadd C dX6_knocksOf_9 ?_
  refine kp_iald C G h (n := 400) kp_lK52 (by decide) dX6_knocksOf_10 hF (fun hF => ?_)
  exact kp_reti C hr hlk G h dX6_knocksOf_11 hF
def kl_X6_knockingOf_5 (a1 : Int) : Nat → Int → Int → kp_W → (Int → kp_W → kp_R) → kp_R
  | 0, _, _, _, _ => none
  | n + 1, x2_1, x4_1, σ_1, k => kp_ls x4_1 40 (kp_bd (kf_X6_knocksOf a1 x4_1 σ_1) (fun r_0 σ_3 => kp_ls 0 r_0 (kp_ck (0 ≤ x4_1 ∧ x4_1 < 64) (kp_lt ((kp_orL x2_1 (1 * 2 ^ (Int.toNat x4_1))) : Int) (fun x2_3 => kp_lt (x4_1 + 1) (fun x4_3 => kl_X6_knockingOf_5 a1 n x2_3 x4_3 σ_3 k)))) (kp_lt (x4_1 + 1) (fun x4_2 => kl_X6_knockingOf_5 a1 n x2_1 x4_2 σ_3 k)))) (k x2_1 σ_1)
def kf_X6_knockingOf  (a1 : Int) (σ_0 : kp_W) : kp_R :=
  kp_lt (0 : Int) (fun x2_0 => kp_lt (0 : Int) (fun x4_0 => kl_X6_knockingOf_5 a1 kp_fu x2_0 x4_0 σ_0 (fun (x2_2 : Int) (σ_2 : kp_W) => some (x2_2, σ_2))))
set_option maxRecDepth 100000 in
set_option maxHeartbeats 4000000 in
theorem kc_X6_knockingOf {l : Launch} {X : kp_X} {a1 : Int}  {σ_0 σ' : kp_W} {r : Int}   (hF : (kf_X6_knockingOf a1 σ_0) = some (r, σ')) : kp_Met l yX6_knockingOf cX6_knockingOf 5 (some .long) 1 X kp_lK 55 σ_0 [.ref (kp_ad X 48), kp_iv a1] (kp_Ql X kp_lK 55 σ' r) := by
  refine kp_body pnX6 (Nat.le_of_ble_eq_true rfl) ?_
  intro p e s m args below meth c ls C hr hlk G h hl
  unfold kf_X6_knockingOf at hF
  have hl : lv_has ls 5 [(0, .ref (kp_ad X 48)), (1, kp_iv a1)] := hl
  refine kp_lconst (v := 0) C dX6_knockingOf_0 rfl ?_
  refine kp_lstore_n (lv' := fun x2_0 => [(2, kp_jv x2_0), (0, .ref (kp_ad X 48)), (1, kp_iv a1)]) C dX6_knockingOf_1 rfl hl (by decide) (fun _ => rfl) hF (fun x2_0 ls hl hF => ?_)
  refine kp_iconst C dX6_knockingOf_2 ?_
  refine kp_istore (lv' := fun x4_0 => [(4, kp_iv x4_0), (2, kp_jv x2_0), (0, .ref (kp_ad X 48)), (1, kp_iv a1)]) C dX6_knockingOf_3 hl (by decide) (fun _ => rfl) hF (fun x4_0 ls hl hF => ?_)
  have L5 : ∀ (n : Nat) (x2_1 : Int) (x4_1 : Int) (σ_1 : kp_W) (k : Int → kp_W → kp_R) (H : Heap) (locs : List Loc) (ls : Array Slot), kp_H X kp_lK 55 s σ_1 H locs → lv_has ls 5 [(0, .ref (kp_ad X 48)), (1, kp_iv a1), (2, kp_jv x2_1), (4, kp_iv x4_1)] → (∀ (x2_2 : Int) (σ_2 : kp_W) (H : Heap) (locs : List Loc) (ls : Array Slot), kp_H X kp_lK 55 s σ_2 H locs → lv_has ls 5 [(2, kp_jv x2_2)] → k x2_2 σ_2 = some (r, σ') → W p l e (kp_rm 1) s m args below meth c H locs 0 0 (MQ below (kp_Ql X kp_lK 55 σ' r) args s 0 0 (kp_A X 55)) (F0 m 35 ls [])) → kl_X6_knockingOf_5 a1 n x2_1 x4_1 σ_1 k = some (r, σ') → W p l e (kp_rm 1) s m args below meth c H locs 0 0 (MQ below (kp_Ql X kp_lK 55 σ' r) args s 0 0 (kp_A X 55)) (F0 m 5 ls []) := by
    intro n
    induction n with
    | zero =>
      intro x2_1 x4_1 σ_1 k H locs ls h hl K hF
      rw [kl_X6_knockingOf_5] at hF
      cases hF
    | succ n ih =>
      intro x2_1 x4_1 σ_1 k H locs ls h hl K hF
      rw [kl_X6_knockingOf_5] at hF
      refine kp_iload C dX6_knockingOf_5 (lv_at hl 3 rfl) ?_
      refine kp_bipush C dX6_knockingOf_7 rfl ?_
      refine kp_icmp_ge (tgt := 35) C dX6_knockingOf_9 (by decide) hF (fun hF => ?_) (fun hF => ?_)
      · exact K _ _ _ _ _ h (lv_sub hl [2] rfl) hF
      · refine kp_aload_n C dX6_knockingOf_12 rfl (lv_at hl 0 rfl) ?_
        refine kp_iload_n C dX6_knockingOf_13 rfl (lv_at hl 1 rfl) ?_
        refine kp_iload C dX6_knockingOf_14 (lv_at hl 3 rfl) ?_
        obtain ⟨r_0, σ_3, hc, hF⟩ := kp_bd_s hF
        refine kp_ci h (kp_rV (k := 48) (As := [kp_iv a1, kp_iv x4_1]) (rest := []) C G h (kc_X6_knocksOf  hc) q3_200 q3_63 q3_64 q1_9 q3_65 ⟨rfl, hd_X6_knocksOf⟩ (by decide) kp_lK48 rfl rfl hl.1 rfl (Nat.le_of_ble_eq_true rfl) dX6_knockingOf_16) (fun H locs h => ?_)
        refine kp_if_le (tgt := 29) C dX6_knockingOf_19 (by decide) hF (fun hF => ?_) (fun hF => ?_)
        · refine kp_iinc (k := 3) (lv' := fun x4_2 => [(4, kp_iv x4_2), (0, .ref (kp_ad X 48)), (1, kp_iv a1), (2, kp_jv x2_1)]) C dX6_knockingOf_29 hl rfl (by decide) (fun _ => rfl) hF (fun x4_2 ls hl hF => ?_)
          refine kp_goto (tgt := 5) C dX6_knockingOf_32 (by decide) ?_
          exact ih _ _ _ k _ _ _ h (lv_sub hl [1, 2, 3, 0] rfl) K hF
        · refine kp_lload_n C dX6_knockingOf_22 rfl (lv_at hl 2 rfl) ?_
          refine kp_lconst (v := 1) C dX6_knockingOf_23 rfl ?_
          refine kp_iload C dX6_knockingOf_24 (lv_at hl 3 rfl) ?_
          refine kp_xlshl C dX6_knockingOf_26 hF (fun hF => ?_)
          refine kp_xlor C dX6_knockingOf_27 ?_
          refine kp_lstore_n (lv' := fun x2_3 => [(2, kp_jv x2_3), (0, .ref (kp_ad X 48)), (1, kp_iv a1), (4, kp_iv x4_1)]) C dX6_knockingOf_28 rfl hl (by decide) (fun _ => rfl) hF (fun x2_3 ls hl hF => ?_)
          refine kp_iinc (k := 3) (lv' := fun x4_3 => [(4, kp_iv x4_3), (2, kp_jv x2_3), (0, .ref (kp_ad X 48)), (1, kp_iv a1)]) C dX6_knockingOf_29 hl rfl (by decide) (fun _ => rfl) hF (fun x4_3 ls hl hF => ?_)
          refine kp_goto (tgt := 5) C dX6_knockingOf_32 (by decide) ?_
          exact ih _ _ _ k _ _ _ h (lv_sub hl [2, 3, 1, 0] rfl) K hF
  refine L5 kp_fu _ _ _ _ _ _ _ h (lv_sub hl [2, 3, 1, 0] rfl) (fun x2_2 σ_2 H locs ls h hl hF => ?_) hF
  clear L5
  refine kp_lload_n C dX6_knockingOf_35 rfl (lv_at hl 0 rfl) ?_
  exact kp_retl C hr hlk G h dX6_knockingOf_36 hF
def kf_X8_subject  (a1 : Int) (σ_0 : kp_W) : kp_R :=
  kp_ck (0 ≤ a1 ∧ a1 ≤ 2147483647 ∧ 0 < (300 : Int) ∧ (300 : Int) ≤ 2147483647) (some ((a1 / 300), σ_0))
set_option maxRecDepth 100000 in
set_option maxHeartbeats 4000000 in
theorem kc_X8_subject {l : Launch} {X : kp_X} {a1 : Int}  {σ_0 σ' : kp_W} {r : Int}   (hF : (kf_X8_subject a1 σ_0) = some (r, σ')) : kp_Met l yX8_subject cX8_subject 1 (some .int) 0 X kp_lK 55 σ_0 [kp_iv a1] (kp_Qi X kp_lK 55 σ' r) := by
  refine kp_body pnX8 (Nat.le_of_ble_eq_true rfl) ?_
  intro p e s m args below meth c ls C hr hlk G h hl
  unfold kf_X8_subject at hF
  have hl : lv_has ls 1 [(0, kp_iv a1)] := hl
  refine kp_iload_n C dX8_subject_0 rfl (lv_at hl 0 rfl) ?_
  refine kp_sipush C dX8_subject_1 rfl ?_
  refine kp_idiv C dX8_subject_4 hF (fun hF => ?_)
  exact kp_reti C hr hlk G h dX8_subject_5 hF
def kf_X8_number  (a1 : Int) (σ_0 : kp_W) : kp_R :=
  kp_ck (0 ≤ a1 ∧ a1 ≤ 2147483647 ∧ 0 < (100 : Int) ∧ (100 : Int) ≤ 2147483647) (some ((a1 % 100), σ_0))
set_option maxRecDepth 100000 in
set_option maxHeartbeats 4000000 in
theorem kc_X8_number {l : Launch} {X : kp_X} {a1 : Int}  {σ_0 σ' : kp_W} {r : Int}   (hF : (kf_X8_number a1 σ_0) = some (r, σ')) : kp_Met l yX8_number cX8_number 1 (some .int) 0 X kp_lK 55 σ_0 [kp_iv a1] (kp_Qi X kp_lK 55 σ' r) := by
  refine kp_body pnX8 (Nat.le_of_ble_eq_true rfl) ?_
  intro p e s m args below meth c ls C hr hlk G h hl
  unfold kf_X8_number at hF
  have hl : lv_has ls 1 [(0, kp_iv a1)] := hl
  refine kp_iload_n C dX8_number_0 rfl (lv_at hl 0 rfl) ?_
  refine kp_bipush C dX8_number_1 rfl ?_
  refine kp_irem C dX8_number_3 hF (fun hF => ?_)
  exact kp_reti C hr hlk G h dX8_number_4 hF
def kf_X8_sign  (a1 : Int) (σ_0 : kp_W) : kp_R :=
  kp_ck (0 ≤ a1 ∧ a1 ≤ 2147483647 ∧ 0 < (100 : Int) ∧ (100 : Int) ≤ 2147483647) (kp_ck (0 ≤ (a1 / 100) ∧ (a1 / 100) ≤ 2147483647 ∧ 0 < (3 : Int) ∧ (3 : Int) ≤ 2147483647) (some (((a1 / 100) % 3), σ_0)))
set_option maxRecDepth 100000 in
set_option maxHeartbeats 4000000 in
theorem kc_X8_sign {l : Launch} {X : kp_X} {a1 : Int}  {σ_0 σ' : kp_W} {r : Int}   (hF : (kf_X8_sign a1 σ_0) = some (r, σ')) : kp_Met l yX8_sign cX8_sign 1 (some .int) 0 X kp_lK 55 σ_0 [kp_iv a1] (kp_Qi X kp_lK 55 σ' r) := by
  refine kp_body pnX8 (Nat.le_of_ble_eq_true rfl) ?_
  intro p e s m args below meth c ls C hr hlk G h hl
  unfold kf_X8_sign at hF
  have hl : lv_has ls 1 [(0, kp_iv a1)] := hl
  refine kp_iload_n C dX8_sign_0 rfl (lv_at hl 0 rfl) ?_
  refine kp_bipush C dX8_sign_1 rfl ?_
  refine kp_idiv C dX8_sign_3 hF (fun hF => ?_)
  refine kp_iconst C dX8_sign_4 ?_
  refine kp_irem C dX8_sign_5 hF (fun hF => ?_)
  exact kp_reti C hr hlk G h dX8_sign_6 hF
def kf_X8_minutes  (a1 : Int) (σ_0 : kp_W) : kp_R :=
  kp_bd (kf_X8_number a1 σ_0) (fun r_0 σ_1 => kp_lt (r_0 : Int) (fun x1_0 => kp_jn (fun (v_0 : Int) => kp_lt (v_0 : Int) (fun x2_0 => kp_jn (fun (v_1 : Int) => kp_lt (v_1 : Int) (fun x4_0 => kp_bd (kf_X8_sign a1 σ_1) (fun r_1 σ_2 => kp_eq r_1 0 (some (x2_0, σ_2)) (kp_eq r_1 1 (some (x4_0, σ_2)) (some ((kp_andL (kp_andL 1099511627775 (kp_xorL x2_0 (-1))) (kp_xorL x4_0 (-1))), σ_2)))))) (fun j36 => kp_ls x1_0 40 (kp_ck (0 ≤ x1_0 ∧ x1_0 < 64) (j36 (1 * 2 ^ (Int.toNat x1_0)))) (j36 0)))) (fun j22 => kp_ls x1_0 40 (kp_ck (0 ≤ x1_0 ∧ x1_0 < 64) (j22 ((1 * 2 ^ (Int.toNat x1_0)) - 1))) (j22 1099511627775))))
set_option maxRecDepth 100000 in
set_option maxHeartbeats 4000000 in
theorem kc_X8_minutes {l : Launch} {X : kp_X} {a1 : Int}  {σ_0 σ' : kp_W} {r : Int}   (hF : (kf_X8_minutes a1 σ_0) = some (r, σ')) : kp_Met l yX8_minutes cX8_minutes 6 (some .long) 1 X kp_lK 55 σ_0 [kp_iv a1] (kp_Ql X kp_lK 55 σ' r) := by
  refine kp_body pnX8 (Nat.le_of_ble_eq_true rfl) ?_
  intro p e s m args below meth c ls C hr hlk G h hl
  unfold kf_X8_minutes at hF
  have hl : lv_has ls 6 [(0, kp_iv a1)] := hl
  refine kp_iload_n C dX8_minutes_0 rfl (lv_at hl 0 rfl) ?_
  obtain ⟨r_0, σ_1, hc, hF⟩ := kp_bd_s hF
  refine kp_ci h (kp_rS (As := [kp_iv a1]) (rest := []) C G h (kc_X8_number  hc) q2_206 q2_207 q1_17 q2_208 hd_X8_number (by decide) rfl hl.1 rfl (Nat.le_of_ble_eq_true rfl) dX8_minutes_1) (fun H locs h => ?_)
  refine kp_istore_n (lv' := fun x1_0 => [(1, kp_iv x1_0), (0, kp_iv a1)]) C dX8_minutes_4 rfl hl (by decide) (fun _ => rfl) hF (fun x1_0 ls hl hF => ?_)
  refine kp_iload_n C dX8_minutes_5 rfl (lv_at hl 0 rfl) ?_
  refine kp_bipush C dX8_minutes_6 rfl ?_
  obtain ⟨j22, ej22, hF⟩ := kp_jn_s hF
  have J22 : ∀ (v_0 : Int), ∀ (H : Heap) (locs : List Loc) (ls : Array Slot), kp_H X kp_lK 55 s σ_1 H locs → lv_has ls 6 [(0, kp_iv a1), (1, kp_iv x1_0)] → j22 v_0 = some (r, σ') → W p l e (kp_rm 1) s m args below meth c H locs 0 0 (MQ below (kp_Ql X kp_lK 55 σ' r) args s 0 0 (kp_A X 55)) (F0 m 22 ls [kp_jv v_0]) := by
    intro v_0 H locs ls h hl hF
    rw [ej22] at hF
    refine kp_lstore_n (lv' := fun x2_0 => [(2, kp_jv x2_0), (0, kp_iv a1), (1, kp_iv x1_0)]) C dX8_minutes_22 rfl hl (by decide) (fun _ => rfl) hF (fun x2_0 ls hl hF => ?_)
    refine kp_iload_n C dX8_minutes_23 rfl (lv_at hl 2 rfl) ?_
    refine kp_bipush C dX8_minutes_24 rfl ?_
    obtain ⟨j36, ej36, hF⟩ := kp_jn_s hF
    have J36 : ∀ (v_1 : Int), ∀ (H : Heap) (locs : List Loc) (ls : Array Slot), kp_H X kp_lK 55 s σ_1 H locs → lv_has ls 6 [(0, kp_iv a1), (2, kp_jv x2_0)] → j36 v_1 = some (r, σ') → W p l e (kp_rm 1) s m args below meth c H locs 0 0 (MQ below (kp_Ql X kp_lK 55 σ' r) args s 0 0 (kp_A X 55)) (F0 m 36 ls [kp_jv v_1]) := by
      intro v_1 H locs ls h hl hF
      rw [ej36] at hF
      refine kp_lstore (lv' := fun x4_0 => [(4, kp_jv x4_0), (0, kp_iv a1), (2, kp_jv x2_0)]) C dX8_minutes_36 hl (by decide) (fun _ => rfl) hF (fun x4_0 ls hl hF => ?_)
      refine kp_iload_n C dX8_minutes_38 rfl (lv_at hl 1 rfl) ?_
      obtain ⟨r_1, σ_2, hc, hF⟩ := kp_bd_s hF
      refine kp_ci h (kp_rS (As := [kp_iv a1]) (rest := []) C G h (kc_X8_sign  hc) q2_210 q2_211 q1_17 q2_212 hd_X8_sign (by decide) rfl hl.1 rfl (Nat.le_of_ble_eq_true rfl) dX8_minutes_39) (fun H locs h => ?_)
      obtain ⟨hx, -, ha, hb⟩ := kp_eq_s hF
      by_cases q0 : r_1 = 0
      · have hF := ha q0
        clear ha hb
        refine kp_look (tgt := 68) C dX8_minutes_42 (by decide) hx (by rw [q0]) (by decide) ?_
        refine kp_lload_n C dX8_minutes_68 rfl (lv_at hl 2 rfl) ?_
        exact kp_retl C hr hlk G h dX8_minutes_69 hF
      · have hF := hb q0
        clear ha hb
        obtain ⟨hx, -, ha, hb⟩ := kp_eq_s hF
        by_cases q1 : r_1 = 1
        · have hF := ha q1
          clear ha hb
          refine kp_look (tgt := 70) C dX8_minutes_42 (by decide) hx (by rw [q1]) (by decide) ?_
          refine kp_lload C dX8_minutes_70 (lv_at hl 0 rfl) ?_
          exact kp_retl C hr hlk G h dX8_minutes_72 hF
        · have hF := hb q1
          clear ha hb
          refine kp_look (off := 31) (tgt := 73) C dX8_minutes_42 (by decide) hx (by simp only [Op.lookupswitch.offset]; repeat rw [if_neg (by omega)]) (by decide) ?_
          refine kp_ldc2 (n := 1099511627775) C q2_209 rfl dX8_minutes_73 ?_
          refine kp_lload_n C dX8_minutes_76 rfl (lv_at hl 2 rfl) ?_
          refine kp_ldc2 (n := (-1)) C q2_213 rfl dX8_minutes_77 ?_
          refine kp_xlxor C dX8_minutes_80 ?_
          refine kp_xland C dX8_minutes_81 ?_
          refine kp_lload C dX8_minutes_82 (lv_at hl 0 rfl) ?_
          refine kp_ldc2 (n := (-1)) C q2_213 rfl dX8_minutes_84 ?_
          refine kp_xlxor C dX8_minutes_87 ?_
          refine kp_xland C dX8_minutes_88 ?_
          exact kp_retl C hr hlk G h dX8_minutes_89 hF
    clear ej36
    refine kp_icmp_lt (tgt := 33) C dX8_minutes_26 (by decide) hF (fun hF => ?_) (fun hF => ?_)
    · refine kp_lconst (v := 1) C dX8_minutes_33 rfl ?_
      refine kp_iload_n C dX8_minutes_34 rfl (lv_at hl 2 rfl) ?_
      refine kp_xlshl C dX8_minutes_35 hF (fun hF => ?_)
      exact J36 _ _ _ _ h (lv_sub hl [1, 0] rfl) hF
    · refine kp_lconst (v := 0) C dX8_minutes_29 rfl ?_
      refine kp_goto (tgt := 36) C dX8_minutes_30 (by decide) ?_
      exact J36 _ _ _ _ h (lv_sub hl [1, 0] rfl) hF
  clear ej22
  refine kp_icmp_lt (tgt := 17) C dX8_minutes_8 (by decide) hF (fun hF => ?_) (fun hF => ?_)
  · refine kp_lconst (v := 1) C dX8_minutes_17 rfl ?_
    refine kp_iload_n C dX8_minutes_18 rfl (lv_at hl 0 rfl) ?_
    refine kp_xlshl C dX8_minutes_19 hF (fun hF => ?_)
    refine kp_lconst (v := 1) C dX8_minutes_20 rfl ?_
    refine kp_xlsub C dX8_minutes_21 ?_
    exact J22 _ _ _ _ h (lv_sub hl [1, 0] rfl) hF
  · refine kp_ldc2 (n := 1099511627775) C q2_209 rfl dX8_minutes_11 ?_
    refine kp_goto (tgt := 22) C dX8_minutes_14 (by decide) ?_
    exact J22 _ _ _ _ h (lv_sub hl [1, 0] rfl) hF
