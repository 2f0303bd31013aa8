-- by program (wip/whole/gen/drive.py)
def kf_X3_copy_11_30   (σ_0 : kp_W) : kp_R :=
  kp_lt (kp_fill σ_0 12 (σ_0 31) 10) (fun σ_1 => kp_lt (kp_fill σ_1 13 (σ_1 32) 10) (fun σ_2 => kp_lt (kp_fill σ_2 14 (σ_2 33) 10) (fun σ_3 => kp_lt (kp_fill σ_3 15 (σ_3 34) 10) (fun σ_4 => kp_lt (kp_up σ_4 11 4 (σ_4 30 4)) (fun σ_5 => kp_lt (kp_up σ_5 11 5 (σ_5 30 5)) (fun σ_6 => some (0, σ_6)))))))
set_option maxRecDepth 100000 in
set_option maxHeartbeats 4000000 in
theorem kc_X3_copy_11_30 {l : Launch} {X : kp_X}  {σ_0 σ' : kp_W} {r : Int}   (hF : (kf_X3_copy_11_30 σ_0) = some (r, σ')) : kp_Met l yX3_copy cX3_copy 2 none 1 X kp_lK 55 σ_0 [.ref (kp_ad X 11), .ref (kp_ad X 30)] (kp_Qv X kp_lK 55 σ') := by
  refine kp_body pnX3 (Nat.le_of_ble_eq_true rfl) ?_
  intro p e s m args below meth c ls C hr hlk G h hl
  unfold kf_X3_copy_11_30 at hF
  have hl : lv_has ls 2 [(0, .ref (kp_ad X 11)), (1, .ref (kp_ad X 30))] := hl
  refine kp_aload_n C dX3_copy_0 rfl (lv_at hl 1 rfl) ?_
  refine kp_getr C G h kp_lK30 rfl inWX3 (j := 0) (by decide) q1_102 rfl dX3_copy_1 ?_
  refine kp_iconst C dX3_copy_4 ?_
  refine kp_aload_n C dX3_copy_5 rfl (lv_at hl 0 rfl) ?_
  refine kp_getr C G h kp_lK11 rfl inWX3 (j := 0) (by decide) q1_102 rfl dX3_copy_6 ?_
  refine kp_iconst C dX3_copy_9 ?_
  refine kp_bipush C dX3_copy_10 rfl ?_
  refine kp_acI (n := 10) C G h hl.1 q4_25 q1_66 q1_65 q1_5 kp_lK31 kp_lK12 (by decide) (by decide) (Nat.le_of_ble_eq_true rfl) dX3_copy_12 hF (fun σ_1 H locs h hF => ?_)
  refine kp_aload_n C dX3_copy_15 rfl (lv_at hl 1 rfl) ?_
  refine kp_getr C G h kp_lK30 rfl inWX3 (j := 1) (by decide) q1_106 rfl dX3_copy_16 ?_
  refine kp_iconst C dX3_copy_19 ?_
  refine kp_aload_n C dX3_copy_20 rfl (lv_at hl 0 rfl) ?_
  refine kp_getr C G h kp_lK11 rfl inWX3 (j := 1) (by decide) q1_106 rfl dX3_copy_21 ?_
  refine kp_iconst C dX3_copy_24 ?_
  refine kp_bipush C dX3_copy_25 rfl ?_
  refine kp_acI (n := 10) C G h hl.1 q4_25 q1_66 q1_65 q1_5 kp_lK32 kp_lK13 (by decide) (by decide) (Nat.le_of_ble_eq_true rfl) dX3_copy_27 hF (fun σ_2 H locs h hF => ?_)
  refine kp_aload_n C dX3_copy_30 rfl (lv_at hl 1 rfl) ?_
  refine kp_getr C G h kp_lK30 rfl inWX3 (j := 2) (by decide) q1_109 rfl dX3_copy_31 ?_
  refine kp_iconst C dX3_copy_34 ?_
  refine kp_aload_n C dX3_copy_35 rfl (lv_at hl 0 rfl) ?_
  refine kp_getr C G h kp_lK11 rfl inWX3 (j := 2) (by decide) q1_109 rfl dX3_copy_36 ?_
  refine kp_iconst C dX3_copy_39 ?_
  refine kp_bipush C dX3_copy_40 rfl ?_
  refine kp_acI (n := 10) C G h hl.1 q4_25 q1_66 q1_65 q1_5 kp_lK33 kp_lK14 (by decide) (by decide) (Nat.le_of_ble_eq_true rfl) dX3_copy_42 hF (fun σ_3 H locs h hF => ?_)
  refine kp_aload_n C dX3_copy_45 rfl (lv_at hl 1 rfl) ?_
  refine kp_getr C G h kp_lK30 rfl inWX3 (j := 3) (by decide) q1_113 rfl dX3_copy_46 ?_
  refine kp_iconst C dX3_copy_49 ?_
  refine kp_aload_n C dX3_copy_50 rfl (lv_at hl 0 rfl) ?_
  refine kp_getr C G h kp_lK11 rfl inWX3 (j := 3) (by decide) q1_113 rfl dX3_copy_51 ?_
  refine kp_iconst C dX3_copy_54 ?_
  refine kp_bipush C dX3_copy_55 rfl ?_
  refine kp_acI (n := 10) C G h hl.1 q4_25 q1_66 q1_65 q1_5 kp_lK34 kp_lK15 (by decide) (by decide) (Nat.le_of_ble_eq_true rfl) dX3_copy_57 hF (fun σ_4 H locs h hF => ?_)
  refine kp_aload_n C dX3_copy_60 rfl (lv_at hl 0 rfl) ?_
  refine kp_aload_n C dX3_copy_61 rfl (lv_at hl 1 rfl) ?_
  refine kp_geti C G h kp_lK30 rfl inWX3 (j := 4) (by decide) q1_115 rfl dX3_copy_62 ?_
  refine kp_puti C G h kp_lK11 rfl inWX3 tyX3 tyX3_ok nmX3 (j := 4) (by decide) q1_115 rfl rfl (by decide +kernel) dX3_copy_65 hF (fun σ_5 H locs h hF => ?_)
  refine kp_aload_n C dX3_copy_68 rfl (lv_at hl 0 rfl) ?_
  refine kp_aload_n C dX3_copy_69 rfl (lv_at hl 1 rfl) ?_
  refine kp_geti C G h kp_lK30 rfl inWX3 (j := 5) (by decide) q1_117 rfl dX3_copy_70 ?_
  refine kp_puti C G h kp_lK11 rfl inWX3 tyX3 tyX3_ok nmX3 (j := 5) (by decide) q1_117 rfl rfl (by decide +kernel) dX3_copy_73 hF (fun σ_6 H locs h hF => ?_)
  exact kp_retv (v := 0) C hr hlk G h dX3_copy_76 hF
def kf_X4_copy_35_16   (σ_0 : kp_W) : kp_R :=
  kp_lt (kp_fill σ_0 36 (σ_0 17) 12) (fun σ_1 => kp_lt (kp_fill σ_1 37 (σ_1 18) 12) (fun σ_2 => kp_lt (kp_fill σ_2 38 (σ_2 19) 12) (fun σ_3 => kp_lt (kp_up σ_3 35 3 (σ_3 16 3)) (fun σ_4 => some (0, σ_4)))))
set_option maxRecDepth 100000 in
set_option maxHeartbeats 4000000 in
theorem kc_X4_copy_35_16 {l : Launch} {X : kp_X}  {σ_0 σ' : kp_W} {r : Int}   (hF : (kf_X4_copy_35_16 σ_0) = some (r, σ')) : kp_Met l yX4_copy cX4_copy 2 none 1 X kp_lK 55 σ_0 [.ref (kp_ad X 35), .ref (kp_ad X 16)] (kp_Qv X kp_lK 55 σ') := by
  refine kp_body pnX4 (Nat.le_of_ble_eq_true rfl) ?_
  intro p e s m args below meth c ls C hr hlk G h hl
  unfold kf_X4_copy_35_16 at hF
  have hl : lv_has ls 2 [(0, .ref (kp_ad X 35)), (1, .ref (kp_ad X 16))] := hl
  refine kp_aload_n C dX4_copy_0 rfl (lv_at hl 1 rfl) ?_
  refine kp_getr C G h kp_lK16 rfl inWX4 (j := 0) (by decide) q1_138 rfl dX4_copy_1 ?_
  refine kp_iconst C dX4_copy_4 ?_
  refine kp_aload_n C dX4_copy_5 rfl (lv_at hl 0 rfl) ?_
  refine kp_getr C G h kp_lK35 rfl inWX4 (j := 0) (by decide) q1_138 rfl dX4_copy_6 ?_
  refine kp_iconst C dX4_copy_9 ?_
  refine kp_bipush C dX4_copy_10 rfl ?_
  refine kp_acI (n := 12) C G h hl.1 q4_30 q1_66 q1_65 q1_5 kp_lK17 kp_lK36 (by decide) (by decide) (Nat.le_of_ble_eq_true rfl) dX4_copy_12 hF (fun σ_1 H locs h hF => ?_)
  refine kp_aload_n C dX4_copy_15 rfl (lv_at hl 1 rfl) ?_
  refine kp_getr C G h kp_lK16 rfl inWX4 (j := 1) (by decide) q1_140 rfl dX4_copy_16 ?_
  refine kp_iconst C dX4_copy_19 ?_
  refine kp_aload_n C dX4_copy_20 rfl (lv_at hl 0 rfl) ?_
  refine kp_getr C G h kp_lK35 rfl inWX4 (j := 1) (by decide) q1_140 rfl dX4_copy_21 ?_
  refine kp_iconst C dX4_copy_24 ?_
  refine kp_bipush C dX4_copy_25 rfl ?_
  refine kp_acI (n := 12) C G h hl.1 q4_30 q1_66 q1_65 q1_5 kp_lK18 kp_lK37 (by decide) (by decide) (Nat.le_of_ble_eq_true rfl) dX4_copy_27 hF (fun σ_2 H locs h hF => ?_)
  refine kp_aload_n C dX4_copy_30 rfl (lv_at hl 1 rfl) ?_
  refine kp_getr C G h kp_lK16 rfl inWX4 (j := 2) (by decide) q1_142 rfl dX4_copy_31 ?_
  refine kp_iconst C dX4_copy_34 ?_
  refine kp_aload_n C dX4_copy_35 rfl (lv_at hl 0 rfl) ?_
  refine kp_getr C G h kp_lK35 rfl inWX4 (j := 2) (by decide) q1_142 rfl dX4_copy_36 ?_
  refine kp_iconst C dX4_copy_39 ?_
  refine kp_bipush C dX4_copy_40 rfl ?_
  refine kp_acI (n := 12) C G h hl.1 q4_30 q1_66 q1_65 q1_5 kp_lK19 kp_lK38 (by decide) (by decide) (Nat.le_of_ble_eq_true rfl) dX4_copy_42 hF (fun σ_3 H locs h hF => ?_)
  refine kp_aload_n C dX4_copy_45 rfl (lv_at hl 0 rfl) ?_
  refine kp_aload_n C dX4_copy_46 rfl (lv_at hl 1 rfl) ?_
  refine kp_geti C G h kp_lK16 rfl inWX4 (j := 3) (by decide) q1_144 rfl dX4_copy_47 ?_
  refine kp_puti C G h kp_lK35 rfl inWX4 tyX4 tyX4_ok nmX4 (j := 3) (by decide) q1_144 rfl rfl (by decide +kernel) dX4_copy_50 hF (fun σ_4 H locs h hF => ?_)
  exact kp_retv (v := 0) C hr hlk G h dX4_copy_53 hF
def kf_X4_copy_16_35   (σ_0 : kp_W) : kp_R :=
  kp_lt (kp_fill σ_0 17 (σ_0 36) 12) (fun σ_1 => kp_lt (kp_fill σ_1 18 (σ_1 37) 12) (fun σ_2 => kp_lt (kp_fill σ_2 19 (σ_2 38) 12) (fun σ_3 => kp_lt (kp_up σ_3 16 3 (σ_3 35 3)) (fun σ_4 => some (0, σ_4)))))
set_option maxRecDepth 100000 in
set_option maxHeartbeats 4000000 in
theorem kc_X4_copy_16_35 {l : Launch} {X : kp_X}  {σ_0 σ' : kp_W} {r : Int}   (hF : (kf_X4_copy_16_35 σ_0) = some (r, σ')) : kp_Met l yX4_copy cX4_copy 2 none 1 X kp_lK 55 σ_0 [.ref (kp_ad X 16), .ref (kp_ad X 35)] (kp_Qv X kp_lK 55 σ') := by
  refine kp_body pnX4 (Nat.le_of_ble_eq_true rfl) ?_
  intro p e s m args below meth c ls C hr hlk G h hl
  unfold kf_X4_copy_16_35 at hF
  have hl : lv_has ls 2 [(0, .ref (kp_ad X 16)), (1, .ref (kp_ad X 35))] := hl
  refine kp_aload_n C dX4_copy_0 rfl (lv_at hl 1 rfl) ?_
  refine kp_getr C G h kp_lK35 rfl inWX4 (j := 0) (by decide) q1_138 rfl dX4_copy_1 ?_
  refine kp_iconst C dX4_copy_4 ?_
  refine kp_aload_n C dX4_copy_5 rfl (lv_at hl 0 rfl) ?_
  refine kp_getr C G h kp_lK16 rfl inWX4 (j := 0) (by decide) q1_138 rfl dX4_copy_6 ?_
  refine kp_iconst C dX4_copy_9 ?_
  refine kp_bipush C dX4_copy_10 rfl ?_
  refine kp_acI (n := 12) C G h hl.1 q4_30 q1_66 q1_65 q1_5 kp_lK36 kp_lK17 (by decide) (by decide) (Nat.le_of_ble_eq_true rfl) dX4_copy_12 hF (fun σ_1 H locs h hF => ?_)
  refine kp_aload_n C dX4_copy_15 rfl (lv_at hl 1 rfl) ?_
  refine kp_getr C G h kp_lK35 rfl inWX4 (j := 1) (by decide) q1_140 rfl dX4_copy_16 ?_
  refine kp_iconst C dX4_copy_19 ?_
  refine kp_aload_n C dX4_copy_20 rfl (lv_at hl 0 rfl) ?_
  refine kp_getr C G h kp_lK16 rfl inWX4 (j := 1) (by decide) q1_140 rfl dX4_copy_21 ?_
  refine kp_iconst C dX4_copy_24 ?_
  refine kp_bipush C dX4_copy_25 rfl ?_
  refine kp_acI (n := 12) C G h hl.1 q4_30 q1_66 q1_65 q1_5 kp_lK37 kp_lK18 (by decide) (by decide) (Nat.le_of_ble_eq_true rfl) dX4_copy_27 hF (fun σ_2 H locs h hF => ?_)
  refine kp_aload_n C dX4_copy_30 rfl (lv_at hl 1 rfl) ?_
  refine kp_getr C G h kp_lK35 rfl inWX4 (j := 2) (by decide) q1_142 rfl dX4_copy_31 ?_
  refine kp_iconst C dX4_copy_34 ?_
  refine kp_aload_n C dX4_copy_35 rfl (lv_at hl 0 rfl) ?_
  refine kp_getr C G h kp_lK16 rfl inWX4 (j := 2) (by decide) q1_142 rfl dX4_copy_36 ?_
  refine kp_iconst C dX4_copy_39 ?_
  refine kp_bipush C dX4_copy_40 rfl ?_
  refine kp_acI (n := 12) C G h hl.1 q4_30 q1_66 q1_65 q1_5 kp_lK38 kp_lK19 (by decide) (by decide) (Nat.le_of_ble_eq_true rfl) dX4_copy_42 hF (fun σ_3 H locs h hF => ?_)
  refine kp_aload_n C dX4_copy_45 rfl (lv_at hl 0 rfl) ?_
  refine kp_aload_n C dX4_copy_46 rfl (lv_at hl 1 rfl) ?_
  refine kp_geti C G h kp_lK35 rfl inWX4 (j := 3) (by decide) q1_144 rfl dX4_copy_47 ?_
  refine kp_puti C G h kp_lK16 rfl inWX4 tyX4 tyX4_ok nmX4 (j := 3) (by decide) q1_144 rfl rfl (by decide +kernel) dX4_copy_50 hF (fun σ_4 H locs h hF => ?_)
  exact kp_retv (v := 0) C hr hlk G h dX4_copy_53 hF
def kf_X1_copy_20_1   (σ_0 : kp_W) : kp_R :=
  kp_lt (kp_fill σ_0 21 (σ_0 2) 3) (fun σ_1 => kp_bd (kf_X7_copy_22_3 σ_1) (fun r_0 σ_2 => kp_bd (kf_X2_copy_24_5 σ_2) (fun r_1 σ_3 => kp_bd (kf_X3_copy_30_11 σ_3) (fun r_2 σ_4 => kp_bd (kf_X4_copy_35_16 σ_4) (fun r_3 σ_5 => kp_lt (kp_up σ_5 20 5 (σ_5 1 5)) (fun σ_6 => some (0, σ_6)))))))
set_option maxRecDepth 100000 in
set_option maxHeartbeats 4000000 in
theorem kc_X1_copy_20_1 {l : Launch} {X : kp_X}  {σ_0 σ' : kp_W} {r : Int}   (hF : (kf_X1_copy_20_1 σ_0) = some (r, σ')) : kp_Met l yX1_copy cX1_copy 2 none 2 X kp_lK 55 σ_0 [.ref (kp_ad X 20), .ref (kp_ad X 1)] (kp_Qv X kp_lK 55 σ') := by
  refine kp_body pnX1 (Nat.le_of_ble_eq_true rfl) ?_
  intro p e s m args below meth c ls C hr hlk G h hl
  unfold kf_X1_copy_20_1 at hF
  have hl : lv_has ls 2 [(0, .ref (kp_ad X 20)), (1, .ref (kp_ad X 1))] := hl
  refine kp_aload_n C dX1_copy_0 rfl (lv_at hl 1 rfl) ?_
  refine kp_getr C G h kp_lK1 rfl inWX1 (j := 0) (by decide) q1_155 rfl dX1_copy_1 ?_
  refine kp_iconst C dX1_copy_4 ?_
  refine kp_aload_n C dX1_copy_5 rfl (lv_at hl 0 rfl) ?_
  refine kp_getr C G h kp_lK20 rfl inWX1 (j := 0) (by decide) q1_155 rfl dX1_copy_6 ?_
  refine kp_iconst C dX1_copy_9 ?_
  refine kp_iconst C dX1_copy_10 ?_
  refine kp_acJ (n := 3) C G h hl.1 q4_18 q1_66 q1_65 q1_5 kp_lK2 kp_lK21 (by decide) (by decide) (Nat.le_of_ble_eq_true rfl) dX1_copy_11 hF (fun σ_1 H locs h hF => ?_)
  refine kp_aload_n C dX1_copy_14 rfl (lv_at hl 0 rfl) ?_
  refine kp_getr C G h kp_lK20 rfl inWX1 (j := 1) (by decide) q1_157 rfl dX1_copy_15 ?_
  refine kp_aload_n C dX1_copy_18 rfl (lv_at hl 1 rfl) ?_
  refine kp_getr C G h kp_lK1 rfl inWX1 (j := 1) (by decide) q1_157 rfl dX1_copy_19 ?_
  obtain ⟨r_0, σ_2, hc, hF⟩ := kp_bd_s hF
  refine kp_cv h (kp_rV (k := 22) (As := [.ref (kp_ad X 3)]) (rest := []) C G h (kc_X7_copy_22_3  hc) q4_19 q2_65 q2_66 q1_3 q2_67 ⟨rfl, hd_X7_copy⟩ (by decide) kp_lK22 rfl rfl hl.1 rfl (Nat.le_of_ble_eq_true rfl) dX1_copy_22) (fun H locs h => ?_)
  refine kp_aload_n C dX1_copy_25 rfl (lv_at hl 0 rfl) ?_
  refine kp_getr C G h kp_lK20 rfl inWX1 (j := 2) (by decide) q1_159 rfl dX1_copy_26 ?_
  refine kp_aload_n C dX1_copy_29 rfl (lv_at hl 1 rfl) ?_
  refine kp_getr C G h kp_lK1 rfl inWX1 (j := 2) (by decide) q1_159 rfl dX1_copy_30 ?_
  obtain ⟨r_1, σ_3, hc, hF⟩ := kp_bd_s hF
  refine kp_cv h (kp_rV (k := 24) (As := [.ref (kp_ad X 5)]) (rest := []) C G h (kc_X2_copy_24_5  hc) q4_20 q2_169 q2_170 q1_4 q2_171 ⟨rfl, hd_X2_copy⟩ (by decide) kp_lK24 rfl rfl hl.1 rfl (Nat.le_of_ble_eq_true rfl) dX1_copy_33) (fun H locs h => ?_)
  refine kp_aload_n C dX1_copy_36 rfl (lv_at hl 0 rfl) ?_
  refine kp_getr C G h kp_lK20 rfl inWX1 (j := 3) (by decide) q1_161 rfl dX1_copy_37 ?_
  refine kp_aload_n C dX1_copy_40 rfl (lv_at hl 1 rfl) ?_
  refine kp_getr C G h kp_lK1 rfl inWX1 (j := 3) (by decide) q1_161 rfl dX1_copy_41 ?_
  obtain ⟨r_2, σ_4, hc, hF⟩ := kp_bd_s hF
  refine kp_cv h (kp_rV (k := 30) (As := [.ref (kp_ad X 11)]) (rest := []) C G h (kc_X3_copy_30_11  hc) q4_21 q4_22 q4_23 q1_6 q4_24 ⟨rfl, hd_X3_copy⟩ (by decide) kp_lK30 rfl rfl hl.1 rfl (Nat.le_of_ble_eq_true rfl) dX1_copy_44) (fun H locs h => ?_)
  refine kp_aload_n C dX1_copy_47 rfl (lv_at hl 0 rfl) ?_
  refine kp_getr C G h kp_lK20 rfl inWX1 (j := 4) (by decide) q1_163 rfl dX1_copy_48 ?_
  refine kp_aload_n C dX1_copy_51 rfl (lv_at hl 1 rfl) ?_
  refine kp_getr C G h kp_lK1 rfl inWX1 (j := 4) (by decide) q1_163 rfl dX1_copy_52 ?_
  obtain ⟨r_3, σ_5, hc, hF⟩ := kp_bd_s hF
  refine kp_cv h (kp_rV (k := 35) (As := [.ref (kp_ad X 16)]) (rest := []) C G h (kc_X4_copy_35_16  hc) q4_26 q4_27 q4_28 q1_7 q4_29 ⟨rfl, hd_X4_copy⟩ (by decide) kp_lK35 rfl rfl hl.1 rfl (Nat.le_of_ble_eq_true rfl) dX1_copy_55) (fun H locs h => ?_)
  refine kp_aload_n C dX1_copy_58 rfl (lv_at hl 0 rfl) ?_
  refine kp_aload_n C dX1_copy_59 rfl (lv_at hl 1 rfl) ?_
  refine kp_geti C G h kp_lK1 rfl inWX1 (j := 5) (by decide) q1_165 rfl dX1_copy_60 ?_
  refine kp_puti C G h kp_lK20 rfl inWX1 tyX1 tyX1_ok nmX1 (j := 5) (by decide) q1_165 rfl rfl (by decide +kernel) dX1_copy_63 hF (fun σ_6 H locs h hF => ?_)
  exact kp_retv (v := 0) C hr hlk G h dX1_copy_66 hF
def kf_X1_copy_1_20   (σ_0 : kp_W) : kp_R :=
  kp_lt (kp_fill σ_0 2 (σ_0 21) 3) (fun σ_1 => kp_bd (kf_X7_copy_3_22 σ_1) (fun r_0 σ_2 => kp_bd (kf_X2_copy_5_24 σ_2) (fun r_1 σ_3 => kp_bd (kf_X3_copy_11_30 σ_3) (fun r_2 σ_4 => kp_bd (kf_X4_copy_16_35 σ_4) (fun r_3 σ_5 => kp_lt (kp_up σ_5 1 5 (σ_5 20 5)) (fun σ_6 => some (0, σ_6)))))))
set_option maxRecDepth 100000 in
set_option maxHeartbeats 4000000 in
theorem kc_X1_copy_1_20 {l : Launch} {X : kp_X}  {σ_0 σ' : kp_W} {r : Int}   (hF : (kf_X1_copy_1_20 σ_0) = some (r, σ')) : kp_Met l yX1_copy cX1_copy 2 none 2 X kp_lK 55 σ_0 [.ref (kp_ad X 1), .ref (kp_ad X 20)] (kp_Qv X kp_lK 55 σ') := by
  refine kp_body pnX1 (Nat.le_of_ble_eq_true rfl) ?_
  intro p e s m args below meth c ls C hr hlk G h hl
  unfold kf_X1_copy_1_20 at hF
  have hl : lv_has ls 2 [(0, .ref (kp_ad X 1)), (1, .ref (kp_ad X 20))] := hl
  refine kp_aload_n C dX1_copy_0 rfl (lv_at hl 1 rfl) ?_
  refine kp_getr C G h kp_lK20 rfl inWX1 (j := 0) (by decide) q1_155 rfl dX1_copy_1 ?_
  refine kp_iconst C dX1_copy_4 ?_
  refine kp_aload_n C dX1_copy_5 rfl (lv_at hl 0 rfl) ?_
  refine kp_getr C G h kp_lK1 rfl inWX1 (j := 0) (by decide) q1_155 rfl dX1_copy_6 ?_
  refine kp_iconst C dX1_copy_9 ?_
  refine kp_iconst C dX1_copy_10 ?_
  refine kp_acJ (n := 3) C G h hl.1 q4_18 q1_66 q1_65 q1_5 kp_lK21 kp_lK2 (by decide) (by decide) (Nat.le_of_ble_eq_true rfl) dX1_copy_11 hF (fun σ_1 H locs h hF => ?_)
  refine kp_aload_n C dX1_copy_14 rfl (lv_at hl 0 rfl) ?_
  refine kp_getr C G h kp_lK1 rfl inWX1 (j := 1) (by decide) q1_157 rfl dX1_copy_15 ?_
  refine kp_aload_n C dX1_copy_18 rfl (lv_at hl 1 rfl) ?_
  refine kp_getr C G h kp_lK20 rfl inWX1 (j := 1) (by decide) q1_157 rfl dX1_copy_19 ?_
  obtain ⟨r_0, σ_2, hc, hF⟩ := kp_bd_s hF
  refine kp_cv h (kp_rV (k := 3) (As := [.ref (kp_ad X 22)]) (rest := []) C G h (kc_X7_copy_3_22  hc) q4_19 q2_65 q2_66 q1_3 q2_67 ⟨rfl, hd_X7_copy⟩ (by decide) kp_lK3 rfl rfl hl.1 rfl (Nat.le_of_ble_eq_true rfl) dX1_copy_22) (fun H locs h => ?_)
  refine kp_aload_n C dX1_copy_25 rfl (lv_at hl 0 rfl) ?_
  refine kp_getr C G h kp_lK1 rfl inWX1 (j := 2) (by decide) q1_159 rfl dX1_copy_26 ?_
  refine kp_aload_n C dX1_copy_29 rfl (lv_at hl 1 rfl) ?_
  refine kp_getr C G h kp_lK20 rfl inWX1 (j := 2) (by decide) q1_159 rfl dX1_copy_30 ?_
  obtain ⟨r_1, σ_3, hc, hF⟩ := kp_bd_s hF
  refine kp_cv h (kp_rV (k := 5) (As := [.ref (kp_ad X 24)]) (rest := []) C G h (kc_X2_copy_5_24  hc) q4_20 q2_169 q2_170 q1_4 q2_171 ⟨rfl, hd_X2_copy⟩ (by decide) kp_lK5 rfl rfl hl.1 rfl (Nat.le_of_ble_eq_true rfl) dX1_copy_33) (fun H locs h => ?_)
  refine kp_aload_n C dX1_copy_36 rfl (lv_at hl 0 rfl) ?_
  refine kp_getr C G h kp_lK1 rfl inWX1 (j := 3) (by decide) q1_161 rfl dX1_copy_37 ?_
  refine kp_aload_n C dX1_copy_40 rfl (lv_at hl 1 rfl) ?_
  refine kp_getr C G h kp_lK20 rfl inWX1 (j := 3) (by decide) q1_161 rfl dX1_copy_41 ?_
  obtain ⟨r_2, σ_4, hc, hF⟩ := kp_bd_s hF
  refine kp_cv h (kp_rV (k := 11) (As := [.ref (kp_ad X 30)]) (rest := []) C G h (kc_X3_copy_11_30  hc) q4_21 q4_22 q4_23 q1_6 q4_24 ⟨rfl, hd_X3_copy⟩ (by decide) kp_lK11 rfl rfl hl.1 rfl (Nat.le_of_ble_eq_true rfl) dX1_copy_44) (fun H locs h => ?_)
  refine kp_aload_n C dX1_copy_47 rfl (lv_at hl 0 rfl) ?_
  refine kp_getr C G h kp_lK1 rfl inWX1 (j := 4) (by decide) q1_163 rfl dX1_copy_48 ?_
  refine kp_aload_n C dX1_copy_51 rfl (lv_at hl 1 rfl) ?_
  refine kp_getr C G h kp_lK20 rfl inWX1 (j := 4) (by decide) q1_163 rfl dX1_copy_52 ?_
  obtain ⟨r_3, σ_5, hc, hF⟩ := kp_bd_s hF
  refine kp_cv h (kp_rV (k := 16) (As := [.ref (kp_ad X 35)]) (rest := []) C G h (kc_X4_copy_16_35  hc) q4_26 q4_27 q4_28 q1_7 q4_29 ⟨rfl, hd_X4_copy⟩ (by decide) kp_lK16 rfl rfl hl.1 rfl (Nat.le_of_ble_eq_true rfl) dX1_copy_55) (fun H locs h => ?_)
  refine kp_aload_n C dX1_copy_58 rfl (lv_at hl 0 rfl) ?_
  refine kp_aload_n C dX1_copy_59 rfl (lv_at hl 1 rfl) ?_
  refine kp_geti C G h kp_lK20 rfl inWX1 (j := 5) (by decide) q1_165 rfl dX1_copy_60 ?_
  refine kp_puti C G h kp_lK1 rfl inWX1 tyX1 tyX1_ok nmX1 (j := 5) (by decide) q1_165 rfl rfl (by decide +kernel) dX1_copy_63 hF (fun σ_6 H locs h hF => ?_)
  exact kp_retv (v := 0) C hr hlk G h dX1_copy_66 hF
def kf_X2_empty_40   (σ_0 : kp_W) : kp_R :=
  kp_lt (kp_fill σ_0 41 (fun j => (kp_tb 0).getD j 0) 5) (fun σ_1 => kp_lt (kp_up σ_1 40 4 0) (fun σ_2 => kp_lt (kp_up σ_2 40 5 0) (fun σ_3 => kp_lt (kp_up σ_3 40 6 0) (fun σ_4 => some (0, σ_4)))))
set_option maxRecDepth 100000 in
set_option maxHeartbeats 4000000 in
theorem kc_X2_empty_40 {l : Launch} {X : kp_X}  {σ_0 σ' : kp_W} {r : Int}   (hF : (kf_X2_empty_40 σ_0) = some (r, σ')) : kp_Met l yX2_empty cX2_empty 1 none 1 X kp_lK 55 σ_0 [.ref (kp_ad X 40)] (kp_Qv X kp_lK 55 σ') := by
  refine kp_body pnX2 (Nat.le_of_ble_eq_true rfl) ?_
  intro p e s m args below meth c ls C hr hlk G h hl
  unfold kf_X2_empty_40 at hF
  have hl : lv_has ls 1 [(0, .ref (kp_ad X 40))] := hl
  refine kp_getsN (host := "KnockPipes") C G h (i := 0) (by decide) (by decide +kernel) dX2_empty_0 ?_
  refine kp_iconst C dX2_empty_3 ?_
  refine kp_aload_n C dX2_empty_4 rfl (lv_at hl 0 rfl) ?_
  refine kp_getr C G h kp_lK40 rfl inWX2 (j := 0) (by decide) q1_67 rfl dX2_empty_5 ?_
  refine kp_iconst C dX2_empty_8 ?_
  refine kp_iconst C dX2_empty_9 ?_
  refine kp_acT (i := 0) (n := 5) C G h hl.1 q1_64 q1_66 q1_65 q1_5 (by decide) rfl kp_lK41 (by decide) (by decide) (Nat.le_of_ble_eq_true rfl) dX2_empty_10 hF (fun σ_1 H locs h hF => ?_)
  refine kp_aload_n C dX2_empty_13 rfl (lv_at hl 0 rfl) ?_
  refine kp_iconst C dX2_empty_14 ?_
  refine kp_puti C G h kp_lK40 rfl inWX2 tyX2 tyX2_ok nmX2 (j := 4) (by decide) q1_77 rfl rfl (by decide +kernel) dX2_empty_15 hF (fun σ_2 H locs h hF => ?_)
  refine kp_aload_n C dX2_empty_18 rfl (lv_at hl 0 rfl) ?_
  refine kp_iconst C dX2_empty_19 ?_
  refine kp_puti C G h kp_lK40 rfl inWX2 tyX2 tyX2_ok nmX2 (j := 5) (by decide) q1_78 rfl rfl (by decide +kernel) dX2_empty_20 hF (fun σ_3 H locs h hF => ?_)
  refine kp_aload_n C dX2_empty_23 rfl (lv_at hl 0 rfl) ?_
  refine kp_iconst C dX2_empty_24 ?_
  refine kp_puti C G h kp_lK40 rfl inWX2 tyX2 tyX2_ok nmX2 (j := 6) (by decide) q1_80 rfl rfl (by decide +kernel) dX2_empty_25 hF (fun σ_4 H locs h hF => ?_)
  exact kp_retv (v := 0) C hr hlk G h dX2_empty_28 hF
def kf_X2_empty_H   (σ_0 : kp_W) : kp_R :=
  kp_lt (kp_fill σ_0 1 (fun j => (kp_tb 0).getD j 0) 5) (fun σ_1 => kp_lt (kp_up σ_1 0 4 0) (fun σ_2 => kp_lt (kp_up σ_2 0 5 0) (fun σ_3 => kp_lt (kp_up σ_3 0 6 0) (fun σ_4 => some (0, σ_4)))))
set_option maxRecDepth 100000 in
set_option maxHeartbeats 4000000 in
theorem kc_X2_empty_H {l : Launch} {X : kp_X}  {σ_0 σ' : kp_W} {r : Int}   (hF : (kf_X2_empty_H σ_0) = some (r, σ')) : kp_Met l yX2_empty cX2_empty 1 none 1 X kp_lH 5 σ_0 [.ref (kp_ad X 0)] (kp_Qv X kp_lH 5 σ') := by
  refine kp_body pnX2 (Nat.le_of_ble_eq_true rfl) ?_
  intro p e s m args below meth c ls C hr hlk G h hl
  unfold kf_X2_empty_H at hF
  have hl : lv_has ls 1 [(0, .ref (kp_ad X 0))] := hl
  refine kp_getsN (host := "KnockPipes") C G h (i := 0) (by decide) (by decide +kernel) dX2_empty_0 ?_
  refine kp_iconst C dX2_empty_3 ?_
  refine kp_aload_n C dX2_empty_4 rfl (lv_at hl 0 rfl) ?_
  refine kp_getr C G h kp_lH0 rfl inWX2 (j := 0) (by decide) q1_67 rfl dX2_empty_5 ?_
  refine kp_iconst C dX2_empty_8 ?_
  refine kp_iconst C dX2_empty_9 ?_
  refine kp_acT (i := 0) (n := 5) C G h hl.1 q1_64 q1_66 q1_65 q1_5 (by decide) rfl kp_lH1 (by decide) (by decide) (Nat.le_of_ble_eq_true rfl) dX2_empty_10 hF (fun σ_1 H locs h hF => ?_)
  refine kp_aload_n C dX2_empty_13 rfl (lv_at hl 0 rfl) ?_
  refine kp_iconst C dX2_empty_14 ?_
  refine kp_puti C G h kp_lH0 rfl inWX2 tyX2 tyX2_ok nmX2 (j := 4) (by decide) q1_77 rfl rfl (by decide +kernel) dX2_empty_15 hF (fun σ_2 H locs h hF => ?_)
  refine kp_aload_n C dX2_empty_18 rfl (lv_at hl 0 rfl) ?_
  refine kp_iconst C dX2_empty_19 ?_
  refine kp_puti C G h kp_lH0 rfl inWX2 tyX2 tyX2_ok nmX2 (j := 5) (by decide) q1_78 rfl rfl (by decide +kernel) dX2_empty_20 hF (fun σ_3 H locs h hF => ?_)
  refine kp_aload_n C dX2_empty_23 rfl (lv_at hl 0 rfl) ?_
  refine kp_iconst C dX2_empty_24 ?_
  refine kp_puti C G h kp_lH0 rfl inWX2 tyX2 tyX2_ok nmX2 (j := 6) (by decide) q1_80 rfl rfl (by decide +kernel) dX2_empty_25 hF (fun σ_4 H locs h hF => ?_)
  exact kp_retv (v := 0) C hr hlk G h dX2_empty_28 hF
def kf_X2_put  (a1 : Int) (σ_0 : kp_W) : kp_R :=
  kp_ls (σ_0 40 6) 0 (some (0, σ_0)) (kp_ls (σ_0 40 6) 120 (kp_ck (0 ≤ (σ_0 40 6) ∧ (σ_0 40 6) < 120) (kp_lt (kp_up σ_0 42 (Int.toNat (σ_0 40 6)) a1) (fun σ_1 => kp_lt (kp_up σ_1 40 6 ((σ_1 40 6) + 1)) (fun σ_2 => some (0, σ_2))))) (some (0, σ_0)))
set_option maxRecDepth 100000 in
set_option maxHeartbeats 4000000 in
theorem kc_X2_put {l : Launch} {X : kp_X} {a1 : Int}  {σ_0 σ' : kp_W} {r : Int}   (hF : (kf_X2_put a1 σ_0) = some (r, σ')) : kp_Met l yX2_put cX2_put 2 none 0 X kp_lK 55 σ_0 [.ref (kp_ad X 40), kp_iv a1] (kp_Qv X kp_lK 55 σ') := by
  refine kp_body pnX2 (Nat.le_of_ble_eq_true rfl) ?_
  intro p e s m args below meth c ls C hr hlk G h hl
  unfold kf_X2_put at hF
  have hl : lv_has ls 2 [(0, .ref (kp_ad X 40)), (1, kp_iv a1)] := hl
  refine kp_aload_n C dX2_put_0 rfl (lv_at hl 0 rfl) ?_
  refine kp_geti C G h kp_lK40 rfl inWX2 (j := 6) (by decide) q1_80 rfl dX2_put_1 ?_
  refine kp_if_lt (tgt := 19) C dX2_put_4 (by decide) hF (fun hF => ?_) (fun hF => ?_)
  · exact kp_retv (v := 0) C hr hlk G h dX2_put_19 hF
  · refine kp_aload_n C dX2_put_7 rfl (lv_at hl 0 rfl) ?_
    refine kp_geti C G h kp_lK40 rfl inWX2 (j := 6) (by decide) q1_80 rfl dX2_put_8 ?_
    refine kp_aload_n C dX2_put_11 rfl (lv_at hl 0 rfl) ?_
    refine kp_getr C G h kp_lK40 rfl inWX2 (j := 1) (by decide) q1_71 rfl dX2_put_12 ?_
    refine kp_alen C G h (n := 120) kp_lK42 (by decide) dX2_put_15 ?_
    refine kp_icmp_lt (tgt := 20) C dX2_put_16 (by decide) hF (fun hF => ?_) (fun hF => ?_)
    · refine kp_aload_n C dX2_put_20 rfl (lv_at hl 0 rfl) ?_
      refine kp_getr C G h kp_lK40 rfl inWX2 (j := 1) (by decide) q1_71 rfl dX2_put_21 ?_
      refine kp_aload_n C dX2_put_24 rfl (lv_at hl 0 rfl) ?_
      refine kp_geti C G h kp_lK40 rfl inWX2 (j := 6) (by decide) q1_80 rfl dX2_put_25 ?_
      refine kp_iload_n C dX2_put_28 rfl (lv_at hl 1 rfl) ?_
      refine kp_iast C G h (n := 120) kp_lK42 (by decide) dX2_put_29 hF (fun σ_1 H locs h hF => ?_)
      refine kp_aload_n C dX2_put_30 rfl (lv_at hl 0 rfl) ?_
      refine kp_dup C dX2_put_31 rfl ?_
      refine kp_geti C G h kp_lK40 rfl inWX2 (j := 6) (by decide) q1_80 rfl dX2_put_32 ?_
      refine kp_iconst C dX2_put_35 ?_
      refine kp_iadd C dX2_put_36 ?_
      refine kp_puti C G h kp_lK40 rfl inWX2 tyX2 tyX2_ok nmX2 (j := 6) (by decide) q1_80 rfl rfl (by decide +kernel) dX2_put_37 hF (fun σ_2 H locs h hF => ?_)
      exact kp_retv (v := 0) C hr hlk G h dX2_put_40 hF
    · exact kp_retv (v := 0) C hr hlk G h dX2_put_19 hF
def kf_X2_grows  (a1 : Int) (σ_0 : kp_W) : kp_R :=
  kp_ck (kp_in (σ_0 5 4) ∧ 0 ≤ a1 ∧ a1 < 32) (kp_eq (kp_and ((σ_0 5 4) / 2 ^ (Int.toNat a1)) 1) 0 (some (0, σ_0)) (some (1, σ_0)))
set_option maxRecDepth 100000 in
set_option maxHeartbeats 4000000 in
theorem kc_X2_grows {l : Launch} {X : kp_X} {a1 : Int}  {σ_0 σ' : kp_W} {r : Int}   (hF : (kf_X2_grows a1 σ_0) = some (r, σ')) : kp_Met l yX2_grows cX2_grows 2 (some .boolean) 0 X kp_lK 55 σ_0 [.ref (kp_ad X 5), kp_iv a1] (kp_Qi X kp_lK 55 σ' r) := by
  refine kp_body pnX2 (Nat.le_of_ble_eq_true rfl) ?_
  intro p e s m args below meth c ls C hr hlk G h hl
  unfold kf_X2_grows at hF
  have hl : lv_has ls 2 [(0, .ref (kp_ad X 5)), (1, kp_iv a1)] := hl
  refine kp_aload_n C dX2_grows_0 rfl (lv_at hl 0 rfl) ?_
  refine kp_geti C G h kp_lK5 rfl inWX2 (j := 4) (by decide) q1_77 rfl dX2_grows_1 ?_
  refine kp_iload_n C dX2_grows_4 rfl (lv_at hl 1 rfl) ?_
  refine kp_xishr C dX2_grows_5 hF (fun hF => ?_)
  refine kp_iconst C dX2_grows_6 ?_
  refine kp_xiand C dX2_grows_7 ?_
  refine kp_if_eq (tgt := 15) C dX2_grows_8 (by decide) hF (fun hF => ?_) (fun hF => ?_)
  · refine kp_iconst C dX2_grows_15 ?_
    exact kp_retz C hr hlk G h dX2_grows_16 (kp_ck_i (by decide) hF)
  · refine kp_iconst C dX2_grows_11 ?_
    refine kp_goto (tgt := 16) C dX2_grows_12 (by decide) ?_
    exact kp_retz C hr hlk G h dX2_grows_16 (kp_ck_i (by decide) hF)
def kf_X2_close  (a1 : Int) (a2 : Int) (σ_0 : kp_W) : kp_R :=
  kp_ls (σ_0 40 5) 0 (some (0, σ_0)) (kp_ls (σ_0 40 5) 10 (kp_jn (fun (σ_1 : kp_W) => kp_ck (0 ≤ (σ_1 40 5) ∧ (σ_1 40 5) < 10) (kp_lt (kp_up σ_1 44 (Int.toNat (σ_1 40 5)) a2) (fun σ_2 => kp_ck (0 ≤ (σ_2 40 5) ∧ (σ_2 40 5) < 10) (kp_lt (kp_up σ_2 45 (Int.toNat (σ_2 40 5)) (σ_2 40 6)) (fun σ_3 => kp_lt (kp_up σ_3 40 5 ((σ_3 40 5) + 1)) (fun σ_4 => some (0, σ_4))))))) (fun j36 => kp_eq a1 0 (j36 σ_0) (kp_ck (0 ≤ (σ_0 40 5) ∧ (σ_0 40 5) < 32) (kp_lt (kp_up σ_0 40 4 (kp_or (σ_0 40 4) (1 * 2 ^ (Int.toNat (σ_0 40 5))))) (fun σ_5 => j36 σ_5))))) (some (0, σ_0)))
set_option maxRecDepth 100000 in
set_option maxHeartbeats 4000000 in
theorem kc_X2_close {l : Launch} {X : kp_X} {a1 : Int} {a2 : Int}  {σ_0 σ' : kp_W} {r : Int}   (hF : (kf_X2_close a1 a2 σ_0) = some (r, σ')) : kp_Met l yX2_close cX2_close 3 none 0 X kp_lK 55 σ_0 [.ref (kp_ad X 40), kp_iv a1, kp_iv a2] (kp_Qv X kp_lK 55 σ') := by
  refine kp_body pnX2 (Nat.le_of_ble_eq_true rfl) ?_
  intro p e s m args below meth c ls C hr hlk G h hl
  unfold kf_X2_close at hF
  have hl : lv_has ls 3 [(0, .ref (kp_ad X 40)), (1, kp_iv a1), (2, kp_iv a2)] := hl
  refine kp_aload_n C dX2_close_0 rfl (lv_at hl 0 rfl) ?_
  refine kp_geti C G h kp_lK40 rfl inWX2 (j := 5) (by decide) q1_78 rfl dX2_close_1 ?_
  refine kp_if_lt (tgt := 16) C dX2_close_4 (by decide) hF (fun hF => ?_) (fun hF => ?_)
  · exact kp_retv (v := 0) C hr hlk G h dX2_close_16 hF
  · refine kp_aload_n C dX2_close_7 rfl (lv_at hl 0 rfl) ?_
    refine kp_geti C G h kp_lK40 rfl inWX2 (j := 5) (by decide) q1_78 rfl dX2_close_8 ?_
    refine kp_bipush C dX2_close_11 rfl ?_
    refine kp_icmp_lt (tgt := 17) C dX2_close_13 (by decide) hF (fun hF => ?_) (fun hF => ?_)
    · refine kp_iload_n C dX2_close_17 rfl (lv_at hl 1 rfl) ?_
      obtain ⟨j36, ej36, hF⟩ := kp_jn_s hF
      have J36 : ∀ (σ_1 : kp_W), ∀ (H : Heap) (locs : List Loc) (ls : Array Slot), kp_H X kp_lK 55 s σ_1 H locs → lv_has ls 3 [(0, .ref (kp_ad X 40)), (2, kp_iv a2)] → j36 σ_1 = some (r, σ') → W p l e (kp_rm 0) s m args below meth c H locs 0 0 (MQ below (kp_Qv X kp_lK 55 σ') args s 0 0 (kp_A X 55)) (F0 m 36 ls []) := by
        intro σ_1 H locs ls h hl hF
        rw [ej36] at hF
        refine kp_aload_n C dX2_close_36 rfl (lv_at hl 0 rfl) ?_
        refine kp_getr C G h kp_lK40 rfl inWX2 (j := 2) (by decide) q1_73 rfl dX2_close_37 ?_
        refine kp_aload_n C dX2_close_40 rfl (lv_at hl 0 rfl) ?_
        refine kp_geti C G h kp_lK40 rfl inWX2 (j := 5) (by decide) q1_78 rfl dX2_close_41 ?_
        refine kp_iload_n C dX2_close_44 rfl (lv_at hl 1 rfl) ?_
        refine kp_iast C G h (n := 10) kp_lK44 (by decide) dX2_close_45 hF (fun σ_2 H locs h hF => ?_)
        refine kp_aload_n C dX2_close_46 rfl (lv_at hl 0 rfl) ?_
        refine kp_getr C G h kp_lK40 rfl inWX2 (j := 3) (by decide) q1_75 rfl dX2_close_47 ?_
        refine kp_aload_n C dX2_close_50 rfl (lv_at hl 0 rfl) ?_
        refine kp_geti C G h kp_lK40 rfl inWX2 (j := 5) (by decide) q1_78 rfl dX2_close_51 ?_
        refine kp_aload_n C dX2_close_54 rfl (lv_at hl 0 rfl) ?_
        refine kp_geti C G h kp_lK40 rfl inWX2 (j := 6) (by decide) q1_80 rfl dX2_close_55 ?_
        refine kp_iast C G h (n := 10) kp_lK45 (by decide) dX2_close_58 hF (fun σ_3 H locs h hF => ?_)
        refine kp_aload_n C dX2_close_59 rfl (lv_at hl 0 rfl) ?_
        refine kp_dup C dX2_close_60 rfl ?_
        refine kp_geti C G h kp_lK40 rfl inWX2 (j := 5) (by decide) q1_78 rfl dX2_close_61 ?_
        refine kp_iconst C dX2_close_64 ?_
        refine kp_iadd C dX2_close_65 ?_
        refine kp_puti C G h kp_lK40 rfl inWX2 tyX2 tyX2_ok nmX2 (j := 5) (by decide) q1_78 rfl rfl (by decide +kernel) dX2_close_66 hF (fun σ_4 H locs h hF => ?_)
        exact kp_retv (v := 0) C hr hlk G h dX2_close_69 hF
      clear ej36
      refine kp_if_eq (tgt := 36) C dX2_close_18 (by decide) hF (fun hF => ?_) (fun hF => ?_)
      · exact J36 _ _ _ _ h (lv_sub hl [0, 2] rfl) hF
      · refine kp_aload_n C dX2_close_21 rfl (lv_at hl 0 rfl) ?_
        refine kp_dup C dX2_close_22 rfl ?_
        refine kp_geti C G h kp_lK40 rfl inWX2 (j := 4) (by decide) q1_77 rfl dX2_close_23 ?_
        refine kp_iconst C dX2_close_26 ?_
        refine kp_aload_n C dX2_close_27 rfl (lv_at hl 0 rfl) ?_
        refine kp_geti C G h kp_lK40 rfl inWX2 (j := 5) (by decide) q1_78 rfl dX2_close_28 ?_
        refine kp_xishl C dX2_close_31 hF (fun hF => ?_)
        refine kp_xior C dX2_close_32 ?_
        refine kp_puti C G h kp_lK40 rfl inWX2 tyX2 tyX2_ok nmX2 (j := 4) (by decide) q1_77 rfl rfl (by decide +kernel) dX2_close_33 hF (fun σ_5 H locs h hF => ?_)
        exact J36 _ _ _ _ h (lv_sub hl [0, 2] rfl) hF
    · exact kp_retv (v := 0) C hr hlk G h dX2_close_16 hF
def kf_X3_has  (a1 : Int) (σ_0 : kp_W) : kp_R :=
  kp_ls a1 0 (some (0, σ_0)) (kp_ls a1 (σ_0 11 5) (some (1, σ_0)) (some (0, σ_0)))
set_option maxRecDepth 100000 in
set_option maxHeartbeats 4000000 in
theorem kc_X3_has {l : Launch} {X : kp_X} {a1 : Int}  {σ_0 σ' : kp_W} {r : Int}   (hF : (kf_X3_has a1 σ_0) = some (r, σ')) : kp_Met l yX3_has cX3_has 2 (some .boolean) 0 X kp_lK 55 σ_0 [.ref (kp_ad X 11), kp_iv a1] (kp_Qi X kp_lK 55 σ' r) := by
  refine kp_body pnX3 (Nat.le_of_ble_eq_true rfl) ?_
  intro p e s m args below meth c ls C hr hlk G h hl
  unfold kf_X3_has at hF
  have hl : lv_has ls 2 [(0, .ref (kp_ad X 11)), (1, kp_iv a1)] := hl
  refine kp_iload_n C dX3_has_0 rfl (lv_at hl 1 rfl) ?_
  refine kp_if_lt (tgt := 16) C dX3_has_1 (by decide) hF (fun hF => ?_) (fun hF => ?_)
  · refine kp_iconst C dX3_has_16 ?_
    exact kp_retz C hr hlk G h dX3_has_17 (kp_ck_i (by decide) hF)
  · refine kp_iload_n C dX3_has_4 rfl (lv_at hl 1 rfl) ?_
    refine kp_aload_n C dX3_has_5 rfl (lv_at hl 0 rfl) ?_
    refine kp_geti C G h kp_lK11 rfl inWX3 (j := 5) (by decide) q1_117 rfl dX3_has_6 ?_
    refine kp_icmp_ge (tgt := 16) C dX3_has_9 (by decide) hF (fun hF => ?_) (fun hF => ?_)
    · refine kp_iconst C dX3_has_16 ?_
      exact kp_retz C hr hlk G h dX3_has_17 (kp_ck_i (by decide) hF)
    · refine kp_iconst C dX3_has_12 ?_
      refine kp_goto (tgt := 17) C dX3_has_13 (by decide) ?_
      exact kp_retz C hr hlk G h dX3_has_17 (kp_ck_i (by decide) hF)
def kf_X3_isLoose  (a1 : Int) (σ_0 : kp_W) : kp_R :=
  kp_ck (kp_in (σ_0 11 4) ∧ 0 ≤ a1 ∧ a1 < 32) (kp_eq (kp_and ((σ_0 11 4) / 2 ^ (Int.toNat a1)) 1) 0 (some (1, σ_0)) (some (0, σ_0)))
set_option maxRecDepth 100000 in
set_option maxHeartbeats 4000000 in
theorem kc_X3_isLoose {l : Launch} {X : kp_X} {a1 : Int}  {σ_0 σ' : kp_W} {r : Int}   (hF : (kf_X3_isLoose a1 σ_0) = some (r, σ')) : kp_Met l yX3_isLoose cX3_isLoose 2 (some .boolean) 0 X kp_lK 55 σ_0 [.ref (kp_ad X 11), kp_iv a1] (kp_Qi X kp_lK 55 σ' r) := by
  refine kp_body pnX3 (Nat.le_of_ble_eq_true rfl) ?_
  intro p e s m args below meth c ls C hr hlk G h hl
  unfold kf_X3_isLoose at hF
  have hl : lv_has ls 2 [(0, .ref (kp_ad X 11)), (1, kp_iv a1)] := hl
  refine kp_aload_n C dX3_isLoose_0 rfl (lv_at hl 0 rfl) ?_
  refine kp_geti C G h kp_lK11 rfl inWX3 (j := 4) (by decide) q1_115 rfl dX3_isLoose_1 ?_
  refine kp_iload_n C dX3_isLoose_4 rfl (lv_at hl 1 rfl) ?_
  refine kp_xishr C dX3_isLoose_5 hF (fun hF => ?_)
  refine kp_iconst C dX3_isLoose_6 ?_
  refine kp_xiand C dX3_isLoose_7 ?_
  refine kp_if_ne (tgt := 15) C dX3_isLoose_8 (by decide) hF (fun hF => ?_) (fun hF => ?_)
  · refine kp_iconst C dX3_isLoose_15 ?_
    exact kp_retz C hr hlk G h dX3_isLoose_16 (kp_ck_i (by decide) hF)
  · refine kp_iconst C dX3_isLoose_11 ?_
    refine kp_goto (tgt := 16) C dX3_isLoose_12 (by decide) ?_
    exact kp_retz C hr hlk G h dX3_isLoose_16 (kp_ck_i (by decide) hF)
def kf_X3_loose   (σ_0 : kp_W) : kp_R :=
  kp_ck (0 ≤ (σ_0 11 5) ∧ (σ_0 11 5) < 32) (some ((kp_and ((1 * 2 ^ (Int.toNat (σ_0 11 5))) - 1) (kp_xor (σ_0 11 4) (-1))), σ_0))
set_option maxRecDepth 100000 in
set_option maxHeartbeats 4000000 in
theorem kc_X3_loose {l : Launch} {X : kp_X}  {σ_0 σ' : kp_W} {r : Int}   (hF : (kf_X3_loose σ_0) = some (r, σ')) : kp_Met l yX3_loose cX3_loose 1 (some .int) 0 X kp_lK 55 σ_0 [.ref (kp_ad X 11)] (kp_Qi X kp_lK 55 σ' r) := by
  refine kp_body pnX3 (Nat.le_of_ble_eq_true rfl) ?_
  intro p e s m args below meth c ls C hr hlk G h hl
  unfold kf_X3_loose at hF
  have hl : lv_has ls 1 [(0, .ref (kp_ad X 11))] := hl
  refine kp_iconst C dX3_loose_0 ?_
  refine kp_aload_n C dX3_loose_1 rfl (lv_at hl 0 rfl) ?_
  refine kp_geti C G h kp_lK11 rfl inWX3 (j := 5) (by decide) q1_117 rfl dX3_loose_2 ?_
  refine kp_xishl C dX3_loose_5 hF (fun hF => ?_)
  refine kp_iconst C dX3_loose_6 ?_
  refine kp_isub C dX3_loose_7 ?_
  refine kp_aload_n C dX3_loose_8 rfl (lv_at hl 0 rfl) ?_
  refine kp_geti C G h kp_lK11 rfl inWX3 (j := 4) (by decide) q1_115 rfl dX3_loose_9 ?_
  refine kp_iconst C dX3_loose_12 ?_
  refine kp_xixor C dX3_loose_13 ?_
  refine kp_xiand C dX3_loose_14 ?_
  exact kp_reti C hr hlk G h dX3_loose_15 hF
def kf_X3_add  (a1 : Int) (a2 : Int) (a3 : Int) (a4 : Int) (σ_0 : kp_W) : kp_R :=
  kp_ls (σ_0 11 5) 0 (some ((-4), σ_0)) (kp_ls (σ_0 11 5) 10 (kp_ck (0 ≤ (σ_0 11 5) ∧ (σ_0 11 5) < 10) (kp_lt (kp_up σ_0 12 (Int.toNat (σ_0 11 5)) a1) (fun σ_1 => kp_ck (0 ≤ (σ_1 11 5) ∧ (σ_1 11 5) < 10) (kp_lt (kp_up σ_1 13 (Int.toNat (σ_1 11 5)) a2) (fun σ_2 => kp_ck (0 ≤ (σ_2 11 5) ∧ (σ_2 11 5) < 10) (kp_lt (kp_up σ_2 14 (Int.toNat (σ_2 11 5)) a3) (fun σ_3 => kp_ck (0 ≤ (σ_3 11 5) ∧ (σ_3 11 5) < 10) (kp_lt (kp_up σ_3 15 (Int.toNat (σ_3 11 5)) a4) (fun σ_4 => kp_lt (kp_up σ_4 11 5 ((σ_4 11 5) + 1)) (fun σ_5 => some ((σ_4 11 5), σ_5))))))))))) (some ((-4), σ_0)))
set_option maxRecDepth 100000 in
set_option maxHeartbeats 4000000 in
theorem kc_X3_add {l : Launch} {X : kp_X} {a1 : Int} {a2 : Int} {a3 : Int} {a4 : Int}  {σ_0 σ' : kp_W} {r : Int}   (hF : (kf_X3_add a1 a2 a3 a4 σ_0) = some (r, σ')) : kp_Met l yX3_add cX3_add 5 (some .int) 0 X kp_lK 55 σ_0 [.ref (kp_ad X 11), kp_iv a1, kp_iv a2, kp_iv a3, kp_iv a4] (kp_Qi X kp_lK 55 σ' r) := by
  refine kp_body pnX3 (Nat.le_of_ble_eq_true rfl) ?_
  intro p e s m args below meth c ls C hr hlk G h hl
  unfold kf_X3_add at hF
  have hl : lv_has ls 5 [(0, .ref (kp_ad X 11)), (1, kp_iv a1), (2, kp_iv a2), (3, kp_iv a3), (4, kp_iv a4)] := hl
  refine kp_aload_n C dX3_add_0 rfl (lv_at hl 0 rfl) ?_
  refine kp_geti C G h kp_lK11 rfl inWX3 (j := 5) (by decide) q1_117 rfl dX3_add_1 ?_
  refine kp_if_lt (tgt := 16) C dX3_add_4 (by decide) hF (fun hF => ?_) (fun hF => ?_)
  · refine kp_bipush C dX3_add_16 rfl ?_
    exact kp_reti C hr hlk G h dX3_add_18 hF
  · refine kp_aload_n C dX3_add_7 rfl (lv_at hl 0 rfl) ?_
    refine kp_geti C G h kp_lK11 rfl inWX3 (j := 5) (by decide) q1_117 rfl dX3_add_8 ?_
    refine kp_bipush C dX3_add_11 rfl ?_
    refine kp_icmp_lt (tgt := 19) C dX3_add_13 (by decide) hF (fun hF => ?_) (fun hF => ?_)
    · refine kp_aload_n C dX3_add_19 rfl (lv_at hl 0 rfl) ?_
      refine kp_getr C G h kp_lK11 rfl inWX3 (j := 0) (by decide) q1_102 rfl dX3_add_20 ?_
      refine kp_aload_n C dX3_add_23 rfl (lv_at hl 0 rfl) ?_
      refine kp_geti C G h kp_lK11 rfl inWX3 (j := 5) (by decide) q1_117 rfl dX3_add_24 ?_
      refine kp_iload_n C dX3_add_27 rfl (lv_at hl 1 rfl) ?_
      refine kp_iast C G h (n := 10) kp_lK12 (by decide) dX3_add_28 hF (fun σ_1 H locs h hF => ?_)
      refine kp_aload_n C dX3_add_29 rfl (lv_at hl 0 rfl) ?_
      refine kp_getr C G h kp_lK11 rfl inWX3 (j := 1) (by decide) q1_106 rfl dX3_add_30 ?_
      refine kp_aload_n C dX3_add_33 rfl (lv_at hl 0 rfl) ?_
      refine kp_geti C G h kp_lK11 rfl inWX3 (j := 5) (by decide) q1_117 rfl dX3_add_34 ?_
      refine kp_iload_n C dX3_add_37 rfl (lv_at hl 2 rfl) ?_
      refine kp_iast C G h (n := 10) kp_lK13 (by decide) dX3_add_38 hF (fun σ_2 H locs h hF => ?_)
      refine kp_aload_n C dX3_add_39 rfl (lv_at hl 0 rfl) ?_
      refine kp_getr C G h kp_lK11 rfl inWX3 (j := 2) (by decide) q1_109 rfl dX3_add_40 ?_
      refine kp_aload_n C dX3_add_43 rfl (lv_at hl 0 rfl) ?_
      refine kp_geti C G h kp_lK11 rfl inWX3 (j := 5) (by decide) q1_117 rfl dX3_add_44 ?_
      refine kp_iload_n C dX3_add_47 rfl (lv_at hl 3 rfl) ?_
      refine kp_iast C G h (n := 10) kp_lK14 (by decide) dX3_add_48 hF (fun σ_3 H locs h hF => ?_)
      refine kp_aload_n C dX3_add_49 rfl (lv_at hl 0 rfl) ?_
      refine kp_getr C G h kp_lK11 rfl inWX3 (j := 3) (by decide) q1_113 rfl dX3_add_50 ?_
      refine kp_aload_n C dX3_add_53 rfl (lv_at hl 0 rfl) ?_
      refine kp_geti C G h kp_lK11 rfl inWX3 (j := 5) (by decide) q1_117 rfl dX3_add_54 ?_
      refine kp_iload C dX3_add_57 (lv_at hl 4 rfl) ?_
      refine kp_iast C G h (n := 10) kp_lK15 (by decide) dX3_add_59 hF (fun σ_4 H locs h hF => ?_)
      refine kp_aload_n C dX3_add_60 rfl (lv_at hl 0 rfl) ?_
      refine kp_dup C dX3_add_61 rfl ?_
      refine kp_geti C G h kp_lK11 rfl inWX3 (j := 5) (by decide) q1_117 rfl dX3_add_62 ?_
      refine kp_dup_x1 C dX3_add_65 rfl rfl ?_
      refine kp_iconst C dX3_add_66 ?_
      refine kp_iadd C dX3_add_67 ?_
      refine kp_puti C G h kp_lK11 rfl inWX3 tyX3 tyX3_ok nmX3 (j := 5) (by decide) q1_117 rfl rfl (by decide +kernel) dX3_add_68 hF (fun σ_5 H locs h hF => ?_)
      exact kp_reti C hr hlk G h dX3_add_71 hF
    · refine kp_bipush C dX3_add_16 rfl ?_
      exact kp_reti C hr hlk G h dX3_add_18 hF
def kf_X4_add  (a1 : Int) (a2 : Int) (a3 : Int) (σ_0 : kp_W) : kp_R :=
  kp_ls (σ_0 16 3) 0 (some ((-4), σ_0)) (kp_ls (σ_0 16 3) 12 (kp_ck (0 ≤ (σ_0 16 3) ∧ (σ_0 16 3) < 12) (kp_lt (kp_up σ_0 17 (Int.toNat (σ_0 16 3)) a1) (fun σ_1 => kp_ck (0 ≤ (σ_1 16 3) ∧ (σ_1 16 3) < 12) (kp_lt (kp_up σ_1 18 (Int.toNat (σ_1 16 3)) a2) (fun σ_2 => kp_ck (0 ≤ (σ_2 16 3) ∧ (σ_2 16 3) < 12) (kp_lt (kp_up σ_2 19 (Int.toNat (σ_2 16 3)) a3) (fun σ_3 => kp_lt (kp_up σ_3 16 3 ((σ_3 16 3) + 1)) (fun σ_4 => some ((σ_4 16 3), σ_4))))))))) (some ((-4), σ_0)))
set_option maxRecDepth 100000 in
set_option maxHeartbeats 4000000 in
theorem kc_X4_add {l : Launch} {X : kp_X} {a1 : Int} {a2 : Int} {a3 : Int}  {σ_0 σ' : kp_W} {r : Int}   (hF : (kf_X4_add a1 a2 a3 σ_0) = some (r, σ')) : kp_Met l yX4_add cX4_add 4 (some .int) 0 X kp_lK 55 σ_0 [.ref (kp_ad X 16), kp_iv a1, kp_iv a2, kp_iv a3] (kp_Qi X kp_lK 55 σ' r) := by
  refine kp_body pnX4 (Nat.le_of_ble_eq_true rfl) ?_
  intro p e s m args below meth c ls C hr hlk G h hl
  unfold kf_X4_add at hF
  have hl : lv_has ls 4 [(0, .ref (kp_ad X 16)), (1, kp_iv a1), (2, kp_iv a2), (3, kp_iv a3)] := hl
  refine kp_aload_n C dX4_add_0 rfl (lv_at hl 0 rfl) ?_
  refine kp_geti C G h kp_lK16 rfl inWX4 (j := 3) (by decide) q1_144 rfl dX4_add_1 ?_
  refine kp_if_lt (tgt := 16) C dX4_add_4 (by decide) hF (fun hF => ?_) (fun hF => ?_)
  · refine kp_bipush C dX4_add_16 rfl ?_
    exact kp_reti C hr hlk G h dX4_add_18 hF
  · refine kp_aload_n C dX4_add_7 rfl (lv_at hl 0 rfl) ?_
    refine kp_geti C G h kp_lK16 rfl inWX4 (j := 3) (by decide) q1_144 rfl dX4_add_8 ?_
    refine kp_bipush C dX4_add_11 rfl ?_
    refine kp_icmp_lt (tgt := 19) C dX4_add_13 (by decide) hF (fun hF => ?_) (fun hF => ?_)
    · refine kp_aload_n C dX4_add_19 rfl (lv_at hl 0 rfl) ?_
      refine kp_getr C G h kp_lK16 rfl inWX4 (j := 0) (by decide) q1_138 rfl dX4_add_20 ?_
      refine kp_aload_n C dX4_add_23 rfl (lv_at hl 0 rfl) ?_
      refine kp_geti C G h kp_lK16 rfl inWX4 (j := 3) (by decide) q1_144 rfl dX4_add_24 ?_
      refine kp_iload_n C dX4_add_27 rfl (lv_at hl 1 rfl) ?_
      refine kp_iast C G h (n := 12) kp_lK17 (by decide) dX4_add_28 hF (fun σ_1 H locs h hF => ?_)
      refine kp_aload_n C dX4_add_29 rfl (lv_at hl 0 rfl) ?_
      refine kp_getr C G h kp_lK16 rfl inWX4 (j := 1) (by decide) q1_140 rfl dX4_add_30 ?_
      refine kp_aload_n C dX4_add_33 rfl (lv_at hl 0 rfl) ?_
      refine kp_geti C G h kp_lK16 rfl inWX4 (j := 3) (by decide) q1_144 rfl dX4_add_34 ?_
      refine kp_iload_n C dX4_add_37 rfl (lv_at hl 2 rfl) ?_
      refine kp_iast C G h (n := 12) kp_lK18 (by decide) dX4_add_38 hF (fun σ_2 H locs h hF => ?_)
      refine kp_aload_n C dX4_add_39 rfl (lv_at hl 0 rfl) ?_
      refine kp_getr C G h kp_lK16 rfl inWX4 (j := 2) (by decide) q1_142 rfl dX4_add_40 ?_
      refine kp_aload_n C dX4_add_43 rfl (lv_at hl 0 rfl) ?_
      refine kp_geti C G h kp_lK16 rfl inWX4 (j := 3) (by decide) q1_144 rfl dX4_add_44 ?_
      refine kp_iload_n C dX4_add_47 rfl (lv_at hl 3 rfl) ?_
      refine kp_iast C G h (n := 12) kp_lK19 (by decide) dX4_add_48 hF (fun σ_3 H locs h hF => ?_)
      refine kp_aload_n C dX4_add_49 rfl (lv_at hl 0 rfl) ?_
      refine kp_dup C dX4_add_50 rfl ?_
      refine kp_geti C G h kp_lK16 rfl inWX4 (j := 3) (by decide) q1_144 rfl dX4_add_51 ?_
      refine kp_iconst C dX4_add_54 ?_
      refine kp_iadd C dX4_add_55 ?_
      refine kp_puti C G h kp_lK16 rfl inWX4 tyX4 tyX4_ok nmX4 (j := 3) (by decide) q1_144 rfl rfl (by decide +kernel) dX4_add_56 hF (fun σ_4 H locs h hF => ?_)
      refine kp_aload_n C dX4_add_59 rfl (lv_at hl 0 rfl) ?_
      refine kp_geti C G h kp_lK16 rfl inWX4 (j := 3) (by decide) q1_144 rfl dX4_add_60 ?_
      exact kp_reti C hr hlk G h dX4_add_63 hF
    · refine kp_bipush C dX4_add_16 rfl ?_
      exact kp_reti C hr hlk G h dX4_add_18 hF
def kf_X5_peek   (σ_0 : kp_W) : kp_R :=
  kp_ls (σ_0 39 2) 0 (some ((-1), σ_0)) (kp_ls (σ_0 39 2) (σ_0 46 1) (kp_ls (σ_0 39 2) 120 (kp_ck (0 ≤ (σ_0 39 2) ∧ (σ_0 39 2) < 120) (some ((σ_0 47 (Int.toNat (σ_0 39 2))), σ_0))) (some ((-1), σ_0))) (some ((-1), σ_0)))
set_option maxRecDepth 100000 in
set_option maxHeartbeats 4000000 in
theorem kc_X5_peek {l : Launch} {X : kp_X}  {σ_0 σ' : kp_W} {r : Int}   (hF : (kf_X5_peek σ_0) = some (r, σ')) : kp_Met l yX5_peek cX5_peek 1 (some .int) 0 X kp_lK 55 σ_0 [.ref (kp_ad X 39)] (kp_Qi X kp_lK 55 σ' r) := by
  refine kp_body pnX5 (Nat.le_of_ble_eq_true rfl) ?_
  intro p e s m args below meth c ls C hr hlk G h hl
  unfold kf_X5_peek at hF
  have hl : lv_has ls 1 [(0, .ref (kp_ad X 39))] := hl
  refine kp_aload_n C dX5_peek_0 rfl (lv_at hl 0 rfl) ?_
  refine kp_geti C G h kp_lK39 rfl inWX5 (j := 2) (by decide) q1_193 rfl dX5_peek_1 ?_
  refine kp_if_lt (tgt := 51) C dX5_peek_4 (by decide) hF (fun hF => ?_) (fun hF => ?_)
  · refine kp_iconst C dX5_peek_51 ?_
    exact kp_reti C hr hlk G h dX5_peek_52 hF
  · refine kp_aload_n C dX5_peek_7 rfl (lv_at hl 0 rfl) ?_
    refine kp_geti C G h kp_lK39 rfl inWX5 (j := 2) (by decide) q1_193 rfl dX5_peek_8 ?_
    refine kp_aload_n C dX5_peek_11 rfl (lv_at hl 0 rfl) ?_
    refine kp_getr C G h kp_lK39 rfl inWX5 (j := 1) (by decide) q1_192 rfl dX5_peek_12 ?_
    refine kp_geti C G h kp_lK46 rfl inWX7 (j := 1) (by decide) q1_43 rfl dX5_peek_15 ?_
    refine kp_icmp_ge (tgt := 51) C dX5_peek_18 (by decide) hF (fun hF => ?_) (fun hF => ?_)
    · refine kp_iconst C dX5_peek_51 ?_
      exact kp_reti C hr hlk G h dX5_peek_52 hF
    · refine kp_aload_n C dX5_peek_21 rfl (lv_at hl 0 rfl) ?_
      refine kp_geti C G h kp_lK39 rfl inWX5 (j := 2) (by decide) q1_193 rfl dX5_peek_22 ?_
      refine kp_aload_n C dX5_peek_25 rfl (lv_at hl 0 rfl) ?_
      refine kp_getr C G h kp_lK39 rfl inWX5 (j := 1) (by decide) q1_192 rfl dX5_peek_26 ?_
      refine kp_getr C G h kp_lK46 rfl inWX7 (j := 0) (by decide) q1_41 rfl dX5_peek_29 ?_
      refine kp_alen C G h (n := 120) kp_lK47 (by decide) dX5_peek_32 ?_
      refine kp_icmp_ge (tgt := 51) C dX5_peek_33 (by decide) hF (fun hF => ?_) (fun hF => ?_)
      · refine kp_iconst C dX5_peek_51 ?_
        exact kp_reti C hr hlk G h dX5_peek_52 hF
      · refine kp_aload_n C dX5_peek_36 rfl (lv_at hl 0 rfl) ?_
        refine kp_getr C G h kp_lK39 rfl inWX5 (j := 1) (by decide) q1_192 rfl dX5_peek_37 ?_
        refine kp_getr C G h kp_lK46 rfl inWX7 (j := 0) (by decide) q1_41 rfl dX5_peek_40 ?_
        refine kp_aload_n C dX5_peek_43 rfl (lv_at hl 0 rfl) ?_
        refine kp_geti C G h kp_lK39 rfl inWX5 (j := 2) (by decide) q1_193 rfl dX5_peek_44 ?_
        refine kp_iald C G h (n := 120) kp_lK47 (by decide) dX5_peek_47 hF (fun hF => ?_)
        refine kp_goto (tgt := 52) C dX5_peek_48 (by decide) ?_
        exact kp_reti C hr hlk G h dX5_peek_52 hF
def kf_X5_eats  (a1 : Int) (σ_0 : kp_W) : kp_R :=
  kp_bd (kf_X5_peek σ_0) (fun r_0 σ_1 => kp_eq r_0 a1 (kp_lt (kp_up σ_1 39 2 ((σ_1 39 2) + 1)) (fun σ_2 => some (1, σ_2))) (some (0, σ_1)))
set_option maxRecDepth 100000 in
set_option maxHeartbeats 4000000 in
theorem kc_X5_eats {l : Launch} {X : kp_X} {a1 : Int}  {σ_0 σ' : kp_W} {r : Int}   (hF : (kf_X5_eats a1 σ_0) = some (r, σ')) : kp_Met l yX5_eats cX5_eats 2 (some .boolean) 1 X kp_lK 55 σ_0 [.ref (kp_ad X 39), kp_iv a1] (kp_Qi X kp_lK 55 σ' r) := by
  refine kp_body pnX5 (Nat.le_of_ble_eq_true rfl) ?_
  intro p e s m args below meth c ls C hr hlk G h hl
  unfold kf_X5_eats at hF
  have hl : lv_has ls 2 [(0, .ref (kp_ad X 39)), (1, kp_iv a1)] := hl
  refine kp_aload_n C dX5_eats_0 rfl (lv_at hl 0 rfl) ?_
  obtain ⟨r_0, σ_1, hc, hF⟩ := kp_bd_s hF
  refine kp_ci h (kp_rV (k := 39) (As := []) (rest := []) C G h (kc_X5_peek  hc) q2_119 q2_121 q0_1_2 q1_8 q2_122 ⟨rfl, hd_X5_peek⟩ (by decide) kp_lK39 rfl rfl hl.1 rfl (Nat.le_of_ble_eq_true rfl) dX5_eats_1) (fun H locs h => ?_)
  refine kp_iload_n C dX5_eats_4 rfl (lv_at hl 1 rfl) ?_
  refine kp_icmp_eq (tgt := 10) C dX5_eats_5 (by decide) hF (fun hF => ?_) (fun hF => ?_)
  · refine kp_aload_n C dX5_eats_10 rfl (lv_at hl 0 rfl) ?_
    refine kp_dup C dX5_eats_11 rfl ?_
    refine kp_geti C G h kp_lK39 rfl inWX5 (j := 2) (by decide) q1_193 rfl dX5_eats_12 ?_
    refine kp_iconst C dX5_eats_15 ?_
    refine kp_iadd C dX5_eats_16 ?_
    refine kp_puti C G h kp_lK39 rfl inWX5 tyX5 tyX5_ok nmX5 (j := 2) (by decide) q1_193 rfl rfl (by decide +kernel) dX5_eats_17 hF (fun σ_2 H locs h hF => ?_)
    refine kp_iconst C dX5_eats_20 ?_
    exact kp_retz C hr hlk G h dX5_eats_21 (kp_ck_i (by decide) hF)
  · refine kp_iconst C dX5_eats_8 ?_
    exact kp_retz C hr hlk G h dX5_eats_9 (kp_ck_i (by decide) hF)
def kl_X5_word_18 (x1_1 : Int) (x2_1 : Int) : Nat → Int → Int → Int → kp_W → (Int → Int → kp_W → kp_R) → kp_R
  | 0, _, _, _, _, _ => none
  | n + 1, x3_1, x4_1, x5_1, σ_3, k => kp_ls x5_1 7 (kp_ck (kp_in x1_1 ∧ 0 ≤ x5_1 ∧ x5_1 < 32) (kp_eq (kp_and (x1_1 / 2 ^ (Int.toNat x5_1)) 1) 0 (kp_lt (x5_1 + 1) (fun x5_2 => kl_X5_word_18 x1_1 x2_1 n x3_1 x4_1 x5_2 σ_3 k)) (kp_ck (0 ≤ ((x5_1 * 5) + x2_1) ∧ ((x5_1 * 5) + x2_1) < kp_slen 2) (kp_bd (kf_X5_peek σ_3) (fun r_1 σ_7 => kp_eq (kp_sch 2 ((x5_1 * 5) + x2_1)) r_1 (kp_ck (0 ≤ x5_1 ∧ x5_1 < 32) (kp_lt ((kp_or x4_1 (1 * 2 ^ (Int.toNat x5_1))) : Int) (fun x4_3 => kp_lt (x5_1 : Int) (fun x3_3 => kp_lt (x5_1 + 1) (fun x5_3 => kl_X5_word_18 x1_1 x2_1 n x3_3 x4_3 x5_3 σ_7 k))))) (kp_lt (x5_1 + 1) (fun x5_4 => kl_X5_word_18 x1_1 x2_1 n x3_1 x4_1 x5_4 σ_7 k))))))) (k x3_1 x4_1 σ_3)
def kl_X5_word_5  : Nat → Int → Int → kp_W → (kp_W → kp_R) → kp_R
  | 0, _, _, _, _ => none
  | n + 1, x1_1, x2_1, σ_1, k => kp_ls x2_1 5 (kp_lt ((-1) : Int) (fun x3_0 => kp_lt (0 : Int) (fun x4_0 => kp_lt (0 : Int) (fun x5_0 => kl_X5_word_18 x1_1 x2_1 kp_fu x3_0 x4_0 x5_0 σ_1 (fun (x3_2 : Int) (x4_2 : Int) (σ_4 : kp_W) => kp_eq x4_2 0 (some ((-1), σ_4)) (kp_bd (kf_X5_eats 32 σ_4) (fun r_0 σ_5 => kp_eq r_0 0 (kp_lt (kp_up σ_5 39 2 ((σ_5 39 2) + 1)) (fun σ_6 => kp_lt (x4_2 : Int) (fun x1_2 => kp_lt (x2_1 + 1) (fun x2_2 => kl_X5_word_5 n x1_2 x2_2 σ_6 k)))) (some (x3_2, σ_5))))))))) (k σ_1)
def kf_X5_word   (σ_0 : kp_W) : kp_R :=
  kp_lt (127 : Int) (fun x1_0 => kp_lt (0 : Int) (fun x2_0 => kl_X5_word_5 kp_fu x1_0 x2_0 σ_0 (fun (σ_2 : kp_W) => some ((-1), σ_2))))
set_option maxRecDepth 100000 in
set_option maxHeartbeats 4000000 in
theorem kc_X5_word {l : Launch} {X : kp_X}  {σ_0 σ' : kp_W} {r : Int}   (hF : (kf_X5_word σ_0) = some (r, σ')) : kp_Met l yX5_word cX5_word 6 (some .int) 5 X kp_lK 55 σ_0 [.ref (kp_ad X 39)] (kp_Qi X kp_lK 55 σ' r) := by
  refine kp_body pnX5 (Nat.le_of_ble_eq_true rfl) ?_
  intro p e s m args below meth c ls C hr hlk G h hl
  unfold kf_X5_word at hF
  have hl : lv_has ls 6 [(0, .ref (kp_ad X 39))] := hl
  refine kp_bipush C dX5_word_0 rfl ?_
  refine kp_istore_n (lv' := fun x1_0 => [(1, kp_iv x1_0), (0, .ref (kp_ad X 39))]) C dX5_word_2 rfl hl (by decide) (fun _ => rfl) hF (fun x1_0 ls hl hF => ?_)
  refine kp_iconst C dX5_word_3 ?_
  refine kp_istore_n (lv' := fun x2_0 => [(2, kp_iv x2_0), (1, kp_iv x1_0), (0, .ref (kp_ad X 39))]) C dX5_word_4 rfl hl (by decide) (fun _ => rfl) hF (fun x2_0 ls hl hF => ?_)
  have L5 : ∀ (n : Nat) (x1_1 : Int) (x2_1 : Int) (σ_1 : kp_W) (k : kp_W → kp_R) (H : Heap) (locs : List Loc) (ls : Array Slot), kp_H X kp_lK 55 s σ_1 H locs → lv_has ls 6 [(0, .ref (kp_ad X 39)), (1, kp_iv x1_1), (2, kp_iv x2_1)] → (∀ (σ_2 : kp_W) (H : Heap) (locs : List Loc) (ls : Array Slot), kp_H X kp_lK 55 s σ_2 H locs → lv_has ls 6 [] → k σ_2 = some (r, σ') → W p l e (kp_rm 5) s m args below meth c H locs 0 0 (MQ below (kp_Qi X kp_lK 55 σ' r) args s 0 0 (kp_A X 55)) (F0 m 110 ls [])) → kl_X5_word_5 n x1_1 x2_1 σ_1 k = some (r, σ') → W p l e (kp_rm 5) s m args below meth c H locs 0 0 (MQ below (kp_Qi X kp_lK 55 σ' r) args s 0 0 (kp_A X 55)) (F0 m 5 ls []) := by
    intro n
    induction n with
    | zero =>
      intro x1_1 x2_1 σ_1 k H locs ls h hl K hF
      rw [kl_X5_word_5] at hF
      cases hF
    | succ n ih =>
      intro x1_1 x2_1 σ_1 k H locs ls h hl K hF
      rw [kl_X5_word_5] at hF
      refine kp_iload_n C dX5_word_5 rfl (lv_at hl 2 rfl) ?_
      refine kp_iconst C dX5_word_6 ?_
      refine kp_icmp_ge (tgt := 110) C dX5_word_7 (by decide) hF (fun hF => ?_) (fun hF => ?_)
      · exact K _ _ _ _ h (lv_sub hl [] rfl) hF
      · refine kp_iconst C dX5_word_10 ?_
        refine kp_istore_n (lv' := fun x3_0 => [(3, kp_iv x3_0), (0, .ref (kp_ad X 39)), (1, kp_iv x1_1), (2, kp_iv x2_1)]) C dX5_word_11 rfl hl (by decide) (fun _ => rfl) hF (fun x3_0 ls hl hF => ?_)
        refine kp_iconst C dX5_word_12 ?_
        refine kp_istore (lv' := fun x4_0 => [(4, kp_iv x4_0), (3, kp_iv x3_0), (0, .ref (kp_ad X 39)), (1, kp_iv x1_1), (2, kp_iv x2_1)]) C dX5_word_13 hl (by decide) (fun _ => rfl) hF (fun x4_0 ls hl hF => ?_)
        refine kp_iconst C dX5_word_15 ?_
        refine kp_istore (lv' := fun x5_0 => [(5, kp_iv x5_0), (4, kp_iv x4_0), (3, kp_iv x3_0), (0, .ref (kp_ad X 39)), (1, kp_iv x1_1), (2, kp_iv x2_1)]) C dX5_word_16 hl (by decide) (fun _ => rfl) hF (fun x5_0 ls hl hF => ?_)
        have L18 : ∀ (n : Nat) (x3_1 : Int) (x4_1 : Int) (x5_1 : Int) (σ_3 : kp_W) (k : Int → Int → kp_W → kp_R) (H : Heap) (locs : List Loc) (ls : Array Slot), kp_H X kp_lK 55 s σ_3 H locs → lv_has ls 6 [(0, .ref (kp_ad X 39)), (1, kp_iv x1_1), (2, kp_iv x2_1), (3, kp_iv x3_1), (4, kp_iv x4_1), (5, kp_iv x5_1)] → (∀ (x3_2 : Int) (x4_2 : Int) (σ_4 : kp_W) (H : Heap) (locs : List Loc) (ls : Array Slot), kp_H X kp_lK 55 s σ_4 H locs → lv_has ls 6 [(0, .ref (kp_ad X 39)), (2, kp_iv x2_1), (3, kp_iv x3_2), (4, kp_iv x4_2)] → k x3_2 x4_2 σ_4 = some (r, σ') → W p l e (kp_rm 5) s m args below meth c H locs 0 0 (MQ below (kp_Qi X kp_lK 55 σ' r) args s 0 0 (kp_A X 55)) (F0 m 73 ls [])) → kl_X5_word_18 x1_1 x2_1 n x3_1 x4_1 x5_1 σ_3 k = some (r, σ') → W p l e (kp_rm 5) s m args below meth c H locs 0 0 (MQ below (kp_Qi X kp_lK 55 σ' r) args s 0 0 (kp_A X 55)) (F0 m 18 ls []) := by
          intro n
          induction n with
          | zero =>
            intro x3_1 x4_1 x5_1 σ_3 k H locs ls h hl K hF
            rw [kl_X5_word_18] at hF
            cases hF
          | succ n ih =>
            intro x3_1 x4_1 x5_1 σ_3 k H locs ls h hl K hF
            rw [kl_X5_word_18] at hF
            refine kp_iload C dX5_word_18 (lv_at hl 5 rfl) ?_
            refine kp_bipush C dX5_word_20 rfl ?_
            refine kp_icmp_ge (tgt := 73) C dX5_word_22 (by decide) hF (fun hF => ?_) (fun hF => ?_)
            · exact K _ _ _ _ _ _ h (lv_sub hl [0, 2, 3, 4] rfl) hF
            · refine kp_iload_n C dX5_word_25 rfl (lv_at hl 1 rfl) ?_
              refine kp_iload C dX5_word_26 (lv_at hl 5 rfl) ?_
              refine kp_xishr C dX5_word_28 hF (fun hF => ?_)
              refine kp_iconst C dX5_word_29 ?_
              refine kp_xiand C dX5_word_30 ?_
              refine kp_if_eq (tgt := 67) C dX5_word_31 (by decide) hF (fun hF => ?_) (fun hF => ?_)
              · refine kp_iinc (k := 5) (lv' := fun x5_2 => [(5, kp_iv x5_2), (0, .ref (kp_ad X 39)), (1, kp_iv x1_1), (2, kp_iv x2_1), (3, kp_iv x3_1), (4, kp_iv x4_1)]) C dX5_word_67 hl rfl (by decide) (fun _ => rfl) hF (fun x5_2 ls hl hF => ?_)
                refine kp_goto (tgt := 18) C dX5_word_70 (by decide) ?_
                exact ih _ _ _ _ k _ _ _ h (lv_sub hl [1, 2, 3, 4, 5, 0] rfl) K hF
              · refine kp_ldcS (tx := "grow hold warm cool iron air  hear ") (i := 2) C G (by decide +kernel) dX5_word_34 ?_
                refine kp_iload C dX5_word_36 (lv_at hl 5 rfl) ?_
                refine kp_iconst C dX5_word_38 ?_
                refine kp_imul C dX5_word_39 ?_
                refine kp_iload_n C dX5_word_40 rfl (lv_at hl 2 rfl) ?_
                refine kp_iadd C dX5_word_41 ?_
                obtain ⟨hcc, hF⟩ := kp_ck_s hF
                refine kp_ci h (kp_rT (i := 2) (As := [kp_iv ((x5_1 * 5) + x2_1)]) (rest := []) C G h (by decide) (kc_charAt (by decide) hcc) q2_79 q2_80 q2_81 q1_13 q2_82 hd_J0_charAt_5068e (by decide) rfl hl.1 rfl (Nat.le_of_ble_eq_true rfl) dX5_word_42) (fun H locs h => ?_)
                refine kp_aload_n C dX5_word_45 rfl (lv_at hl 0 rfl) ?_
                obtain ⟨r_1, σ_7, hc, hF⟩ := kp_bd_s hF
                refine kp_ci h (kp_rV (k := 39) (As := []) (rest := [kp_iv (kp_sch 2 ((x5_1 * 5) + x2_1))]) C G h (kc_X5_peek  hc) q2_119 q2_121 q0_1_2 q1_8 q2_122 ⟨rfl, hd_X5_peek⟩ (by decide) kp_lK39 rfl rfl hl.1 rfl (Nat.le_of_ble_eq_true rfl) dX5_word_46) (fun H locs h => ?_)
                refine kp_icmp_eq (tgt := 55) C dX5_word_49 (by decide) hF (fun hF => ?_) (fun hF => ?_)
                · refine kp_iload C dX5_word_55 (lv_at hl 4 rfl) ?_
                  refine kp_iconst C dX5_word_57 ?_
                  refine kp_iload C dX5_word_58 (lv_at hl 5 rfl) ?_
                  refine kp_xishl C dX5_word_60 hF (fun hF => ?_)
                  refine kp_xior C dX5_word_61 ?_
                  refine kp_istore (lv' := fun x4_3 => [(4, kp_iv x4_3), (0, .ref (kp_ad X 39)), (1, kp_iv x1_1), (2, kp_iv x2_1), (3, kp_iv x3_1), (5, kp_iv x5_1)]) C dX5_word_62 hl (by decide) (fun _ => rfl) hF (fun x4_3 ls hl hF => ?_)
                  refine kp_iload C dX5_word_64 (lv_at hl 5 rfl) ?_
                  refine kp_istore_n (lv' := fun x3_3 => [(3, kp_iv x3_3), (4, kp_iv x4_3), (0, .ref (kp_ad X 39)), (1, kp_iv x1_1), (2, kp_iv x2_1), (5, kp_iv x5_1)]) C dX5_word_66 rfl hl (by decide) (fun _ => rfl) hF (fun x3_3 ls hl hF => ?_)
                  refine kp_iinc (k := 5) (lv' := fun x5_3 => [(5, kp_iv x5_3), (3, kp_iv x3_3), (4, kp_iv x4_3), (0, .ref (kp_ad X 39)), (1, kp_iv x1_1), (2, kp_iv x2_1)]) C dX5_word_67 hl rfl (by decide) (fun _ => rfl) hF (fun x5_3 ls hl hF => ?_)
                  refine kp_goto (tgt := 18) C dX5_word_70 (by decide) ?_
                  exact ih _ _ _ _ k _ _ _ h (lv_sub hl [3, 4, 5, 1, 2, 0] rfl) K hF
                · refine kp_goto (tgt := 67) C dX5_word_52 (by decide) ?_
                  refine kp_iinc (k := 5) (lv' := fun x5_4 => [(5, kp_iv x5_4), (0, .ref (kp_ad X 39)), (1, kp_iv x1_1), (2, kp_iv x2_1), (3, kp_iv x3_1), (4, kp_iv x4_1)]) C dX5_word_67 hl rfl (by decide) (fun _ => rfl) hF (fun x5_4 ls hl hF => ?_)
                  refine kp_goto (tgt := 18) C dX5_word_70 (by decide) ?_
                  exact ih _ _ _ _ k _ _ _ h (lv_sub hl [1, 2, 3, 4, 5, 0] rfl) K hF
        refine L18 kp_fu _ _ _ _ _ _ _ _ h (lv_sub hl [3, 4, 5, 2, 1, 0] rfl) (fun x3_2 x4_2 σ_4 H locs ls h hl hF => ?_) hF
        clear L18
        refine kp_iload C dX5_word_73 (lv_at hl 3 rfl) ?_
        refine kp_if_ne (tgt := 80) C dX5_word_75 (by decide) hF (fun hF => ?_) (fun hF => ?_)
        · refine kp_aload_n C dX5_word_80 rfl (lv_at hl 0 rfl) ?_
          refine kp_bipush C dX5_word_81 rfl ?_
          obtain ⟨r_0, σ_5, hc, hF⟩ := kp_bd_s hF
          refine kp_ci h (kp_rV (k := 39) (As := [kp_iv 32]) (rest := []) C G h (kc_X5_eats  hc) q2_123 q2_125 q0_1_3 q1_8 q2_126 ⟨rfl, hd_X5_eats⟩ (by decide) kp_lK39 rfl rfl hl.1 rfl (Nat.le_of_ble_eq_true rfl) dX5_word_83) (fun H locs h => ?_)
          refine kp_if_eq (tgt := 91) C dX5_word_86 (by decide) hF (fun hF => ?_) (fun hF => ?_)
          · refine kp_aload_n C dX5_word_91 rfl (lv_at hl 0 rfl) ?_
            refine kp_dup C dX5_word_92 rfl ?_
            refine kp_geti C G h kp_lK39 rfl inWX5 (j := 2) (by decide) q1_193 rfl dX5_word_93 ?_
            refine kp_iconst C dX5_word_96 ?_
            refine kp_iadd C dX5_word_97 ?_
            refine kp_puti C G h kp_lK39 rfl inWX5 tyX5 tyX5_ok nmX5 (j := 2) (by decide) q1_193 rfl rfl (by decide +kernel) dX5_word_98 hF (fun σ_6 H locs h hF => ?_)
            refine kp_iload C dX5_word_101 (lv_at hl 3 rfl) ?_
            refine kp_istore_n (lv' := fun x1_2 => [(1, kp_iv x1_2), (0, .ref (kp_ad X 39)), (2, kp_iv x2_1), (3, kp_iv x3_2), (4, kp_iv x4_2)]) C dX5_word_103 rfl hl (by decide) (fun _ => rfl) hF (fun x1_2 ls hl hF => ?_)
            refine kp_iinc (k := 2) (lv' := fun x2_2 => [(2, kp_iv x2_2), (1, kp_iv x1_2), (0, .ref (kp_ad X 39)), (3, kp_iv x3_2), (4, kp_iv x4_2)]) C dX5_word_104 hl rfl (by decide) (fun _ => rfl) hF (fun x2_2 ls hl hF => ?_)
            refine kp_goto (tgt := 5) C dX5_word_107 (by decide) ?_
            exact ih _ _ _ k _ _ _ h (lv_sub hl [2, 1, 0] rfl) K hF
          · refine kp_iload_n C dX5_word_89 rfl (lv_at hl 2 rfl) ?_
            exact kp_reti C hr hlk G h dX5_word_90 hF
        · refine kp_iconst C dX5_word_78 ?_
          exact kp_reti C hr hlk G h dX5_word_79 hF
  refine L5 kp_fu _ _ _ _ _ _ _ h (lv_sub hl [2, 1, 0] rfl) (fun σ_2 H locs ls h hl hF => ?_) hF
  clear L5
  refine kp_iconst C dX5_word_110 ?_
  exact kp_reti C hr hlk G h dX5_word_111 hF
def kf_X5_number   (σ_0 : kp_W) : kp_R :=
  kp_bd (kf_X5_peek σ_0) (fun r_0 σ_1 => kp_lt ((r_0 - 48) : Int) (fun x1_0 => kp_ls x1_0 0 (some ((-1), σ_1)) (kp_ls 9 x1_0 (some ((-1), σ_1)) (kp_lt (kp_up σ_1 39 2 ((σ_1 39 2) + 1)) (fun σ_2 => kp_bd (kf_X5_peek σ_2) (fun r_1 σ_3 => kp_lt ((r_1 - 48) : Int) (fun x2_0 => kp_eq x1_0 0 (some (x1_0, σ_3)) (kp_ls x2_0 0 (some (x1_0, σ_3)) (kp_ls 9 x2_0 (some (x1_0, σ_3)) (kp_lt (kp_up σ_3 39 2 ((σ_3 39 2) + 1)) (fun σ_4 => some (((10 * x1_0) + x2_0), σ_4))))))))))))
set_option maxRecDepth 100000 in
set_option maxHeartbeats 4000000 in
theorem kc_X5_number {l : Launch} {X : kp_X}  {σ_0 σ' : kp_W} {r : Int}   (hF : (kf_X5_number σ_0) = some (r, σ')) : kp_Met l yX5_number cX5_number 3 (some .int) 1 X kp_lK 55 σ_0 [.ref (kp_ad X 39)] (kp_Qi X kp_lK 55 σ' r) := by
  refine kp_body pnX5 (Nat.le_of_ble_eq_true rfl) ?_
  intro p e s m args below meth c ls C hr hlk G h hl
  unfold kf_X5_number at hF
  have hl : lv_has ls 3 [(0, .ref (kp_ad X 39))] := hl
  refine kp_aload_n C dX5_number_0 rfl (lv_at hl 0 rfl) ?_
  obtain ⟨r_0, σ_1, hc, hF⟩ := kp_bd_s hF
  refine kp_ci h (kp_rV (k := 39) (As := []) (rest := []) C G h (kc_X5_peek  hc) q2_119 q2_121 q0_1_2 q1_8 q2_122 ⟨rfl, hd_X5_peek⟩ (by decide) kp_lK39 rfl rfl hl.1 rfl (Nat.le_of_ble_eq_true rfl) dX5_number_1) (fun H locs h => ?_)
  refine kp_bipush C dX5_number_4 rfl ?_
  refine kp_isub C dX5_number_6 ?_
  refine kp_istore_n (lv' := fun x1_0 => [(1, kp_iv x1_0), (0, .ref (kp_ad X 39))]) C dX5_number_7 rfl hl (by decide) (fun _ => rfl) hF (fun x1_0 ls hl hF => ?_)
  refine kp_iload_n C dX5_number_8 rfl (lv_at hl 0 rfl) ?_
  refine kp_if_lt (tgt := 18) C dX5_number_9 (by decide) hF (fun hF => ?_) (fun hF => ?_)
  · refine kp_iconst C dX5_number_18 ?_
    exact kp_reti C hr hlk G h dX5_number_19 hF
  · refine kp_iload_n C dX5_number_12 rfl (lv_at hl 0 rfl) ?_
    refine kp_bipush C dX5_number_13 rfl ?_
    refine kp_icmp_le (tgt := 20) C dX5_number_15 (by decide) hF (fun hF => ?_) (fun hF => ?_)
    · refine kp_aload_n C dX5_number_20 rfl (lv_at hl 1 rfl) ?_
      refine kp_dup C dX5_number_21 rfl ?_
      refine kp_geti C G h kp_lK39 rfl inWX5 (j := 2) (by decide) q1_193 rfl dX5_number_22 ?_
      refine kp_iconst C dX5_number_25 ?_
      refine kp_iadd C dX5_number_26 ?_
      refine kp_puti C G h kp_lK39 rfl inWX5 tyX5 tyX5_ok nmX5 (j := 2) (by decide) q1_193 rfl rfl (by decide +kernel) dX5_number_27 hF (fun σ_2 H locs h hF => ?_)
      refine kp_aload_n C dX5_number_30 rfl (lv_at hl 1 rfl) ?_
      obtain ⟨r_1, σ_3, hc, hF⟩ := kp_bd_s hF
      refine kp_ci h (kp_rV (k := 39) (As := []) (rest := []) C G h (kc_X5_peek  hc) q2_119 q2_121 q0_1_2 q1_8 q2_122 ⟨rfl, hd_X5_peek⟩ (by decide) kp_lK39 rfl rfl hl.1 rfl (Nat.le_of_ble_eq_true rfl) dX5_number_31) (fun H locs h => ?_)
      refine kp_bipush C dX5_number_34 rfl ?_
      refine kp_isub C dX5_number_36 ?_
      refine kp_istore_n (lv' := fun x2_0 => [(2, kp_iv x2_0), (1, kp_iv x1_0), (0, .ref (kp_ad X 39))]) C dX5_number_37 rfl hl (by decide) (fun _ => rfl) hF (fun x2_0 ls hl hF => ?_)
      refine kp_iload_n C dX5_number_38 rfl (lv_at hl 1 rfl) ?_
      refine kp_if_eq (tgt := 52) C dX5_number_39 (by decide) hF (fun hF => ?_) (fun hF => ?_)
      · refine kp_iload_n C dX5_number_52 rfl (lv_at hl 1 rfl) ?_
        exact kp_reti C hr hlk G h dX5_number_53 hF
      · refine kp_iload_n C dX5_number_42 rfl (lv_at hl 0 rfl) ?_
        refine kp_if_lt (tgt := 52) C dX5_number_43 (by decide) hF (fun hF => ?_) (fun hF => ?_)
        · refine kp_iload_n C dX5_number_52 rfl (lv_at hl 1 rfl) ?_
          exact kp_reti C hr hlk G h dX5_number_53 hF
        · refine kp_iload_n C dX5_number_46 rfl (lv_at hl 0 rfl) ?_
          refine kp_bipush C dX5_number_47 rfl ?_
          refine kp_icmp_le (tgt := 54) C dX5_number_49 (by decide) hF (fun hF => ?_) (fun hF => ?_)
          · refine kp_aload_n C dX5_number_54 rfl (lv_at hl 2 rfl) ?_
            refine kp_dup C dX5_number_55 rfl ?_
            refine kp_geti C G h kp_lK39 rfl inWX5 (j := 2) (by decide) q1_193 rfl dX5_number_56 ?_
            refine kp_iconst C dX5_number_59 ?_
            refine kp_iadd C dX5_number_60 ?_
            refine kp_puti C G h kp_lK39 rfl inWX5 tyX5 tyX5_ok nmX5 (j := 2) (by decide) q1_193 rfl rfl (by decide +kernel) dX5_number_61 hF (fun σ_4 H locs h hF => ?_)
            refine kp_bipush C dX5_number_64 rfl ?_
            refine kp_iload_n C dX5_number_66 rfl (lv_at hl 1 rfl) ?_
            refine kp_imul C dX5_number_67 ?_
            refine kp_iload_n C dX5_number_68 rfl (lv_at hl 0 rfl) ?_
            refine kp_iadd C dX5_number_69 ?_
            exact kp_reti C hr hlk G h dX5_number_70 hF
          · refine kp_iload_n C dX5_number_52 rfl (lv_at hl 1 rfl) ?_
            exact kp_reti C hr hlk G h dX5_number_53 hF
    · refine kp_iconst C dX5_number_18 ?_
      exact kp_reti C hr hlk G h dX5_number_19 hF
