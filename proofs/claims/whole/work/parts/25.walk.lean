-- by program (wip/whole/gen/drive.py)
def kf_X9_of  (a1 : Int) (a2 : Int) (σ_0 : kp_W) : kp_R :=
  kp_bd (kf_X3_has a1 σ_0) (fun r_0 σ_1 => kp_eq r_0 0 (some ((-1), σ_1)) (kp_eq a2 0 (kp_ck (0 ≤ a1 ∧ a1 < 10) (some ((σ_1 12 (Int.toNat a1)), σ_1))) (kp_eq a2 1 (kp_ck (0 ≤ a1 ∧ a1 < 10) (some ((σ_1 13 (Int.toNat a1)), σ_1))) (kp_eq a2 2 (kp_ck (0 ≤ a1 ∧ a1 < 10) (some ((σ_1 14 (Int.toNat a1)), σ_1))) (kp_eq a2 3 (kp_ck (0 ≤ a1 ∧ a1 < 10) (some ((σ_1 15 (Int.toNat a1)), σ_1))) (kp_eq a2 4 (kp_ck (kp_in (σ_1 11 4) ∧ 0 ≤ a1 ∧ a1 < 32) (some ((kp_and ((σ_1 11 4) / 2 ^ (Int.toNat a1)) 1), σ_1))) (some ((-1), σ_1))))))))
set_option maxRecDepth 100000 in
set_option maxHeartbeats 4000000 in
theorem kc_X9_of {l : Launch} {X : kp_X} {a1 : Int} {a2 : Int}  {σ_0 σ' : kp_W} {r : Int}   (hF : (kf_X9_of a1 a2 σ_0) = some (r, σ')) : kp_Met l yX9_of cX9_of 3 (some .int) 1 X kp_lK 55 σ_0 [.ref (kp_ad X 0), kp_iv a1, kp_iv a2] (kp_Qi X kp_lK 55 σ' r) := by
  refine kp_body pnX9 (Nat.le_of_ble_eq_true rfl) ?_
  intro p e s m args below meth c ls C hr hlk G h hl
  unfold kf_X9_of at hF
  have hl : lv_has ls 3 [(0, .ref (kp_ad X 0)), (1, kp_iv a1), (2, kp_iv a2)] := hl
  refine kp_aload_n C dX9_of_0 rfl (lv_at hl 0 rfl) ?_
  refine kp_getr C G h kp_lK0 rfl inWX9 (j := 0) (by decide) q2_12 rfl dX9_of_1 ?_
  refine kp_getr C G h kp_lK1 rfl inWX1 (j := 3) (by decide) q1_162 rfl dX9_of_4 ?_
  refine kp_iload_n C dX9_of_7 rfl (lv_at hl 1 rfl) ?_
  obtain ⟨r_0, σ_1, hc, hF⟩ := kp_bd_s hF
  refine kp_ci h (kp_rV (k := 11) (As := [kp_iv a1]) (rest := []) C G h (kc_X3_has  hc) q3_44 q3_45 q3_46 q1_6 q3_47 ⟨rfl, hd_X3_has⟩ (by decide) kp_lK11 rfl rfl hl.1 rfl (Nat.le_of_ble_eq_true rfl) dX9_of_8) (fun H locs h => ?_)
  refine kp_if_ne (tgt := 16) C dX9_of_11 (by decide) hF (fun hF => ?_) (fun hF => ?_)
  · refine kp_iload_n C dX9_of_16 rfl (lv_at hl 2 rfl) ?_
    obtain ⟨hx, -, ha, hb⟩ := kp_eq_s hF
    by_cases q0 : a2 = 0
    · have hF := ha q0
      clear ha hb
      refine kp_tabIn (v := 0) (tgt := 52) C dX9_of_17 q0 (by decide) rfl (by decide) ?_
      refine kp_aload_n C dX9_of_52 rfl (lv_at hl 0 rfl) ?_
      refine kp_getr C G h kp_lK0 rfl inWX9 (j := 0) (by decide) q2_12 rfl dX9_of_53 ?_
      refine kp_getr C G h kp_lK1 rfl inWX1 (j := 3) (by decide) q1_162 rfl dX9_of_56 ?_
      refine kp_getr C G h kp_lK11 rfl inWX3 (j := 0) (by decide) q1_104 rfl dX9_of_59 ?_
      refine kp_iload_n C dX9_of_62 rfl (lv_at hl 1 rfl) ?_
      refine kp_iald C G h (n := 10) kp_lK12 (by decide) dX9_of_63 hF (fun hF => ?_)
      exact kp_reti C hr hlk G h dX9_of_64 hF
    · have hF := hb q0
      clear ha hb
      obtain ⟨hx, -, ha, hb⟩ := kp_eq_s hF
      by_cases q1 : a2 = 1
      · have hF := ha q1
        clear ha hb
        refine kp_tabIn (v := 1) (tgt := 65) C dX9_of_17 q1 (by decide) rfl (by decide) ?_
        refine kp_aload_n C dX9_of_65 rfl (lv_at hl 0 rfl) ?_
        refine kp_getr C G h kp_lK0 rfl inWX9 (j := 0) (by decide) q2_12 rfl dX9_of_66 ?_
        refine kp_getr C G h kp_lK1 rfl inWX1 (j := 3) (by decide) q1_162 rfl dX9_of_69 ?_
        refine kp_getr C G h kp_lK11 rfl inWX3 (j := 1) (by decide) q1_107 rfl dX9_of_72 ?_
        refine kp_iload_n C dX9_of_75 rfl (lv_at hl 1 rfl) ?_
        refine kp_iald C G h (n := 10) kp_lK13 (by decide) dX9_of_76 hF (fun hF => ?_)
        exact kp_reti C hr hlk G h dX9_of_77 hF
      · have hF := hb q1
        clear ha hb
        obtain ⟨hx, -, ha, hb⟩ := kp_eq_s hF
        by_cases q2 : a2 = 2
        · have hF := ha q2
          clear ha hb
          refine kp_tabIn (v := 2) (tgt := 78) C dX9_of_17 q2 (by decide) rfl (by decide) ?_
          refine kp_aload_n C dX9_of_78 rfl (lv_at hl 0 rfl) ?_
          refine kp_getr C G h kp_lK0 rfl inWX9 (j := 0) (by decide) q2_12 rfl dX9_of_79 ?_
          refine kp_getr C G h kp_lK1 rfl inWX1 (j := 3) (by decide) q1_162 rfl dX9_of_82 ?_
          refine kp_getr C G h kp_lK11 rfl inWX3 (j := 2) (by decide) q1_111 rfl dX9_of_85 ?_
          refine kp_iload_n C dX9_of_88 rfl (lv_at hl 1 rfl) ?_
          refine kp_iald C G h (n := 10) kp_lK14 (by decide) dX9_of_89 hF (fun hF => ?_)
          exact kp_reti C hr hlk G h dX9_of_90 hF
        · have hF := hb q2
          clear ha hb
          obtain ⟨hx, -, ha, hb⟩ := kp_eq_s hF
          by_cases q3 : a2 = 3
          · have hF := ha q3
            clear ha hb
            refine kp_tabIn (v := 3) (tgt := 91) C dX9_of_17 q3 (by decide) rfl (by decide) ?_
            refine kp_aload_n C dX9_of_91 rfl (lv_at hl 0 rfl) ?_
            refine kp_getr C G h kp_lK0 rfl inWX9 (j := 0) (by decide) q2_12 rfl dX9_of_92 ?_
            refine kp_getr C G h kp_lK1 rfl inWX1 (j := 3) (by decide) q1_162 rfl dX9_of_95 ?_
            refine kp_getr C G h kp_lK11 rfl inWX3 (j := 3) (by decide) q1_114 rfl dX9_of_98 ?_
            refine kp_iload_n C dX9_of_101 rfl (lv_at hl 1 rfl) ?_
            refine kp_iald C G h (n := 10) kp_lK15 (by decide) dX9_of_102 hF (fun hF => ?_)
            exact kp_reti C hr hlk G h dX9_of_103 hF
          · have hF := hb q3
            clear ha hb
            obtain ⟨hx, -, ha, hb⟩ := kp_eq_s hF
            by_cases q4 : a2 = 4
            · have hF := ha q4
              clear ha hb
              refine kp_tabIn (v := 4) (tgt := 104) C dX9_of_17 q4 (by decide) rfl (by decide) ?_
              refine kp_aload_n C dX9_of_104 rfl (lv_at hl 0 rfl) ?_
              refine kp_getr C G h kp_lK0 rfl inWX9 (j := 0) (by decide) q2_12 rfl dX9_of_105 ?_
              refine kp_getr C G h kp_lK1 rfl inWX1 (j := 3) (by decide) q1_162 rfl dX9_of_108 ?_
              refine kp_geti C G h kp_lK11 rfl inWX3 (j := 4) (by decide) q1_116 rfl dX9_of_111 ?_
              refine kp_iload_n C dX9_of_114 rfl (lv_at hl 1 rfl) ?_
              refine kp_xishr C dX9_of_115 hF (fun hF => ?_)
              refine kp_iconst C dX9_of_116 ?_
              refine kp_xiand C dX9_of_117 ?_
              exact kp_reti C hr hlk G h dX9_of_118 hF
            · have hF := hb q4
              clear ha hb
              refine kp_tabOut (tgt := 119) C dX9_of_17 hx (by omega) (by decide) ?_
              refine kp_iconst C dX9_of_119 ?_
              exact kp_reti C hr hlk G h dX9_of_120 hF
  · refine kp_iconst C dX9_of_14 ?_
    exact kp_reti C hr hlk G h dX9_of_15 hF
def kf_X9_still  (a1 : Int) (a2 : Int) (σ_0 : kp_W) : kp_R :=
  kp_bd (kf_X3_has a1 σ_0) (fun r_0 σ_1 => kp_eq r_0 0 (some ((-1), σ_1)) (kp_ck (kp_in (σ_1 11 4) ∧ 0 ≤ a1 ∧ a1 < 32) (kp_lt ((kp_and ((σ_1 11 4) / 2 ^ (Int.toNat a1)) 1) : Int) (fun x3_0 => kp_eq a2 0 (kp_ck (0 ≤ a1 ∧ a1 < 32) (kp_lt (kp_up σ_1 11 4 (kp_and (σ_1 11 4) (kp_xor (1 * 2 ^ (Int.toNat a1)) (-1)))) (fun σ_2 => some (x3_0, σ_2)))) (kp_ck (0 ≤ a1 ∧ a1 < 32) (kp_lt (kp_up σ_1 11 4 (kp_or (σ_1 11 4) (1 * 2 ^ (Int.toNat a1)))) (fun σ_3 => some (x3_0, σ_3))))))))
set_option maxRecDepth 100000 in
set_option maxHeartbeats 4000000 in
theorem kc_X9_still {l : Launch} {X : kp_X} {a1 : Int} {a2 : Int}  {σ_0 σ' : kp_W} {r : Int}   (hF : (kf_X9_still a1 a2 σ_0) = some (r, σ')) : kp_Met l yX9_still cX9_still 4 (some .int) 1 X kp_lK 55 σ_0 [.ref (kp_ad X 0), kp_iv a1, kp_iv a2] (kp_Qi X kp_lK 55 σ' r) := by
  refine kp_body pnX9 (Nat.le_of_ble_eq_true rfl) ?_
  intro p e s m args below meth c ls C hr hlk G h hl
  unfold kf_X9_still at hF
  have hl : lv_has ls 4 [(0, .ref (kp_ad X 0)), (1, kp_iv a1), (2, kp_iv a2)] := hl
  refine kp_aload_n C dX9_still_0 rfl (lv_at hl 0 rfl) ?_
  refine kp_getr C G h kp_lK0 rfl inWX9 (j := 0) (by decide) q2_12 rfl dX9_still_1 ?_
  refine kp_getr C G h kp_lK1 rfl inWX1 (j := 3) (by decide) q1_162 rfl dX9_still_4 ?_
  refine kp_iload_n C dX9_still_7 rfl (lv_at hl 1 rfl) ?_
  obtain ⟨r_0, σ_1, hc, hF⟩ := kp_bd_s hF
  refine kp_ci h (kp_rV (k := 11) (As := [kp_iv a1]) (rest := []) C G h (kc_X3_has  hc) q3_44 q3_45 q3_46 q1_6 q3_47 ⟨rfl, hd_X3_has⟩ (by decide) kp_lK11 rfl rfl hl.1 rfl (Nat.le_of_ble_eq_true rfl) dX9_still_8) (fun H locs h => ?_)
  refine kp_if_ne (tgt := 16) C dX9_still_11 (by decide) hF (fun hF => ?_) (fun hF => ?_)
  · refine kp_aload_n C dX9_still_16 rfl (lv_at hl 0 rfl) ?_
    refine kp_getr C G h kp_lK0 rfl inWX9 (j := 0) (by decide) q2_12 rfl dX9_still_17 ?_
    refine kp_getr C G h kp_lK1 rfl inWX1 (j := 3) (by decide) q1_162 rfl dX9_still_20 ?_
    refine kp_geti C G h kp_lK11 rfl inWX3 (j := 4) (by decide) q1_116 rfl dX9_still_23 ?_
    refine kp_iload_n C dX9_still_26 rfl (lv_at hl 1 rfl) ?_
    refine kp_xishr C dX9_still_27 hF (fun hF => ?_)
    refine kp_iconst C dX9_still_28 ?_
    refine kp_xiand C dX9_still_29 ?_
    refine kp_istore_n (lv' := fun x3_0 => [(3, kp_iv x3_0), (0, .ref (kp_ad X 0)), (1, kp_iv a1), (2, kp_iv a2)]) C dX9_still_30 rfl hl (by decide) (fun _ => rfl) hF (fun x3_0 ls hl hF => ?_)
    refine kp_iload_n C dX9_still_31 rfl (lv_at hl 3 rfl) ?_
    refine kp_if_eq (tgt := 56) C dX9_still_32 (by decide) hF (fun hF => ?_) (fun hF => ?_)
    · refine kp_aload_n C dX9_still_56 rfl (lv_at hl 1 rfl) ?_
      refine kp_getr C G h kp_lK0 rfl inWX9 (j := 0) (by decide) q2_12 rfl dX9_still_57 ?_
      refine kp_getr C G h kp_lK1 rfl inWX1 (j := 3) (by decide) q1_162 rfl dX9_still_60 ?_
      refine kp_dup C dX9_still_63 rfl ?_
      refine kp_geti C G h kp_lK11 rfl inWX3 (j := 4) (by decide) q1_116 rfl dX9_still_64 ?_
      refine kp_iconst C dX9_still_67 ?_
      refine kp_iload_n C dX9_still_68 rfl (lv_at hl 2 rfl) ?_
      refine kp_xishl C dX9_still_69 hF (fun hF => ?_)
      refine kp_iconst C dX9_still_70 ?_
      refine kp_xixor C dX9_still_71 ?_
      refine kp_xiand C dX9_still_72 ?_
      refine kp_puti C G h kp_lK11 rfl inWX3 tyX3 tyX3_ok nmX3 (j := 4) (by decide) q1_116 rfl rfl (by decide +kernel) dX9_still_73 hF (fun σ_2 H locs h hF => ?_)
      refine kp_iload_n C dX9_still_76 rfl (lv_at hl 0 rfl) ?_
      exact kp_reti C hr hlk G h dX9_still_77 hF
    · refine kp_aload_n C dX9_still_35 rfl (lv_at hl 1 rfl) ?_
      refine kp_getr C G h kp_lK0 rfl inWX9 (j := 0) (by decide) q2_12 rfl dX9_still_36 ?_
      refine kp_getr C G h kp_lK1 rfl inWX1 (j := 3) (by decide) q1_162 rfl dX9_still_39 ?_
      refine kp_dup C dX9_still_42 rfl ?_
      refine kp_geti C G h kp_lK11 rfl inWX3 (j := 4) (by decide) q1_116 rfl dX9_still_43 ?_
      refine kp_iconst C dX9_still_46 ?_
      refine kp_iload_n C dX9_still_47 rfl (lv_at hl 2 rfl) ?_
      refine kp_xishl C dX9_still_48 hF (fun hF => ?_)
      refine kp_xior C dX9_still_49 ?_
      refine kp_puti C G h kp_lK11 rfl inWX3 tyX3 tyX3_ok nmX3 (j := 4) (by decide) q1_116 rfl rfl (by decide +kernel) dX9_still_50 hF (fun σ_3 H locs h hF => ?_)
      refine kp_goto (tgt := 76) C dX9_still_53 (by decide) ?_
      refine kp_iload_n C dX9_still_76 rfl (lv_at hl 0 rfl) ?_
      exact kp_reti C hr hlk G h dX9_still_77 hF
  · refine kp_iconst C dX9_still_14 ?_
    exact kp_reti C hr hlk G h dX9_still_15 hF
def kf_X9_knocks  (a1 : Int) (a2 : Int) (a3 : Int) (σ_0 : kp_W) : kp_R :=
  kp_bd (kf_X3_has a1 σ_0) (fun r_0 σ_1 => kp_eq r_0 0 (some ((-1), σ_1)) (kp_bd (kf_X9_isMinute a2 σ_1) (fun r_1 σ_2 => kp_eq r_1 0 (some ((-1), σ_2)) (kp_bd (kf_X9_settle σ_2) (fun r_2 σ_3 => kp_eq a3 0 (kp_bd (kf_X6_lengthOf a1 a2 σ_3) (fun r_3 σ_4 => some (r_3, σ_4))) (kp_eq a3 1 (kp_bd (kf_X6_holdOf a1 a2 σ_3) (fun r_4 σ_5 => some (r_4, σ_5))) (kp_eq a3 2 (kp_bd (kf_X3_isLoose a1 σ_3) (fun r_5 σ_6 => kp_eq r_5 0 (some (0, σ_6)) (kp_bd (kf_X6_knocksOf a1 a2 σ_6) (fun r_6 σ_7 => some (r_6, σ_7))))) (some ((-1), σ_3)))))))))
set_option maxRecDepth 100000 in
set_option maxHeartbeats 4000000 in
theorem kc_X9_knocks {l : Launch} {X : kp_X} {a1 : Int} {a2 : Int} {a3 : Int}  {σ_0 σ' : kp_W} {r : Int}   (hF : (kf_X9_knocks a1 a2 a3 σ_0) = some (r, σ')) : kp_Met l yX9_knocks cX9_knocks 4 (some .int) 6 X kp_lK 55 σ_0 [.ref (kp_ad X 0), kp_iv a1, kp_iv a2, kp_iv a3] (kp_Qi X kp_lK 55 σ' r) := by
  refine kp_body pnX9 (Nat.le_of_ble_eq_true rfl) ?_
  intro p e s m args below meth c ls C hr hlk G h hl
  unfold kf_X9_knocks at hF
  have hl : lv_has ls 4 [(0, .ref (kp_ad X 0)), (1, kp_iv a1), (2, kp_iv a2), (3, kp_iv a3)] := hl
  refine kp_aload_n C dX9_knocks_0 rfl (lv_at hl 0 rfl) ?_
  refine kp_getr C G h kp_lK0 rfl inWX9 (j := 0) (by decide) q2_12 rfl dX9_knocks_1 ?_
  refine kp_getr C G h kp_lK1 rfl inWX1 (j := 3) (by decide) q1_162 rfl dX9_knocks_4 ?_
  refine kp_iload_n C dX9_knocks_7 rfl (lv_at hl 1 rfl) ?_
  obtain ⟨r_0, σ_1, hc, hF⟩ := kp_bd_s hF
  refine kp_ci h (kp_rV (k := 11) (As := [kp_iv a1]) (rest := []) C G h (kc_X3_has  hc) q3_44 q3_45 q3_46 q1_6 q3_47 ⟨rfl, hd_X3_has⟩ (by decide) kp_lK11 rfl rfl hl.1 rfl (Nat.le_of_ble_eq_true rfl) dX9_knocks_8) (fun H locs h => ?_)
  refine kp_if_eq (tgt := 21) C dX9_knocks_11 (by decide) hF (fun hF => ?_) (fun hF => ?_)
  · refine kp_iconst C dX9_knocks_21 ?_
    exact kp_reti C hr hlk G h dX9_knocks_22 hF
  · refine kp_iload_n C dX9_knocks_14 rfl (lv_at hl 2 rfl) ?_
    obtain ⟨r_1, σ_2, hc, hF⟩ := kp_bd_s hF
    refine kp_ci h (kp_rS (As := [kp_iv a2]) (rest := []) C G h (kc_X9_isMinute  hc) q2_181 q2_182 q1_1 q2_183 hd_X9_isMinute (by decide) rfl hl.1 rfl (Nat.le_of_ble_eq_true rfl) dX9_knocks_15) (fun H locs h => ?_)
    refine kp_if_ne (tgt := 23) C dX9_knocks_18 (by decide) hF (fun hF => ?_) (fun hF => ?_)
    · refine kp_aload_n C dX9_knocks_23 rfl (lv_at hl 0 rfl) ?_
      obtain ⟨r_2, σ_3, hc, hF⟩ := kp_bd_s hF
      refine kp_cv h (kp_rV (k := 0) (As := []) (rest := []) C G h (kc_X9_settle  hc) q2_184 q2_186 q0_1_9 q1_1 q2_187 ⟨rfl, hd_X9_settle⟩ (by decide) kp_lK0 rfl rfl hl.1 rfl (Nat.le_of_ble_eq_true rfl) dX9_knocks_24) (fun H locs h => ?_)
      refine kp_iload_n C dX9_knocks_27 rfl (lv_at hl 3 rfl) ?_
      obtain ⟨hx, -, ha, hb⟩ := kp_eq_s hF
      by_cases q0 : a3 = 0
      · have hF := ha q0
        clear ha hb
        refine kp_tabIn (v := 0) (tgt := 56) C dX9_knocks_28 q0 (by decide) rfl (by decide) ?_
        refine kp_aload_n C dX9_knocks_56 rfl (lv_at hl 0 rfl) ?_
        refine kp_getr C G h kp_lK0 rfl inWX9 (j := 4) (by decide) q2_16 rfl dX9_knocks_57 ?_
        refine kp_iload_n C dX9_knocks_60 rfl (lv_at hl 1 rfl) ?_
        refine kp_iload_n C dX9_knocks_61 rfl (lv_at hl 2 rfl) ?_
        obtain ⟨r_3, σ_4, hc, hF⟩ := kp_bd_s hF
        refine kp_ci h (kp_rV (k := 48) (As := [kp_iv a1, kp_iv a2]) (rest := []) C G h (kc_X6_lengthOf  hc) q3_56 q3_8 q3_9 q1_9 q3_10 ⟨rfl, hd_X6_lengthOf⟩ (by decide) kp_lK48 rfl rfl hl.1 rfl (Nat.le_of_ble_eq_true rfl) dX9_knocks_62) (fun H locs h => ?_)
        exact kp_reti C hr hlk G h dX9_knocks_65 hF
      · have hF := hb q0
        clear ha hb
        obtain ⟨hx, -, ha, hb⟩ := kp_eq_s hF
        by_cases q1 : a3 = 1
        · have hF := ha q1
          clear ha hb
          refine kp_tabIn (v := 1) (tgt := 66) C dX9_knocks_28 q1 (by decide) rfl (by decide) ?_
          refine kp_aload_n C dX9_knocks_66 rfl (lv_at hl 0 rfl) ?_
          refine kp_getr C G h kp_lK0 rfl inWX9 (j := 4) (by decide) q2_16 rfl dX9_knocks_67 ?_
          refine kp_iload_n C dX9_knocks_70 rfl (lv_at hl 1 rfl) ?_
          refine kp_iload_n C dX9_knocks_71 rfl (lv_at hl 2 rfl) ?_
          obtain ⟨r_4, σ_5, hc, hF⟩ := kp_bd_s hF
          refine kp_ci h (kp_rV (k := 48) (As := [kp_iv a1, kp_iv a2]) (rest := []) C G h (kc_X6_holdOf  hc) q3_57 q3_15 q3_16 q1_9 q3_17 ⟨rfl, hd_X6_holdOf⟩ (by decide) kp_lK48 rfl rfl hl.1 rfl (Nat.le_of_ble_eq_true rfl) dX9_knocks_72) (fun H locs h => ?_)
          exact kp_reti C hr hlk G h dX9_knocks_75 hF
        · have hF := hb q1
          clear ha hb
          obtain ⟨hx, -, ha, hb⟩ := kp_eq_s hF
          by_cases q2 : a3 = 2
          · have hF := ha q2
            clear ha hb
            refine kp_tabIn (v := 2) (tgt := 76) C dX9_knocks_28 q2 (by decide) rfl (by decide) ?_
            refine kp_aload_n C dX9_knocks_76 rfl (lv_at hl 0 rfl) ?_
            refine kp_getr C G h kp_lK0 rfl inWX9 (j := 0) (by decide) q2_12 rfl dX9_knocks_77 ?_
            refine kp_getr C G h kp_lK1 rfl inWX1 (j := 3) (by decide) q1_162 rfl dX9_knocks_80 ?_
            refine kp_iload_n C dX9_knocks_83 rfl (lv_at hl 1 rfl) ?_
            obtain ⟨r_5, σ_6, hc, hF⟩ := kp_bd_s hF
            refine kp_ci h (kp_rV (k := 11) (As := [kp_iv a1]) (rest := []) C G h (kc_X3_isLoose  hc) q3_58 q3_59 q3_60 q1_6 q3_61 ⟨rfl, hd_X3_isLoose⟩ (by decide) kp_lK11 rfl rfl hl.1 rfl (Nat.le_of_ble_eq_true rfl) dX9_knocks_84) (fun H locs h => ?_)
            refine kp_if_eq (tgt := 102) C dX9_knocks_87 (by decide) hF (fun hF => ?_) (fun hF => ?_)
            · refine kp_iconst C dX9_knocks_102 ?_
              exact kp_reti C hr hlk G h dX9_knocks_103 hF
            · refine kp_aload_n C dX9_knocks_90 rfl (lv_at hl 0 rfl) ?_
              refine kp_getr C G h kp_lK0 rfl inWX9 (j := 4) (by decide) q2_16 rfl dX9_knocks_91 ?_
              refine kp_iload_n C dX9_knocks_94 rfl (lv_at hl 1 rfl) ?_
              refine kp_iload_n C dX9_knocks_95 rfl (lv_at hl 2 rfl) ?_
              obtain ⟨r_6, σ_7, hc, hF⟩ := kp_bd_s hF
              refine kp_ci h (kp_rV (k := 48) (As := [kp_iv a1, kp_iv a2]) (rest := []) C G h (kc_X6_knocksOf  hc) q3_62 q3_63 q3_64 q1_9 q3_65 ⟨rfl, hd_X6_knocksOf⟩ (by decide) kp_lK48 rfl rfl hl.1 rfl (Nat.le_of_ble_eq_true rfl) dX9_knocks_96) (fun H locs h => ?_)
              refine kp_goto (tgt := 103) C dX9_knocks_99 (by decide) ?_
              exact kp_reti C hr hlk G h dX9_knocks_103 hF
          · have hF := hb q2
            clear ha hb
            refine kp_tabOut (tgt := 104) C dX9_knocks_28 hx (by omega) (by decide) ?_
            refine kp_iconst C dX9_knocks_104 ?_
            exact kp_reti C hr hlk G h dX9_knocks_105 hF
    · refine kp_iconst C dX9_knocks_21 ?_
      exact kp_reti C hr hlk G h dX9_knocks_22 hF
def kf_X9_isUnder  (a1 : Int) (a2 : Int) (σ_0 : kp_W) : kp_R :=
  kp_eq a1 a2 (some (1, σ_0)) (kp_bd (kf_X9_above a1 σ_0) (fun r_0 σ_1 => kp_eq r_0 a2 (some (1, σ_1)) (kp_bd (kf_X9_above a1 σ_1) (fun r_1 σ_2 => kp_bd (kf_X9_above r_1 σ_2) (fun r_2 σ_3 => kp_eq r_2 a2 (some (1, σ_3)) (some (0, σ_3)))))))
set_option maxRecDepth 100000 in
set_option maxHeartbeats 4000000 in
theorem kc_X9_isUnder {l : Launch} {X : kp_X} {a1 : Int} {a2 : Int}  {σ_0 σ' : kp_W} {r : Int}   (hF : (kf_X9_isUnder a1 a2 σ_0) = some (r, σ')) : kp_Met l yX9_isUnder cX9_isUnder 2 (some .boolean) 1 X kp_lK 55 σ_0 [kp_iv a1, kp_iv a2] (kp_Qi X kp_lK 55 σ' r) := by
  refine kp_body pnX9 (Nat.le_of_ble_eq_true rfl) ?_
  intro p e s m args below meth c ls C hr hlk G h hl
  unfold kf_X9_isUnder at hF
  have hl : lv_has ls 2 [(0, kp_iv a1), (1, kp_iv a2)] := hl
  refine kp_iload_n C dX9_isUnder_0 rfl (lv_at hl 0 rfl) ?_
  refine kp_iload_n C dX9_isUnder_1 rfl (lv_at hl 1 rfl) ?_
  refine kp_icmp_eq (tgt := 24) C dX9_isUnder_2 (by decide) hF (fun hF => ?_) (fun hF => ?_)
  · refine kp_iconst C dX9_isUnder_24 ?_
    refine kp_goto (tgt := 29) C dX9_isUnder_25 (by decide) ?_
    exact kp_retz C hr hlk G h dX9_isUnder_29 (kp_ck_i (by decide) hF)
  · refine kp_iload_n C dX9_isUnder_5 rfl (lv_at hl 0 rfl) ?_
    obtain ⟨r_0, σ_1, hc, hF⟩ := kp_bd_s hF
    refine kp_ci h (kp_rS (As := [kp_iv a1]) (rest := []) C G h (kc_X9_above  hc) q3_79 q3_80 q1_1 q3_81 hd_X9_above (by decide) rfl hl.1 rfl (Nat.le_of_ble_eq_true rfl) dX9_isUnder_6) (fun H locs h => ?_)
    refine kp_iload_n C dX9_isUnder_9 rfl (lv_at hl 1 rfl) ?_
    refine kp_icmp_eq (tgt := 24) C dX9_isUnder_10 (by decide) hF (fun hF => ?_) (fun hF => ?_)
    · refine kp_iconst C dX9_isUnder_24 ?_
      refine kp_goto (tgt := 29) C dX9_isUnder_25 (by decide) ?_
      exact kp_retz C hr hlk G h dX9_isUnder_29 (kp_ck_i (by decide) hF)
    · refine kp_iload_n C dX9_isUnder_13 rfl (lv_at hl 0 rfl) ?_
      obtain ⟨r_1, σ_2, hc, hF⟩ := kp_bd_s hF
      refine kp_ci h (kp_rS (As := [kp_iv a1]) (rest := []) C G h (kc_X9_above  hc) q3_79 q3_80 q1_1 q3_81 hd_X9_above (by decide) rfl hl.1 rfl (Nat.le_of_ble_eq_true rfl) dX9_isUnder_14) (fun H locs h => ?_)
      obtain ⟨r_2, σ_3, hc, hF⟩ := kp_bd_s hF
      refine kp_ci h (kp_rS (As := [kp_iv r_1]) (rest := []) C G h (kc_X9_above  hc) q3_79 q3_80 q1_1 q3_81 hd_X9_above (by decide) rfl hl.1 rfl (Nat.le_of_ble_eq_true rfl) dX9_isUnder_17) (fun H locs h => ?_)
      refine kp_iload_n C dX9_isUnder_20 rfl (lv_at hl 1 rfl) ?_
      refine kp_icmp_ne (tgt := 28) C dX9_isUnder_21 (by decide) hF (fun hF => ?_) (fun hF => ?_)
      · refine kp_iconst C dX9_isUnder_28 ?_
        exact kp_retz C hr hlk G h dX9_isUnder_29 (kp_ck_i (by decide) hF)
      · refine kp_iconst C dX9_isUnder_24 ?_
        refine kp_goto (tgt := 29) C dX9_isUnder_25 (by decide) ?_
        exact kp_retz C hr hlk G h dX9_isUnder_29 (kp_ck_i (by decide) hF)
def kf_X9_loudOf  (a1 : Int) (a2 : Int) (a3 : Int) (σ_0 : kp_W) : kp_R :=
  kp_ck (0 ≤ a1 ∧ a1 < 10) (kp_lt ((σ_0 15 (Int.toNat a1)) : Int) (fun x4_0 => kp_ck (0 ≤ a1 ∧ a1 < 10) (kp_ck (kp_in ((σ_0 13 (Int.toNat a1)) - a2)) (kp_lt ((kp_abs ((σ_0 13 (Int.toNat a1)) - a2)) : Int) (fun x5_0 => kp_ck (kp_in 0 ∧ kp_in (x4_0 - ((σ_0 6 3) * x5_0))) (kp_lt ((kp_max 0 (x4_0 - ((σ_0 6 3) * x5_0))) : Int) (fun x6_0 => kp_ck (0 ≤ a3 ∧ a3 < 40) (kp_jn (fun (σ_1 : kp_W) => kp_ck (kp_in x6_0 ∧ kp_in ((x4_0 - 5) - ((σ_1 6 2) * x5_0))) (kp_lt ((kp_max x6_0 ((x4_0 - 5) - ((σ_1 6 2) * x5_0))) : Int) (fun x6_1 => some (x6_1, σ_1)))) (fun j88 => kp_ls 0 (σ_0 49 (Int.toNat a3)) (j88 σ_0) (kp_ck (0 ≤ a1 ∧ a1 < 10) (kp_bd (kf_X9_isUnder (σ_0 12 (Int.toNat a1)) 2 σ_0) (fun r_0 σ_2 => kp_eq r_0 0 (some (x6_0, σ_2)) (j88 σ_2)))))))))))))
set_option maxRecDepth 100000 in
set_option maxHeartbeats 4000000 in
theorem kc_X9_loudOf {l : Launch} {X : kp_X} {a1 : Int} {a2 : Int} {a3 : Int}  {σ_0 σ' : kp_W} {r : Int}   (hF : (kf_X9_loudOf a1 a2 a3 σ_0) = some (r, σ')) : kp_Met l yX9_loudOf cX9_loudOf 7 (some .int) 2 X kp_lK 55 σ_0 [.ref (kp_ad X 0), kp_iv a1, kp_iv a2, kp_iv a3] (kp_Qi X kp_lK 55 σ' r) := by
  refine kp_body pnX9 (Nat.le_of_ble_eq_true rfl) ?_
  intro p e s m args below meth c ls C hr hlk G h hl
  unfold kf_X9_loudOf at hF
  have hl : lv_has ls 7 [(0, .ref (kp_ad X 0)), (1, kp_iv a1), (2, kp_iv a2), (3, kp_iv a3)] := hl
  refine kp_aload_n C dX9_loudOf_0 rfl (lv_at hl 0 rfl) ?_
  refine kp_getr C G h kp_lK0 rfl inWX9 (j := 0) (by decide) q2_12 rfl dX9_loudOf_1 ?_
  refine kp_getr C G h kp_lK1 rfl inWX1 (j := 3) (by decide) q1_162 rfl dX9_loudOf_4 ?_
  refine kp_getr C G h kp_lK11 rfl inWX3 (j := 3) (by decide) q1_114 rfl dX9_loudOf_7 ?_
  refine kp_iload_n C dX9_loudOf_10 rfl (lv_at hl 1 rfl) ?_
  refine kp_iald C G h (n := 10) kp_lK15 (by decide) dX9_loudOf_11 hF (fun hF => ?_)
  refine kp_istore (lv' := fun x4_0 => [(4, kp_iv x4_0), (0, .ref (kp_ad X 0)), (1, kp_iv a1), (2, kp_iv a2), (3, kp_iv a3)]) C dX9_loudOf_12 hl (by decide) (fun _ => rfl) hF (fun x4_0 ls hl hF => ?_)
  refine kp_aload_n C dX9_loudOf_14 rfl (lv_at hl 1 rfl) ?_
  refine kp_getr C G h kp_lK0 rfl inWX9 (j := 0) (by decide) q2_12 rfl dX9_loudOf_15 ?_
  refine kp_getr C G h kp_lK1 rfl inWX1 (j := 3) (by decide) q1_162 rfl dX9_loudOf_18 ?_
  refine kp_getr C G h kp_lK11 rfl inWX3 (j := 1) (by decide) q1_107 rfl dX9_loudOf_21 ?_
  refine kp_iload_n C dX9_loudOf_24 rfl (lv_at hl 2 rfl) ?_
  refine kp_iald C G h (n := 10) kp_lK13 (by decide) dX9_loudOf_25 hF (fun hF => ?_)
  refine kp_iload_n C dX9_loudOf_26 rfl (lv_at hl 3 rfl) ?_
  refine kp_isub C dX9_loudOf_27 ?_
  refine kp_mabs C hl.1 q3_74 q3_12 q1_18 q3_13 (by decide) (Nat.le_of_ble_eq_true rfl) dX9_loudOf_28 hF (fun hF => ?_)
  refine kp_istore (lv' := fun x5_0 => [(5, kp_iv x5_0), (4, kp_iv x4_0), (0, .ref (kp_ad X 0)), (1, kp_iv a1), (2, kp_iv a2), (3, kp_iv a3)]) C dX9_loudOf_31 hl (by decide) (fun _ => rfl) hF (fun x5_0 ls hl hF => ?_)
  refine kp_iconst C dX9_loudOf_33 ?_
  refine kp_iload C dX9_loudOf_34 (lv_at hl 1 rfl) ?_
  refine kp_aload_n C dX9_loudOf_36 rfl (lv_at hl 2 rfl) ?_
  refine kp_getr C G h kp_lK0 rfl inWX9 (j := 0) (by decide) q2_12 rfl dX9_loudOf_37 ?_
  refine kp_getr C G h kp_lK1 rfl inWX1 (j := 2) (by decide) q1_160 rfl dX9_loudOf_40 ?_
  refine kp_getr C G h kp_lK5 rfl inWX2 (j := 0) (by decide) q1_68 rfl dX9_loudOf_43 ?_
  refine kp_iconst C dX9_loudOf_46 ?_
  refine kp_iald0 C G h (i := 3) (n := 5) kp_lK6 (by decide) (by decide) dX9_loudOf_47 ?_
  refine kp_iload C dX9_loudOf_48 (lv_at hl 0 rfl) ?_
  refine kp_imul C dX9_loudOf_50 ?_
  refine kp_isub C dX9_loudOf_51 ?_
  refine kp_mmax C hl.1 q3_75 q2_237 q1_18 q2_238 (by decide) (Nat.le_of_ble_eq_true rfl) dX9_loudOf_52 hF (fun hF => ?_)
  refine kp_istore (lv' := fun x6_0 => [(6, kp_iv x6_0), (5, kp_iv x5_0), (4, kp_iv x4_0), (0, .ref (kp_ad X 0)), (1, kp_iv a1), (2, kp_iv a2), (3, kp_iv a3)]) C dX9_loudOf_55 hl (by decide) (fun _ => rfl) hF (fun x6_0 ls hl hF => ?_)
  refine kp_aload_n C dX9_loudOf_57 rfl (lv_at hl 3 rfl) ?_
  refine kp_getr C G h kp_lK0 rfl inWX9 (j := 4) (by decide) q2_16 rfl dX9_loudOf_58 ?_
  refine kp_getr C G h kp_lK48 rfl inWX6 (j := 0) (by decide) q1_209 rfl dX9_loudOf_61 ?_
  refine kp_iload_n C dX9_loudOf_64 rfl (lv_at hl 6 rfl) ?_
  refine kp_iald C G h (n := 40) kp_lK49 (by decide) dX9_loudOf_65 hF (fun hF => ?_)
  obtain ⟨j88, ej88, hF⟩ := kp_jn_s hF
  have J88 : ∀ (σ_1 : kp_W), ∀ (H : Heap) (locs : List Loc) (ls : Array Slot), kp_H X kp_lK 55 s σ_1 H locs → lv_has ls 7 [(0, .ref (kp_ad X 0)), (4, kp_iv x4_0), (5, kp_iv x5_0), (6, kp_iv x6_0)] → j88 σ_1 = some (r, σ') → W p l e (kp_rm 2) s m args below meth c H locs 0 0 (MQ below (kp_Qi X kp_lK 55 σ' r) args s 0 0 (kp_A X 55)) (F0 m 88 ls []) := by
    intro σ_1 H locs ls h hl hF
    rw [ej88] at hF
    refine kp_iload C dX9_loudOf_88 (lv_at hl 3 rfl) ?_
    refine kp_iload C dX9_loudOf_90 (lv_at hl 1 rfl) ?_
    refine kp_iconst C dX9_loudOf_92 ?_
    refine kp_isub C dX9_loudOf_93 ?_
    refine kp_aload_n C dX9_loudOf_94 rfl (lv_at hl 0 rfl) ?_
    refine kp_getr C G h kp_lK0 rfl inWX9 (j := 0) (by decide) q2_12 rfl dX9_loudOf_95 ?_
    refine kp_getr C G h kp_lK1 rfl inWX1 (j := 2) (by decide) q1_160 rfl dX9_loudOf_98 ?_
    refine kp_getr C G h kp_lK5 rfl inWX2 (j := 0) (by decide) q1_68 rfl dX9_loudOf_101 ?_
    refine kp_iconst C dX9_loudOf_104 ?_
    refine kp_iald0 C G h (i := 2) (n := 5) kp_lK6 (by decide) (by decide) dX9_loudOf_105 ?_
    refine kp_iload C dX9_loudOf_106 (lv_at hl 2 rfl) ?_
    refine kp_imul C dX9_loudOf_108 ?_
    refine kp_isub C dX9_loudOf_109 ?_
    refine kp_mmax C hl.1 q3_75 q2_237 q1_18 q2_238 (by decide) (Nat.le_of_ble_eq_true rfl) dX9_loudOf_110 hF (fun hF => ?_)
    refine kp_istore (lv' := fun x6_1 => [(6, kp_iv x6_1), (0, .ref (kp_ad X 0)), (4, kp_iv x4_0), (5, kp_iv x5_0)]) C dX9_loudOf_113 hl (by decide) (fun _ => rfl) hF (fun x6_1 ls hl hF => ?_)
    refine kp_iload C dX9_loudOf_115 (lv_at hl 0 rfl) ?_
    exact kp_reti C hr hlk G h dX9_loudOf_117 hF
  clear ej88
  refine kp_if_gt (tgt := 88) C dX9_loudOf_66 (by decide) hF (fun hF => ?_) (fun hF => ?_)
  · exact J88 _ _ _ _ h (lv_sub hl [3, 2, 1, 0] rfl) hF
  · refine kp_aload_n C dX9_loudOf_69 rfl (lv_at hl 3 rfl) ?_
    refine kp_getr C G h kp_lK0 rfl inWX9 (j := 0) (by decide) q2_12 rfl dX9_loudOf_70 ?_
    refine kp_getr C G h kp_lK1 rfl inWX1 (j := 3) (by decide) q1_162 rfl dX9_loudOf_73 ?_
    refine kp_getr C G h kp_lK11 rfl inWX3 (j := 0) (by decide) q1_104 rfl dX9_loudOf_76 ?_
    refine kp_iload_n C dX9_loudOf_79 rfl (lv_at hl 4 rfl) ?_
    refine kp_iald C G h (n := 10) kp_lK12 (by decide) dX9_loudOf_80 hF (fun hF => ?_)
    refine kp_iconst C dX9_loudOf_81 ?_
    obtain ⟨r_0, σ_2, hc, hF⟩ := kp_bd_s hF
    refine kp_ci h (kp_rS (As := [kp_iv (σ_0 12 (Int.toNat a1)), kp_iv 2]) (rest := []) C G h (kc_X9_isUnder  hc) q3_76 q3_77 q1_1 q3_78 hd_X9_isUnder (by decide) rfl hl.1 rfl (Nat.le_of_ble_eq_true rfl) dX9_loudOf_82) (fun H locs h => ?_)
    refine kp_if_eq (tgt := 115) C dX9_loudOf_85 (by decide) hF (fun hF => ?_) (fun hF => ?_)
    · refine kp_iload C dX9_loudOf_115 (lv_at hl 0 rfl) ?_
      exact kp_reti C hr hlk G h dX9_loudOf_117 hF
    · exact J88 _ _ _ _ h (lv_sub hl [3, 2, 1, 0] rfl) hF
def kf_X9_loud  (a1 : Int) (a2 : Int) (a3 : Int) (σ_0 : kp_W) : kp_R :=
  kp_bd (kf_X3_has a1 σ_0) (fun r_0 σ_1 => kp_eq r_0 0 (some ((-1), σ_1)) (kp_bd (kf_X9_isPlace a2 σ_1) (fun r_1 σ_2 => kp_eq r_1 0 (some ((-1), σ_2)) (kp_bd (kf_X9_isMinute a3 σ_2) (fun r_2 σ_3 => kp_eq r_2 0 (some ((-1), σ_3)) (kp_bd (kf_X9_settle σ_3) (fun r_3 σ_4 => kp_bd (kf_X9_loudOf a1 a2 a3 σ_4) (fun r_4 σ_5 => some (r_4, σ_5)))))))))
set_option maxRecDepth 100000 in
set_option maxHeartbeats 4000000 in
theorem kc_X9_loud {l : Launch} {X : kp_X} {a1 : Int} {a2 : Int} {a3 : Int}  {σ_0 σ' : kp_W} {r : Int}   (hF : (kf_X9_loud a1 a2 a3 σ_0) = some (r, σ')) : kp_Met l yX9_loud cX9_loud 4 (some .int) 6 X kp_lK 55 σ_0 [.ref (kp_ad X 0), kp_iv a1, kp_iv a2, kp_iv a3] (kp_Qi X kp_lK 55 σ' r) := by
  refine kp_body pnX9 (Nat.le_of_ble_eq_true rfl) ?_
  intro p e s m args below meth c ls C hr hlk G h hl
  unfold kf_X9_loud at hF
  have hl : lv_has ls 4 [(0, .ref (kp_ad X 0)), (1, kp_iv a1), (2, kp_iv a2), (3, kp_iv a3)] := hl
  refine kp_aload_n C dX9_loud_0 rfl (lv_at hl 0 rfl) ?_
  refine kp_getr C G h kp_lK0 rfl inWX9 (j := 0) (by decide) q2_12 rfl dX9_loud_1 ?_
  refine kp_getr C G h kp_lK1 rfl inWX1 (j := 3) (by decide) q1_162 rfl dX9_loud_4 ?_
  refine kp_iload_n C dX9_loud_7 rfl (lv_at hl 1 rfl) ?_
  obtain ⟨r_0, σ_1, hc, hF⟩ := kp_bd_s hF
  refine kp_ci h (kp_rV (k := 11) (As := [kp_iv a1]) (rest := []) C G h (kc_X3_has  hc) q3_44 q3_45 q3_46 q1_6 q3_47 ⟨rfl, hd_X3_has⟩ (by decide) kp_lK11 rfl rfl hl.1 rfl (Nat.le_of_ble_eq_true rfl) dX9_loud_8) (fun H locs h => ?_)
  refine kp_if_eq (tgt := 28) C dX9_loud_11 (by decide) hF (fun hF => ?_) (fun hF => ?_)
  · refine kp_iconst C dX9_loud_28 ?_
    exact kp_reti C hr hlk G h dX9_loud_29 hF
  · refine kp_iload_n C dX9_loud_14 rfl (lv_at hl 2 rfl) ?_
    obtain ⟨r_1, σ_2, hc, hF⟩ := kp_bd_s hF
    refine kp_ci h (kp_rS (As := [kp_iv a2]) (rest := []) C G h (kc_X9_isPlace  hc) q3_33 q3_34 q1_1 q3_35 hd_X9_isPlace (by decide) rfl hl.1 rfl (Nat.le_of_ble_eq_true rfl) dX9_loud_15) (fun H locs h => ?_)
    refine kp_if_eq (tgt := 28) C dX9_loud_18 (by decide) hF (fun hF => ?_) (fun hF => ?_)
    · refine kp_iconst C dX9_loud_28 ?_
      exact kp_reti C hr hlk G h dX9_loud_29 hF
    · refine kp_iload_n C dX9_loud_21 rfl (lv_at hl 3 rfl) ?_
      obtain ⟨r_2, σ_3, hc, hF⟩ := kp_bd_s hF
      refine kp_ci h (kp_rS (As := [kp_iv a3]) (rest := []) C G h (kc_X9_isMinute  hc) q2_181 q2_182 q1_1 q2_183 hd_X9_isMinute (by decide) rfl hl.1 rfl (Nat.le_of_ble_eq_true rfl) dX9_loud_22) (fun H locs h => ?_)
      refine kp_if_ne (tgt := 30) C dX9_loud_25 (by decide) hF (fun hF => ?_) (fun hF => ?_)
      · refine kp_aload_n C dX9_loud_30 rfl (lv_at hl 0 rfl) ?_
        obtain ⟨r_3, σ_4, hc, hF⟩ := kp_bd_s hF
        refine kp_cv h (kp_rV (k := 0) (As := []) (rest := []) C G h (kc_X9_settle  hc) q2_184 q2_186 q0_1_9 q1_1 q2_187 ⟨rfl, hd_X9_settle⟩ (by decide) kp_lK0 rfl rfl hl.1 rfl (Nat.le_of_ble_eq_true rfl) dX9_loud_31) (fun H locs h => ?_)
        refine kp_aload_n C dX9_loud_34 rfl (lv_at hl 0 rfl) ?_
        refine kp_iload_n C dX9_loud_35 rfl (lv_at hl 1 rfl) ?_
        refine kp_iload_n C dX9_loud_36 rfl (lv_at hl 2 rfl) ?_
        refine kp_iload_n C dX9_loud_37 rfl (lv_at hl 3 rfl) ?_
        obtain ⟨r_4, σ_5, hc, hF⟩ := kp_bd_s hF
        refine kp_ci h (kp_rV (k := 0) (As := [kp_iv a1, kp_iv a2, kp_iv a3]) (rest := []) C G h (kc_X9_loudOf  hc) q3_70 q3_72 q0_1_14 q1_1 q3_73 ⟨rfl, hd_X9_loudOf⟩ (by decide) kp_lK0 rfl rfl hl.1 rfl (Nat.le_of_ble_eq_true rfl) dX9_loud_38) (fun H locs h => ?_)
        exact kp_reti C hr hlk G h dX9_loud_41 hF
      · refine kp_iconst C dX9_loud_28 ?_
        exact kp_reti C hr hlk G h dX9_loud_29 hF
def kf_X9_heardAlone  (a1 : Int) (a2 : Int) (a3 : Int) (σ_0 : kp_W) : kp_R :=
  kp_bd (kf_X9_loudOf a1 a2 a3 σ_0) (fun r_0 σ_1 => kp_ls r_0 (σ_1 6 4) (some (0, σ_1)) (kp_bd (kf_X6_knocksOf a1 a3 σ_1) (fun r_1 σ_2 => some (r_1, σ_2))))
set_option maxRecDepth 100000 in
set_option maxHeartbeats 4000000 in
theorem kc_X9_heardAlone {l : Launch} {X : kp_X} {a1 : Int} {a2 : Int} {a3 : Int}  {σ_0 σ' : kp_W} {r : Int}   (hF : (kf_X9_heardAlone a1 a2 a3 σ_0) = some (r, σ')) : kp_Met l yX9_heardAlone cX9_heardAlone 4 (some .int) 3 X kp_lK 55 σ_0 [.ref (kp_ad X 0), kp_iv a1, kp_iv a2, kp_iv a3] (kp_Qi X kp_lK 55 σ' r) := by
  refine kp_body pnX9 (Nat.le_of_ble_eq_true rfl) ?_
  intro p e s m args below meth c ls C hr hlk G h hl
  unfold kf_X9_heardAlone at hF
  have hl : lv_has ls 4 [(0, .ref (kp_ad X 0)), (1, kp_iv a1), (2, kp_iv a2), (3, kp_iv a3)] := hl
  refine kp_aload_n C dX9_heardAlone_0 rfl (lv_at hl 0 rfl) ?_
  refine kp_iload_n C dX9_heardAlone_1 rfl (lv_at hl 1 rfl) ?_
  refine kp_iload_n C dX9_heardAlone_2 rfl (lv_at hl 2 rfl) ?_
  refine kp_iload_n C dX9_heardAlone_3 rfl (lv_at hl 3 rfl) ?_
  obtain ⟨r_0, σ_1, hc, hF⟩ := kp_bd_s hF
  refine kp_ci h (kp_rV (k := 0) (As := [kp_iv a1, kp_iv a2, kp_iv a3]) (rest := []) C G h (kc_X9_loudOf  hc) q3_70 q3_72 q0_1_14 q1_1 q3_73 ⟨rfl, hd_X9_loudOf⟩ (by decide) kp_lK0 rfl rfl hl.1 rfl (Nat.le_of_ble_eq_true rfl) dX9_heardAlone_4) (fun H locs h => ?_)
  refine kp_aload_n C dX9_heardAlone_7 rfl (lv_at hl 0 rfl) ?_
  refine kp_getr C G h kp_lK0 rfl inWX9 (j := 0) (by decide) q2_12 rfl dX9_heardAlone_8 ?_
  refine kp_getr C G h kp_lK1 rfl inWX1 (j := 2) (by decide) q1_160 rfl dX9_heardAlone_11 ?_
  refine kp_getr C G h kp_lK5 rfl inWX2 (j := 0) (by decide) q1_68 rfl dX9_heardAlone_14 ?_
  refine kp_iconst C dX9_heardAlone_17 ?_
  refine kp_iald0 C G h (i := 4) (n := 5) kp_lK6 (by decide) (by decide) dX9_heardAlone_18 ?_
  refine kp_icmp_ge (tgt := 24) C dX9_heardAlone_19 (by decide) hF (fun hF => ?_) (fun hF => ?_)
  · refine kp_aload_n C dX9_heardAlone_24 rfl (lv_at hl 0 rfl) ?_
    refine kp_getr C G h kp_lK0 rfl inWX9 (j := 4) (by decide) q2_16 rfl dX9_heardAlone_25 ?_
    refine kp_iload_n C dX9_heardAlone_28 rfl (lv_at hl 1 rfl) ?_
    refine kp_iload_n C dX9_heardAlone_29 rfl (lv_at hl 3 rfl) ?_
    obtain ⟨r_1, σ_2, hc, hF⟩ := kp_bd_s hF
    refine kp_ci h (kp_rV (k := 48) (As := [kp_iv a1, kp_iv a3]) (rest := []) C G h (kc_X6_knocksOf  hc) q3_62 q3_63 q3_64 q1_9 q3_65 ⟨rfl, hd_X6_knocksOf⟩ (by decide) kp_lK48 rfl rfl hl.1 rfl (Nat.le_of_ble_eq_true rfl) dX9_heardAlone_30) (fun H locs h => ?_)
    exact kp_reti C hr hlk G h dX9_heardAlone_33 hF
  · refine kp_iconst C dX9_heardAlone_22 ?_
    exact kp_reti C hr hlk G h dX9_heardAlone_23 hF
def kl_X9_heardAt_5 (a1 : Int) (a2 : Int) : Nat → Int → Int → kp_W → (Int → kp_W → kp_R) → kp_R
  | 0, _, _, _, _ => none
  | n + 1, x3_1, x4_1, σ_1, k => kp_ls x4_1 (σ_1 11 5) (kp_bd (kf_X3_isLoose x4_1 σ_1) (fun r_0 σ_3 => kp_eq r_0 0 (kp_lt (x4_1 + 1) (fun x4_2 => kl_X9_heardAt_5 a1 a2 n x3_1 x4_2 σ_3 k)) (kp_bd (kf_X9_heardAlone x4_1 a1 a2 σ_3) (fun r_1 σ_4 => kp_lt ((x3_1 + r_1) : Int) (fun x3_3 => kp_lt (x4_1 + 1) (fun x4_3 => kl_X9_heardAt_5 a1 a2 n x3_3 x4_3 σ_4 k)))))) (k x3_1 σ_1)
def kf_X9_heardAt  (a1 : Int) (a2 : Int) (σ_0 : kp_W) : kp_R :=
  kp_lt (0 : Int) (fun x3_0 => kp_lt (0 : Int) (fun x4_0 => kl_X9_heardAt_5 a1 a2 kp_fu x3_0 x4_0 σ_0 (fun (x3_2 : Int) (σ_2 : kp_W) => some (x3_2, σ_2))))
set_option maxRecDepth 100000 in
set_option maxHeartbeats 4000000 in
theorem kc_X9_heardAt {l : Launch} {X : kp_X} {a1 : Int} {a2 : Int}  {σ_0 σ' : kp_W} {r : Int}   (hF : (kf_X9_heardAt a1 a2 σ_0) = some (r, σ')) : kp_Met l yX9_heardAt cX9_heardAt 5 (some .int) 4 X kp_lK 55 σ_0 [.ref (kp_ad X 0), kp_iv a1, kp_iv a2] (kp_Qi X kp_lK 55 σ' r) := by
  refine kp_body pnX9 (Nat.le_of_ble_eq_true rfl) ?_
  intro p e s m args below meth c ls C hr hlk G h hl
  unfold kf_X9_heardAt at hF
  have hl : lv_has ls 5 [(0, .ref (kp_ad X 0)), (1, kp_iv a1), (2, kp_iv a2)] := hl
  refine kp_iconst C dX9_heardAt_0 ?_
  refine kp_istore_n (lv' := fun x3_0 => [(3, kp_iv x3_0), (0, .ref (kp_ad X 0)), (1, kp_iv a1), (2, kp_iv a2)]) C dX9_heardAt_1 rfl hl (by decide) (fun _ => rfl) hF (fun x3_0 ls hl hF => ?_)
  refine kp_iconst C dX9_heardAt_2 ?_
  refine kp_istore (lv' := fun x4_0 => [(4, kp_iv x4_0), (3, kp_iv x3_0), (0, .ref (kp_ad X 0)), (1, kp_iv a1), (2, kp_iv a2)]) C dX9_heardAt_3 hl (by decide) (fun _ => rfl) hF (fun x4_0 ls hl hF => ?_)
  have L5 : ∀ (n : Nat) (x3_1 : Int) (x4_1 : Int) (σ_1 : kp_W) (k : Int → kp_W → kp_R) (H : Heap) (locs : List Loc) (ls : Array Slot), kp_H X kp_lK 55 s σ_1 H locs → lv_has ls 5 [(0, .ref (kp_ad X 0)), (1, kp_iv a1), (2, kp_iv a2), (3, kp_iv x3_1), (4, kp_iv x4_1)] → (∀ (x3_2 : Int) (σ_2 : kp_W) (H : Heap) (locs : List Loc) (ls : Array Slot), kp_H X kp_lK 55 s σ_2 H locs → lv_has ls 5 [(3, kp_iv x3_2)] → k x3_2 σ_2 = some (r, σ') → W p l e (kp_rm 4) s m args below meth c H locs 0 0 (MQ below (kp_Qi X kp_lK 55 σ' r) args s 0 0 (kp_A X 55)) (F0 m 52 ls [])) → kl_X9_heardAt_5 a1 a2 n x3_1 x4_1 σ_1 k = some (r, σ') → W p l e (kp_rm 4) s m args below meth c H locs 0 0 (MQ below (kp_Qi X kp_lK 55 σ' r) args s 0 0 (kp_A X 55)) (F0 m 5 ls []) := by
    intro n
    induction n with
    | zero =>
      intro x3_1 x4_1 σ_1 k H locs ls h hl K hF
      rw [kl_X9_heardAt_5] at hF
      cases hF
    | succ n ih =>
      intro x3_1 x4_1 σ_1 k H locs ls h hl K hF
      rw [kl_X9_heardAt_5] at hF
      refine kp_iload C dX9_heardAt_5 (lv_at hl 4 rfl) ?_
      refine kp_aload_n C dX9_heardAt_7 rfl (lv_at hl 0 rfl) ?_
      refine kp_getr C G h kp_lK0 rfl inWX9 (j := 0) (by decide) q2_12 rfl dX9_heardAt_8 ?_
      refine kp_getr C G h kp_lK1 rfl inWX1 (j := 3) (by decide) q1_162 rfl dX9_heardAt_11 ?_
      refine kp_geti C G h kp_lK11 rfl inWX3 (j := 5) (by decide) q1_118 rfl dX9_heardAt_14 ?_
      refine kp_icmp_ge (tgt := 52) C dX9_heardAt_17 (by decide) hF (fun hF => ?_) (fun hF => ?_)
      · exact K _ _ _ _ _ h (lv_sub hl [3] rfl) hF
      · refine kp_aload_n C dX9_heardAt_20 rfl (lv_at hl 0 rfl) ?_
        refine kp_getr C G h kp_lK0 rfl inWX9 (j := 0) (by decide) q2_12 rfl dX9_heardAt_21 ?_
        refine kp_getr C G h kp_lK1 rfl inWX1 (j := 3) (by decide) q1_162 rfl dX9_heardAt_24 ?_
        refine kp_iload C dX9_heardAt_27 (lv_at hl 4 rfl) ?_
        obtain ⟨r_0, σ_3, hc, hF⟩ := kp_bd_s hF
        refine kp_ci h (kp_rV (k := 11) (As := [kp_iv x4_1]) (rest := []) C G h (kc_X3_isLoose  hc) q3_58 q3_59 q3_60 q1_6 q3_61 ⟨rfl, hd_X3_isLoose⟩ (by decide) kp_lK11 rfl rfl hl.1 rfl (Nat.le_of_ble_eq_true rfl) dX9_heardAt_29) (fun H locs h => ?_)
        refine kp_if_eq (tgt := 46) C dX9_heardAt_32 (by decide) hF (fun hF => ?_) (fun hF => ?_)
        · refine kp_iinc (k := 4) (lv' := fun x4_2 => [(4, kp_iv x4_2), (0, .ref (kp_ad X 0)), (1, kp_iv a1), (2, kp_iv a2), (3, kp_iv x3_1)]) C dX9_heardAt_46 hl rfl (by decide) (fun _ => rfl) hF (fun x4_2 ls hl hF => ?_)
          refine kp_goto (tgt := 5) C dX9_heardAt_49 (by decide) ?_
          exact ih _ _ _ k _ _ _ h (lv_sub hl [1, 2, 3, 4, 0] rfl) K hF
        · refine kp_iload_n C dX9_heardAt_35 rfl (lv_at hl 3 rfl) ?_
          refine kp_aload_n C dX9_heardAt_36 rfl (lv_at hl 0 rfl) ?_
          refine kp_iload C dX9_heardAt_37 (lv_at hl 4 rfl) ?_
          refine kp_iload_n C dX9_heardAt_39 rfl (lv_at hl 1 rfl) ?_
          refine kp_iload_n C dX9_heardAt_40 rfl (lv_at hl 2 rfl) ?_
          obtain ⟨r_1, σ_4, hc, hF⟩ := kp_bd_s hF
          refine kp_ci h (kp_rV (k := 0) (As := [kp_iv x4_1, kp_iv a1, kp_iv a2]) (rest := [kp_iv x3_1]) C G h (kc_X9_heardAlone  hc) q3_94 q3_96 q0_2_1 q1_1 q3_97 ⟨rfl, hd_X9_heardAlone⟩ (by decide) kp_lK0 rfl rfl hl.1 rfl (Nat.le_of_ble_eq_true rfl) dX9_heardAt_41) (fun H locs h => ?_)
          refine kp_iadd C dX9_heardAt_44 ?_
          refine kp_istore_n (lv' := fun x3_3 => [(3, kp_iv x3_3), (0, .ref (kp_ad X 0)), (1, kp_iv a1), (2, kp_iv a2), (4, kp_iv x4_1)]) C dX9_heardAt_45 rfl hl (by decide) (fun _ => rfl) hF (fun x3_3 ls hl hF => ?_)
          refine kp_iinc (k := 4) (lv' := fun x4_3 => [(4, kp_iv x4_3), (3, kp_iv x3_3), (0, .ref (kp_ad X 0)), (1, kp_iv a1), (2, kp_iv a2)]) C dX9_heardAt_46 hl rfl (by decide) (fun _ => rfl) hF (fun x4_3 ls hl hF => ?_)
          refine kp_goto (tgt := 5) C dX9_heardAt_49 (by decide) ?_
          exact ih _ _ _ k _ _ _ h (lv_sub hl [2, 3, 4, 1, 0] rfl) K hF
  refine L5 kp_fu _ _ _ _ _ _ _ h (lv_sub hl [2, 3, 4, 1, 0] rfl) (fun x3_2 σ_2 H locs ls h hl hF => ?_) hF
  clear L5
  refine kp_iload_n C dX9_heardAt_52 rfl (lv_at hl 0 rfl) ?_
  exact kp_reti C hr hlk G h dX9_heardAt_53 hF
def kl_X9_heardInDay_4 (a1 : Int) : Nat → Int → Int → kp_W → (Int → kp_W → kp_R) → kp_R
  | 0, _, _, _, _ => none
  | n + 1, x2_1, x3_1, σ_1, k => kp_ls x3_1 40 (kp_bd (kf_X9_heardAt a1 x3_1 σ_1) (fun r_0 σ_3 => kp_lt ((x2_1 + r_0) : Int) (fun x2_3 => kp_lt (x3_1 + 1) (fun x3_2 => kl_X9_heardInDay_4 a1 n x2_3 x3_2 σ_3 k)))) (k x2_1 σ_1)
def kf_X9_heardInDay  (a1 : Int) (σ_0 : kp_W) : kp_R :=
  kp_lt (0 : Int) (fun x2_0 => kp_lt (0 : Int) (fun x3_0 => kl_X9_heardInDay_4 a1 kp_fu x2_0 x3_0 σ_0 (fun (x2_2 : Int) (σ_2 : kp_W) => some (x2_2, σ_2))))
set_option maxRecDepth 100000 in
set_option maxHeartbeats 4000000 in
theorem kc_X9_heardInDay {l : Launch} {X : kp_X} {a1 : Int}  {σ_0 σ' : kp_W} {r : Int}   (hF : (kf_X9_heardInDay a1 σ_0) = some (r, σ')) : kp_Met l yX9_heardInDay cX9_heardInDay 4 (some .int) 5 X kp_lK 55 σ_0 [.ref (kp_ad X 0), kp_iv a1] (kp_Qi X kp_lK 55 σ' r) := by
  refine kp_body pnX9 (Nat.le_of_ble_eq_true rfl) ?_
  intro p e s m args below meth c ls C hr hlk G h hl
  unfold kf_X9_heardInDay at hF
  have hl : lv_has ls 4 [(0, .ref (kp_ad X 0)), (1, kp_iv a1)] := hl
  refine kp_iconst C dX9_heardInDay_0 ?_
  refine kp_istore_n (lv' := fun x2_0 => [(2, kp_iv x2_0), (0, .ref (kp_ad X 0)), (1, kp_iv a1)]) C dX9_heardInDay_1 rfl hl (by decide) (fun _ => rfl) hF (fun x2_0 ls hl hF => ?_)
  refine kp_iconst C dX9_heardInDay_2 ?_
  refine kp_istore_n (lv' := fun x3_0 => [(3, kp_iv x3_0), (2, kp_iv x2_0), (0, .ref (kp_ad X 0)), (1, kp_iv a1)]) C dX9_heardInDay_3 rfl hl (by decide) (fun _ => rfl) hF (fun x3_0 ls hl hF => ?_)
  have L4 : ∀ (n : Nat) (x2_1 : Int) (x3_1 : Int) (σ_1 : kp_W) (k : Int → kp_W → kp_R) (H : Heap) (locs : List Loc) (ls : Array Slot), kp_H X kp_lK 55 s σ_1 H locs → lv_has ls 4 [(0, .ref (kp_ad X 0)), (1, kp_iv a1), (2, kp_iv x2_1), (3, kp_iv x3_1)] → (∀ (x2_2 : Int) (σ_2 : kp_W) (H : Heap) (locs : List Loc) (ls : Array Slot), kp_H X kp_lK 55 s σ_2 H locs → lv_has ls 4 [(2, kp_iv x2_2)] → k x2_2 σ_2 = some (r, σ') → W p l e (kp_rm 5) s m args below meth c H locs 0 0 (MQ below (kp_Qi X kp_lK 55 σ' r) args s 0 0 (kp_A X 55)) (F0 m 25 ls [])) → kl_X9_heardInDay_4 a1 n x2_1 x3_1 σ_1 k = some (r, σ') → W p l e (kp_rm 5) s m args below meth c H locs 0 0 (MQ below (kp_Qi X kp_lK 55 σ' r) args s 0 0 (kp_A X 55)) (F0 m 4 ls []) := by
    intro n
    induction n with
    | zero =>
      intro x2_1 x3_1 σ_1 k H locs ls h hl K hF
      rw [kl_X9_heardInDay_4] at hF
      cases hF
    | succ n ih =>
      intro x2_1 x3_1 σ_1 k H locs ls h hl K hF
      rw [kl_X9_heardInDay_4] at hF
      refine kp_iload_n C dX9_heardInDay_4 rfl (lv_at hl 3 rfl) ?_
      refine kp_bipush C dX9_heardInDay_5 rfl ?_
      refine kp_icmp_ge (tgt := 25) C dX9_heardInDay_7 (by decide) hF (fun hF => ?_) (fun hF => ?_)
      · exact K _ _ _ _ _ h (lv_sub hl [2] rfl) hF
      · refine kp_iload_n C dX9_heardInDay_10 rfl (lv_at hl 2 rfl) ?_
        refine kp_aload_n C dX9_heardInDay_11 rfl (lv_at hl 0 rfl) ?_
        refine kp_iload_n C dX9_heardInDay_12 rfl (lv_at hl 1 rfl) ?_
        refine kp_iload_n C dX9_heardInDay_13 rfl (lv_at hl 3 rfl) ?_
        obtain ⟨r_0, σ_3, hc, hF⟩ := kp_bd_s hF
        refine kp_ci h (kp_rV (k := 0) (As := [kp_iv a1, kp_iv x3_1]) (rest := [kp_iv x2_1]) C G h (kc_X9_heardAt  hc) q3_90 q3_92 q0_2_0 q1_1 q3_93 ⟨rfl, hd_X9_heardAt⟩ (by decide) kp_lK0 rfl rfl hl.1 rfl (Nat.le_of_ble_eq_true rfl) dX9_heardInDay_14) (fun H locs h => ?_)
        refine kp_iadd C dX9_heardInDay_17 ?_
        refine kp_istore_n (lv' := fun x2_3 => [(2, kp_iv x2_3), (0, .ref (kp_ad X 0)), (1, kp_iv a1), (3, kp_iv x3_1)]) C dX9_heardInDay_18 rfl hl (by decide) (fun _ => rfl) hF (fun x2_3 ls hl hF => ?_)
        refine kp_iinc (k := 3) (lv' := fun x3_2 => [(3, kp_iv x3_2), (2, kp_iv x2_3), (0, .ref (kp_ad X 0)), (1, kp_iv a1)]) C dX9_heardInDay_19 hl rfl (by decide) (fun _ => rfl) hF (fun x3_2 ls hl hF => ?_)
        refine kp_goto (tgt := 4) C dX9_heardInDay_22 (by decide) ?_
        exact ih _ _ _ k _ _ _ h (lv_sub hl [2, 3, 1, 0] rfl) K hF
  refine L4 kp_fu _ _ _ _ _ _ _ h (lv_sub hl [2, 3, 1, 0] rfl) (fun x2_2 σ_2 H locs ls h hl hF => ?_) hF
  clear L4
  refine kp_iload_n C dX9_heardInDay_25 rfl (lv_at hl 0 rfl) ?_
  exact kp_reti C hr hlk G h dX9_heardInDay_26 hF
def kf_X9_heard  (a1 : Int) (a2 : Int) (σ_0 : kp_W) : kp_R :=
  kp_bd (kf_X9_isPlace a1 σ_0) (fun r_0 σ_1 => kp_eq r_0 0 (some ((-1), σ_1)) (kp_jn (fun (σ_2 : kp_W) => kp_bd (kf_X9_settle σ_2) (fun r_1 σ_3 => kp_eq a2 (-1) (kp_bd (kf_X9_heardInDay a1 σ_3) (fun r_3 σ_5 => some (r_3, σ_5))) (kp_bd (kf_X9_heardAt a1 a2 σ_3) (fun r_2 σ_4 => some (r_2, σ_4))))) (fun j21 => kp_eq a2 (-1) (j21 σ_1) (kp_bd (kf_X9_isMinute a2 σ_1) (fun r_4 σ_6 => kp_eq r_4 0 (some ((-1), σ_6)) (j21 σ_6))))))
set_option maxRecDepth 100000 in
set_option maxHeartbeats 4000000 in
theorem kc_X9_heard {l : Launch} {X : kp_X} {a1 : Int} {a2 : Int}  {σ_0 σ' : kp_W} {r : Int}   (hF : (kf_X9_heard a1 a2 σ_0) = some (r, σ')) : kp_Met l yX9_heard cX9_heard 3 (some .int) 6 X kp_lK 55 σ_0 [.ref (kp_ad X 0), kp_iv a1, kp_iv a2] (kp_Qi X kp_lK 55 σ' r) := by
  refine kp_body pnX9 (Nat.le_of_ble_eq_true rfl) ?_
  intro p e s m args below meth c ls C hr hlk G h hl
  unfold kf_X9_heard at hF
  have hl : lv_has ls 3 [(0, .ref (kp_ad X 0)), (1, kp_iv a1), (2, kp_iv a2)] := hl
  refine kp_iload_n C dX9_heard_0 rfl (lv_at hl 1 rfl) ?_
  obtain ⟨r_0, σ_1, hc, hF⟩ := kp_bd_s hF
  refine kp_ci h (kp_rS (As := [kp_iv a1]) (rest := []) C G h (kc_X9_isPlace  hc) q3_33 q3_34 q1_1 q3_35 hd_X9_isPlace (by decide) rfl hl.1 rfl (Nat.le_of_ble_eq_true rfl) dX9_heard_1) (fun H locs h => ?_)
  refine kp_if_eq (tgt := 19) C dX9_heard_4 (by decide) hF (fun hF => ?_) (fun hF => ?_)
  · refine kp_iconst C dX9_heard_19 ?_
    exact kp_reti C hr hlk G h dX9_heard_20 hF
  · refine kp_iload_n C dX9_heard_7 rfl (lv_at hl 2 rfl) ?_
    refine kp_iconst C dX9_heard_8 ?_
    obtain ⟨j21, ej21, hF⟩ := kp_jn_s hF
    have J21 : ∀ (σ_2 : kp_W), ∀ (H : Heap) (locs : List Loc) (ls : Array Slot), kp_H X kp_lK 55 s σ_2 H locs → lv_has ls 3 [(0, .ref (kp_ad X 0)), (1, kp_iv a1), (2, kp_iv a2)] → j21 σ_2 = some (r, σ') → W p l e (kp_rm 6) s m args below meth c H locs 0 0 (MQ below (kp_Qi X kp_lK 55 σ' r) args s 0 0 (kp_A X 55)) (F0 m 21 ls []) := by
      intro σ_2 H locs ls h hl hF
      rw [ej21] at hF
      refine kp_aload_n C dX9_heard_21 rfl (lv_at hl 0 rfl) ?_
      obtain ⟨r_1, σ_3, hc, hF⟩ := kp_bd_s hF
      refine kp_cv h (kp_rV (k := 0) (As := []) (rest := []) C G h (kc_X9_settle  hc) q2_184 q2_186 q0_1_9 q1_1 q2_187 ⟨rfl, hd_X9_settle⟩ (by decide) kp_lK0 rfl rfl hl.1 rfl (Nat.le_of_ble_eq_true rfl) dX9_heard_22) (fun H locs h => ?_)
      refine kp_iload_n C dX9_heard_25 rfl (lv_at hl 2 rfl) ?_
      refine kp_iconst C dX9_heard_26 ?_
      refine kp_icmp_ne (tgt := 38) C dX9_heard_27 (by decide) hF (fun hF => ?_) (fun hF => ?_)
      · refine kp_aload_n C dX9_heard_38 rfl (lv_at hl 0 rfl) ?_
        refine kp_iload_n C dX9_heard_39 rfl (lv_at hl 1 rfl) ?_
        refine kp_iload_n C dX9_heard_40 rfl (lv_at hl 2 rfl) ?_
        obtain ⟨r_2, σ_4, hc, hF⟩ := kp_bd_s hF
        refine kp_ci h (kp_rV (k := 0) (As := [kp_iv a1, kp_iv a2]) (rest := []) C G h (kc_X9_heardAt  hc) q3_90 q3_92 q0_2_0 q1_1 q3_93 ⟨rfl, hd_X9_heardAt⟩ (by decide) kp_lK0 rfl rfl hl.1 rfl (Nat.le_of_ble_eq_true rfl) dX9_heard_41) (fun H locs h => ?_)
        exact kp_reti C hr hlk G h dX9_heard_44 hF
      · refine kp_aload_n C dX9_heard_30 rfl (lv_at hl 0 rfl) ?_
        refine kp_iload_n C dX9_heard_31 rfl (lv_at hl 1 rfl) ?_
        obtain ⟨r_3, σ_5, hc, hF⟩ := kp_bd_s hF
        refine kp_ci h (kp_rV (k := 0) (As := [kp_iv a1]) (rest := []) C G h (kc_X9_heardInDay  hc) q3_86 q3_88 q0_1_15 q1_1 q3_89 ⟨rfl, hd_X9_heardInDay⟩ (by decide) kp_lK0 rfl rfl hl.1 rfl (Nat.le_of_ble_eq_true rfl) dX9_heard_32) (fun H locs h => ?_)
        refine kp_goto (tgt := 44) C dX9_heard_35 (by decide) ?_
        exact kp_reti C hr hlk G h dX9_heard_44 hF
    clear ej21
    refine kp_icmp_eq (tgt := 21) C dX9_heard_9 (by decide) hF (fun hF => ?_) (fun hF => ?_)
    · exact J21 _ _ _ _ h (lv_sub hl [0, 1, 2] rfl) hF
    · refine kp_iload_n C dX9_heard_12 rfl (lv_at hl 2 rfl) ?_
      obtain ⟨r_4, σ_6, hc, hF⟩ := kp_bd_s hF
      refine kp_ci h (kp_rS (As := [kp_iv a2]) (rest := []) C G h (kc_X9_isMinute  hc) q2_181 q2_182 q1_1 q2_183 hd_X9_isMinute (by decide) rfl hl.1 rfl (Nat.le_of_ble_eq_true rfl) dX9_heard_13) (fun H locs h => ?_)
      refine kp_if_ne (tgt := 21) C dX9_heard_16 (by decide) hF (fun hF => ?_) (fun hF => ?_)
      · exact J21 _ _ _ _ h (lv_sub hl [0, 1, 2] rfl) hF
      · refine kp_iconst C dX9_heard_19 ?_
        exact kp_reti C hr hlk G h dX9_heard_20 hF
def kl_X9_loudOfAll_5 (a1 : Int) (a2 : Int) : Nat → Int → Int → kp_W → (Int → kp_W → kp_R) → kp_R
  | 0, _, _, _, _ => none
  | n + 1, x3_1, x4_1, σ_1, k => kp_ls x4_1 (σ_1 11 5) (kp_bd (kf_X3_isLoose x4_1 σ_1) (fun r_0 σ_3 => kp_jn (fun (v_0 : Int) (σ_4 : kp_W) => kp_lt (v_0 : Int) (fun x5_0 => kp_eq x5_0 0 (kp_lt (x4_1 + 1) (fun x4_2 => kl_X9_loudOfAll_5 a1 a2 n x3_1 x4_2 σ_4 k)) (kp_bd (kf_X9_loudOf x4_1 a1 a2 σ_4) (fun r_1 σ_5 => kp_lt ((x3_1 + r_1) : Int) (fun x3_3 => kp_lt (x4_1 + 1) (fun x4_3 => kl_X9_loudOfAll_5 a1 a2 n x3_3 x4_3 σ_5 k)))))) (fun j53 => kp_jn (fun (σ_6 : kp_W) => j53 0 σ_6) (fun j52 => kp_eq r_0 0 (j52 σ_3) (kp_bd (kf_X6_knocksOf x4_1 a2 σ_3) (fun r_2 σ_7 => kp_ls 0 r_2 (j53 1 σ_7) (j52 σ_7))))))) (k x3_1 σ_1)
def kf_X9_loudOfAll  (a1 : Int) (a2 : Int) (σ_0 : kp_W) : kp_R :=
  kp_lt (0 : Int) (fun x3_0 => kp_lt (0 : Int) (fun x4_0 => kl_X9_loudOfAll_5 a1 a2 kp_fu x3_0 x4_0 σ_0 (fun (x3_2 : Int) (σ_2 : kp_W) => some (x3_2, σ_2))))
set_option maxRecDepth 100000 in
set_option maxHeartbeats 4000000 in
theorem kc_X9_loudOfAll {l : Launch} {X : kp_X} {a1 : Int} {a2 : Int}  {σ_0 σ' : kp_W} {r : Int}   (hF : (kf_X9_loudOfAll a1 a2 σ_0) = some (r, σ')) : kp_Met l yX9_loudOfAll cX9_loudOfAll 6 (some .int) 3 X kp_lK 55 σ_0 [.ref (kp_ad X 0), kp_iv a1, kp_iv a2] (kp_Qi X kp_lK 55 σ' r) := by
  refine kp_body pnX9 (Nat.le_of_ble_eq_true rfl) ?_
  intro p e s m args below meth c ls C hr hlk G h hl
  unfold kf_X9_loudOfAll at hF
  have hl : lv_has ls 6 [(0, .ref (kp_ad X 0)), (1, kp_iv a1), (2, kp_iv a2)] := hl
  refine kp_iconst C dX9_loudOfAll_0 ?_
  refine kp_istore_n (lv' := fun x3_0 => [(3, kp_iv x3_0), (0, .ref (kp_ad X 0)), (1, kp_iv a1), (2, kp_iv a2)]) C dX9_loudOfAll_1 rfl hl (by decide) (fun _ => rfl) hF (fun x3_0 ls hl hF => ?_)
  refine kp_iconst C dX9_loudOfAll_2 ?_
  refine kp_istore (lv' := fun x4_0 => [(4, kp_iv x4_0), (3, kp_iv x3_0), (0, .ref (kp_ad X 0)), (1, kp_iv a1), (2, kp_iv a2)]) C dX9_loudOfAll_3 hl (by decide) (fun _ => rfl) hF (fun x4_0 ls hl hF => ?_)
  have L5 : ∀ (n : Nat) (x3_1 : Int) (x4_1 : Int) (σ_1 : kp_W) (k : Int → kp_W → kp_R) (H : Heap) (locs : List Loc) (ls : Array Slot), kp_H X kp_lK 55 s σ_1 H locs → lv_has ls 6 [(0, .ref (kp_ad X 0)), (1, kp_iv a1), (2, kp_iv a2), (3, kp_iv x3_1), (4, kp_iv x4_1)] → (∀ (x3_2 : Int) (σ_2 : kp_W) (H : Heap) (locs : List Loc) (ls : Array Slot), kp_H X kp_lK 55 s σ_2 H locs → lv_has ls 6 [(3, kp_iv x3_2)] → k x3_2 σ_2 = some (r, σ') → W p l e (kp_rm 3) s m args below meth c H locs 0 0 (MQ below (kp_Qi X kp_lK 55 σ' r) args s 0 0 (kp_A X 55)) (F0 m 77 ls [])) → kl_X9_loudOfAll_5 a1 a2 n x3_1 x4_1 σ_1 k = some (r, σ') → W p l e (kp_rm 3) s m args below meth c H locs 0 0 (MQ below (kp_Qi X kp_lK 55 σ' r) args s 0 0 (kp_A X 55)) (F0 m 5 ls []) := by
    intro n
    induction n with
    | zero =>
      intro x3_1 x4_1 σ_1 k H locs ls h hl K hF
      rw [kl_X9_loudOfAll_5] at hF
      cases hF
    | succ n ih =>
      intro x3_1 x4_1 σ_1 k H locs ls h hl K hF
      rw [kl_X9_loudOfAll_5] at hF
      refine kp_iload C dX9_loudOfAll_5 (lv_at hl 4 rfl) ?_
      refine kp_aload_n C dX9_loudOfAll_7 rfl (lv_at hl 0 rfl) ?_
      refine kp_getr C G h kp_lK0 rfl inWX9 (j := 0) (by decide) q2_12 rfl dX9_loudOfAll_8 ?_
      refine kp_getr C G h kp_lK1 rfl inWX1 (j := 3) (by decide) q1_162 rfl dX9_loudOfAll_11 ?_
      refine kp_geti C G h kp_lK11 rfl inWX3 (j := 5) (by decide) q1_118 rfl dX9_loudOfAll_14 ?_
      refine kp_icmp_ge (tgt := 77) C dX9_loudOfAll_17 (by decide) hF (fun hF => ?_) (fun hF => ?_)
      · exact K _ _ _ _ _ h (lv_sub hl [3] rfl) hF
      · refine kp_aload_n C dX9_loudOfAll_20 rfl (lv_at hl 0 rfl) ?_
        refine kp_getr C G h kp_lK0 rfl inWX9 (j := 0) (by decide) q2_12 rfl dX9_loudOfAll_21 ?_
        refine kp_getr C G h kp_lK1 rfl inWX1 (j := 3) (by decide) q1_162 rfl dX9_loudOfAll_24 ?_
        refine kp_iload C dX9_loudOfAll_27 (lv_at hl 4 rfl) ?_
        obtain ⟨r_0, σ_3, hc, hF⟩ := kp_bd_s hF
        refine kp_ci h (kp_rV (k := 11) (As := [kp_iv x4_1]) (rest := []) C G h (kc_X3_isLoose  hc) q3_58 q3_59 q3_60 q1_6 q3_61 ⟨rfl, hd_X3_isLoose⟩ (by decide) kp_lK11 rfl rfl hl.1 rfl (Nat.le_of_ble_eq_true rfl) dX9_loudOfAll_29) (fun H locs h => ?_)
        obtain ⟨j53, ej53, hF⟩ := kp_jn_s hF
        have J53 : ∀ (v_0 : Int), ∀ (σ_4 : kp_W), ∀ (H : Heap) (locs : List Loc) (ls : Array Slot), kp_H X kp_lK 55 s σ_4 H locs → lv_has ls 6 [(0, .ref (kp_ad X 0)), (1, kp_iv a1), (2, kp_iv a2), (3, kp_iv x3_1), (4, kp_iv x4_1)] → j53 v_0 σ_4 = some (r, σ') → W p l e (kp_rm 3) s m args below meth c H locs 0 0 (MQ below (kp_Qi X kp_lK 55 σ' r) args s 0 0 (kp_A X 55)) (F0 m 53 ls [kp_iv v_0]) := by
          intro v_0 σ_4 H locs ls h hl hF
          rw [ej53] at hF
          refine kp_istore (lv' := fun x5_0 => [(5, kp_iv x5_0), (0, .ref (kp_ad X 0)), (1, kp_iv a1), (2, kp_iv a2), (3, kp_iv x3_1), (4, kp_iv x4_1)]) C dX9_loudOfAll_53 hl (by decide) (fun _ => rfl) hF (fun x5_0 ls hl hF => ?_)
          refine kp_iload C dX9_loudOfAll_55 (lv_at hl 0 rfl) ?_
          refine kp_if_eq (tgt := 71) C dX9_loudOfAll_57 (by decide) hF (fun hF => ?_) (fun hF => ?_)
          · refine kp_iinc (k := 5) (lv' := fun x4_2 => [(4, kp_iv x4_2), (5, kp_iv x5_0), (0, .ref (kp_ad X 0)), (1, kp_iv a1), (2, kp_iv a2), (3, kp_iv x3_1)]) C dX9_loudOfAll_71 hl rfl (by decide) (fun _ => rfl) hF (fun x4_2 ls hl hF => ?_)
            refine kp_goto (tgt := 5) C dX9_loudOfAll_74 (by decide) ?_
            exact ih _ _ _ k _ _ _ h (lv_sub hl [2, 3, 4, 5, 0] rfl) K hF
          · refine kp_iload_n C dX9_loudOfAll_60 rfl (lv_at hl 4 rfl) ?_
            refine kp_aload_n C dX9_loudOfAll_61 rfl (lv_at hl 1 rfl) ?_
            refine kp_iload C dX9_loudOfAll_62 (lv_at hl 5 rfl) ?_
            refine kp_iload_n C dX9_loudOfAll_64 rfl (lv_at hl 2 rfl) ?_
            refine kp_iload_n C dX9_loudOfAll_65 rfl (lv_at hl 3 rfl) ?_
            obtain ⟨r_1, σ_5, hc, hF⟩ := kp_bd_s hF
            refine kp_ci h (kp_rV (k := 0) (As := [kp_iv x4_1, kp_iv a1, kp_iv a2]) (rest := [kp_iv x3_1]) C G h (kc_X9_loudOf  hc) q3_70 q3_72 q0_1_14 q1_1 q3_73 ⟨rfl, hd_X9_loudOf⟩ (by decide) kp_lK0 rfl rfl hl.1 rfl (Nat.le_of_ble_eq_true rfl) dX9_loudOfAll_66) (fun H locs h => ?_)
            refine kp_iadd C dX9_loudOfAll_69 ?_
            refine kp_istore_n (lv' := fun x3_3 => [(3, kp_iv x3_3), (5, kp_iv x5_0), (0, .ref (kp_ad X 0)), (1, kp_iv a1), (2, kp_iv a2), (4, kp_iv x4_1)]) C dX9_loudOfAll_70 rfl hl (by decide) (fun _ => rfl) hF (fun x3_3 ls hl hF => ?_)
            refine kp_iinc (k := 5) (lv' := fun x4_3 => [(4, kp_iv x4_3), (3, kp_iv x3_3), (5, kp_iv x5_0), (0, .ref (kp_ad X 0)), (1, kp_iv a1), (2, kp_iv a2)]) C dX9_loudOfAll_71 hl rfl (by decide) (fun _ => rfl) hF (fun x4_3 ls hl hF => ?_)
            refine kp_goto (tgt := 5) C dX9_loudOfAll_74 (by decide) ?_
            exact ih _ _ _ k _ _ _ h (lv_sub hl [3, 4, 5, 1, 0] rfl) K hF
        clear ej53
        obtain ⟨j52, ej52, hF⟩ := kp_jn_s hF
        have J52 : ∀ (σ_6 : kp_W), ∀ (H : Heap) (locs : List Loc) (ls : Array Slot), kp_H X kp_lK 55 s σ_6 H locs → lv_has ls 6 [(0, .ref (kp_ad X 0)), (1, kp_iv a1), (2, kp_iv a2), (3, kp_iv x3_1), (4, kp_iv x4_1)] → j52 σ_6 = some (r, σ') → W p l e (kp_rm 3) s m args below meth c H locs 0 0 (MQ below (kp_Qi X kp_lK 55 σ' r) args s 0 0 (kp_A X 55)) (F0 m 52 ls []) := by
          intro σ_6 H locs ls h hl hF
          rw [ej52] at hF
          refine kp_iconst C dX9_loudOfAll_52 ?_
          exact J53 _ _ _ _ _ h (lv_sub hl [0, 1, 2, 3, 4] rfl) hF
        clear ej52
        refine kp_if_eq (tgt := 52) C dX9_loudOfAll_32 (by decide) hF (fun hF => ?_) (fun hF => ?_)
        · exact J52 _ _ _ _ h (lv_sub hl [0, 1, 2, 3, 4] rfl) hF
        · refine kp_aload_n C dX9_loudOfAll_35 rfl (lv_at hl 0 rfl) ?_
          refine kp_getr C G h kp_lK0 rfl inWX9 (j := 4) (by decide) q2_16 rfl dX9_loudOfAll_36 ?_
          refine kp_iload C dX9_loudOfAll_39 (lv_at hl 4 rfl) ?_
          refine kp_iload_n C dX9_loudOfAll_41 rfl (lv_at hl 2 rfl) ?_
          obtain ⟨r_2, σ_7, hc, hF⟩ := kp_bd_s hF
          refine kp_ci h (kp_rV (k := 48) (As := [kp_iv x4_1, kp_iv a2]) (rest := []) C G h (kc_X6_knocksOf  hc) q3_62 q3_63 q3_64 q1_9 q3_65 ⟨rfl, hd_X6_knocksOf⟩ (by decide) kp_lK48 rfl rfl hl.1 rfl (Nat.le_of_ble_eq_true rfl) dX9_loudOfAll_42) (fun H locs h => ?_)
          refine kp_if_le (tgt := 52) C dX9_loudOfAll_45 (by decide) hF (fun hF => ?_) (fun hF => ?_)
          · exact J52 _ _ _ _ h (lv_sub hl [0, 1, 2, 3, 4] rfl) hF
          · refine kp_iconst C dX9_loudOfAll_48 ?_
            refine kp_goto (tgt := 53) C dX9_loudOfAll_49 (by decide) ?_
            exact J53 _ _ _ _ _ h (lv_sub hl [0, 1, 2, 3, 4] rfl) hF
  refine L5 kp_fu _ _ _ _ _ _ _ h (lv_sub hl [2, 3, 4, 1, 0] rfl) (fun x3_2 σ_2 H locs ls h hl hF => ?_) hF
  clear L5
  refine kp_iload_n C dX9_loudOfAll_77 rfl (lv_at hl 0 rfl) ?_
  exact kp_reti C hr hlk G h dX9_loudOfAll_78 hF
def kl_X9_seems_21 (a1 : Int) : Nat → Int → Int → Int → kp_W → (Int → kp_W → kp_R) → kp_R
  | 0, _, _, _, _, _ => none
  | n + 1, x2_1, x3_1, x4_1, σ_3, k => kp_ls x4_1 10 (kp_bd (kf_X9_loudOfAll x4_1 a1 σ_3) (fun r_2 σ_5 => kp_lt (r_2 : Int) (fun x5_0 => kp_ls x3_1 x5_0 (kp_lt (x5_0 : Int) (fun x3_2 => kp_lt (x4_1 : Int) (fun x2_3 => kp_lt (x4_1 + 1) (fun x4_3 => kl_X9_seems_21 a1 n x2_3 x3_2 x4_3 σ_5 k)))) (kp_lt (x4_1 + 1) (fun x4_2 => kl_X9_seems_21 a1 n x2_1 x3_1 x4_2 σ_5 k))))) (k x2_1 σ_3)
def kf_X9_seems  (a1 : Int) (σ_0 : kp_W) : kp_R :=
  kp_bd (kf_X9_isMinute a1 σ_0) (fun r_0 σ_1 => kp_eq r_0 0 (some ((-1), σ_1)) (kp_bd (kf_X9_settle σ_1) (fun r_1 σ_2 => kp_lt ((-5) : Int) (fun x2_0 => kp_lt (0 : Int) (fun x3_0 => kp_lt (0 : Int) (fun x4_0 => kl_X9_seems_21 a1 kp_fu x2_0 x3_0 x4_0 σ_2 (fun (x2_2 : Int) (σ_4 : kp_W) => some (x2_2, σ_4))))))))
set_option maxRecDepth 100000 in
set_option maxHeartbeats 4000000 in
theorem kc_X9_seems {l : Launch} {X : kp_X} {a1 : Int}  {σ_0 σ' : kp_W} {r : Int}   (hF : (kf_X9_seems a1 σ_0) = some (r, σ')) : kp_Met l yX9_seems cX9_seems 6 (some .int) 6 X kp_lK 55 σ_0 [.ref (kp_ad X 0), kp_iv a1] (kp_Qi X kp_lK 55 σ' r) := by
  refine kp_body pnX9 (Nat.le_of_ble_eq_true rfl) ?_
  intro p e s m args below meth c ls C hr hlk G h hl
  unfold kf_X9_seems at hF
  have hl : lv_has ls 6 [(0, .ref (kp_ad X 0)), (1, kp_iv a1)] := hl
  refine kp_iload_n C dX9_seems_0 rfl (lv_at hl 1 rfl) ?_
  obtain ⟨r_0, σ_1, hc, hF⟩ := kp_bd_s hF
  refine kp_ci h (kp_rS (As := [kp_iv a1]) (rest := []) C G h (kc_X9_isMinute  hc) q2_181 q2_182 q1_1 q2_183 hd_X9_isMinute (by decide) rfl hl.1 rfl (Nat.le_of_ble_eq_true rfl) dX9_seems_1) (fun H locs h => ?_)
  refine kp_if_ne (tgt := 9) C dX9_seems_4 (by decide) hF (fun hF => ?_) (fun hF => ?_)
  · refine kp_aload_n C dX9_seems_9 rfl (lv_at hl 0 rfl) ?_
    obtain ⟨r_1, σ_2, hc, hF⟩ := kp_bd_s hF
    refine kp_cv h (kp_rV (k := 0) (As := []) (rest := []) C G h (kc_X9_settle  hc) q2_184 q2_186 q0_1_9 q1_1 q2_187 ⟨rfl, hd_X9_settle⟩ (by decide) kp_lK0 rfl rfl hl.1 rfl (Nat.le_of_ble_eq_true rfl) dX9_seems_10) (fun H locs h => ?_)
    refine kp_bipush C dX9_seems_13 rfl ?_
    refine kp_istore_n (lv' := fun x2_0 => [(2, kp_iv x2_0), (0, .ref (kp_ad X 0)), (1, kp_iv a1)]) C dX9_seems_15 rfl hl (by decide) (fun _ => rfl) hF (fun x2_0 ls hl hF => ?_)
    refine kp_iconst C dX9_seems_16 ?_
    refine kp_istore_n (lv' := fun x3_0 => [(3, kp_iv x3_0), (2, kp_iv x2_0), (0, .ref (kp_ad X 0)), (1, kp_iv a1)]) C dX9_seems_17 rfl hl (by decide) (fun _ => rfl) hF (fun x3_0 ls hl hF => ?_)
    refine kp_iconst C dX9_seems_18 ?_
    refine kp_istore (lv' := fun x4_0 => [(4, kp_iv x4_0), (3, kp_iv x3_0), (2, kp_iv x2_0), (0, .ref (kp_ad X 0)), (1, kp_iv a1)]) C dX9_seems_19 hl (by decide) (fun _ => rfl) hF (fun x4_0 ls hl hF => ?_)
    have L21 : ∀ (n : Nat) (x2_1 : Int) (x3_1 : Int) (x4_1 : Int) (σ_3 : kp_W) (k : Int → kp_W → kp_R) (H : Heap) (locs : List Loc) (ls : Array Slot), kp_H X kp_lK 55 s σ_3 H locs → lv_has ls 6 [(0, .ref (kp_ad X 0)), (1, kp_iv a1), (2, kp_iv x2_1), (3, kp_iv x3_1), (4, kp_iv x4_1)] → (∀ (x2_2 : Int) (σ_4 : kp_W) (H : Heap) (locs : List Loc) (ls : Array Slot), kp_H X kp_lK 55 s σ_4 H locs → lv_has ls 6 [(2, kp_iv x2_2)] → k x2_2 σ_4 = some (r, σ') → W p l e (kp_rm 6) s m args below meth c H locs 0 0 (MQ below (kp_Qi X kp_lK 55 σ' r) args s 0 0 (kp_A X 55)) (F0 m 55 ls [])) → kl_X9_seems_21 a1 n x2_1 x3_1 x4_1 σ_3 k = some (r, σ') → W p l e (kp_rm 6) s m args below meth c H locs 0 0 (MQ below (kp_Qi X kp_lK 55 σ' r) args s 0 0 (kp_A X 55)) (F0 m 21 ls []) := by
      intro n
      induction n with
      | zero =>
        intro x2_1 x3_1 x4_1 σ_3 k H locs ls h hl K hF
        rw [kl_X9_seems_21] at hF
        cases hF
      | succ n ih =>
        intro x2_1 x3_1 x4_1 σ_3 k H locs ls h hl K hF
        rw [kl_X9_seems_21] at hF
        refine kp_iload C dX9_seems_21 (lv_at hl 4 rfl) ?_
        refine kp_bipush C dX9_seems_23 rfl ?_
        refine kp_icmp_ge (tgt := 55) C dX9_seems_25 (by decide) hF (fun hF => ?_) (fun hF => ?_)
        · exact K _ _ _ _ _ h (lv_sub hl [2] rfl) hF
        · refine kp_aload_n C dX9_seems_28 rfl (lv_at hl 0 rfl) ?_
          refine kp_iload C dX9_seems_29 (lv_at hl 4 rfl) ?_
          refine kp_iload_n C dX9_seems_31 rfl (lv_at hl 1 rfl) ?_
          obtain ⟨r_2, σ_5, hc, hF⟩ := kp_bd_s hF
          refine kp_ci h (kp_rV (k := 0) (As := [kp_iv x4_1, kp_iv a1]) (rest := []) C G h (kc_X9_loudOfAll  hc) q3_102 q3_104 q0_2_2 q1_1 q3_105 ⟨rfl, hd_X9_loudOfAll⟩ (by decide) kp_lK0 rfl rfl hl.1 rfl (Nat.le_of_ble_eq_true rfl) dX9_seems_32) (fun H locs h => ?_)
          refine kp_istore (lv' := fun x5_0 => [(5, kp_iv x5_0), (0, .ref (kp_ad X 0)), (1, kp_iv a1), (2, kp_iv x2_1), (3, kp_iv x3_1), (4, kp_iv x4_1)]) C dX9_seems_35 hl (by decide) (fun _ => rfl) hF (fun x5_0 ls hl hF => ?_)
          refine kp_iload C dX9_seems_37 (lv_at hl 0 rfl) ?_
          refine kp_iload_n C dX9_seems_39 rfl (lv_at hl 4 rfl) ?_
          refine kp_icmp_le (tgt := 49) C dX9_seems_40 (by decide) hF (fun hF => ?_) (fun hF => ?_)
          · refine kp_iinc (k := 5) (lv' := fun x4_2 => [(4, kp_iv x4_2), (5, kp_iv x5_0), (0, .ref (kp_ad X 0)), (1, kp_iv a1), (2, kp_iv x2_1), (3, kp_iv x3_1)]) C dX9_seems_49 hl rfl (by decide) (fun _ => rfl) hF (fun x4_2 ls hl hF => ?_)
            refine kp_goto (tgt := 21) C dX9_seems_52 (by decide) ?_
            exact ih _ _ _ _ k _ _ _ h (lv_sub hl [2, 3, 4, 5, 0] rfl) K hF
          · refine kp_iload C dX9_seems_43 (lv_at hl 0 rfl) ?_
            refine kp_istore_n (lv' := fun x3_2 => [(3, kp_iv x3_2), (5, kp_iv x5_0), (0, .ref (kp_ad X 0)), (1, kp_iv a1), (2, kp_iv x2_1), (4, kp_iv x4_1)]) C dX9_seems_45 rfl hl (by decide) (fun _ => rfl) hF (fun x3_2 ls hl hF => ?_)
            refine kp_iload C dX9_seems_46 (lv_at hl 5 rfl) ?_
            refine kp_istore_n (lv' := fun x2_3 => [(2, kp_iv x2_3), (3, kp_iv x3_2), (5, kp_iv x5_0), (0, .ref (kp_ad X 0)), (1, kp_iv a1), (4, kp_iv x4_1)]) C dX9_seems_48 rfl hl (by decide) (fun _ => rfl) hF (fun x2_3 ls hl hF => ?_)
            refine kp_iinc (k := 5) (lv' := fun x4_3 => [(4, kp_iv x4_3), (2, kp_iv x2_3), (3, kp_iv x3_2), (5, kp_iv x5_0), (0, .ref (kp_ad X 0)), (1, kp_iv a1)]) C dX9_seems_49 hl rfl (by decide) (fun _ => rfl) hF (fun x4_3 ls hl hF => ?_)
            refine kp_goto (tgt := 21) C dX9_seems_52 (by decide) ?_
            exact ih _ _ _ _ k _ _ _ h (lv_sub hl [4, 5, 1, 2, 0] rfl) K hF
    refine L21 kp_fu _ _ _ _ _ _ _ _ h (lv_sub hl [3, 4, 2, 1, 0] rfl) (fun x2_2 σ_4 H locs ls h hl hF => ?_) hF
    clear L21
    refine kp_iload_n C dX9_seems_55 rfl (lv_at hl 0 rfl) ?_
    exact kp_reti C hr hlk G h dX9_seems_56 hF
  · refine kp_iconst C dX9_seems_7 ?_
    exact kp_reti C hr hlk G h dX9_seems_8 hF
