-- by program (wip/whole/gen/drive.py)
def kf_X8_holds  (a1 : Int) (a2 : Int) (σ_0 : kp_W) : kp_R :=
  kp_bd (kf_X8_sign a1 σ_0) (fun r_0 σ_1 => kp_eq r_0 0 (kp_bd (kf_X8_number a1 σ_1) (fun r_1 σ_2 => kp_ls a2 r_1 (some (1, σ_2)) (some (0, σ_2)))) (kp_eq r_0 1 (kp_bd (kf_X8_number a1 σ_1) (fun r_2 σ_3 => kp_eq a2 r_2 (some (1, σ_3)) (some (0, σ_3)))) (kp_bd (kf_X8_number a1 σ_1) (fun r_3 σ_4 => kp_ls r_3 a2 (some (1, σ_4)) (some (0, σ_4))))))
set_option maxRecDepth 100000 in
set_option maxHeartbeats 4000000 in
theorem kc_X8_holds {l : Launch} {X : kp_X} {a1 : Int} {a2 : Int}  {σ_0 σ' : kp_W} {r : Int}   (hF : (kf_X8_holds a1 a2 σ_0) = some (r, σ')) : kp_Met l yX8_holds cX8_holds 2 (some .boolean) 1 X kp_lK 55 σ_0 [kp_iv a1, kp_iv a2] (kp_Qi X kp_lK 55 σ' r) := by
  refine kp_body pnX8 (Nat.le_of_ble_eq_true rfl) ?_
  intro p e s m args below meth c ls C hr hlk G h hl
  unfold kf_X8_holds at hF
  have hl : lv_has ls 2 [(0, kp_iv a1), (1, kp_iv a2)] := hl
  refine kp_iload_n C dX8_holds_0 rfl (lv_at hl 0 rfl) ?_
  obtain ⟨r_0, σ_1, hc, hF⟩ := kp_bd_s hF
  refine kp_ci h (kp_rS (As := [kp_iv a1]) (rest := []) C G h (kc_X8_sign  hc) q2_210 q2_211 q1_17 q2_212 hd_X8_sign (by decide) rfl hl.1 rfl (Nat.le_of_ble_eq_true rfl) dX8_holds_1) (fun H locs h => ?_)
  obtain ⟨hx, -, ha, hb⟩ := kp_eq_s hF
  by_cases q0 : r_0 = 0
  · have hF := ha q0
    clear ha hb
    refine kp_look (tgt := 32) C dX8_holds_4 (by decide) hx (by rw [q0]) (by decide) ?_
    refine kp_iload_n C dX8_holds_32 rfl (lv_at hl 1 rfl) ?_
    refine kp_iload_n C dX8_holds_33 rfl (lv_at hl 0 rfl) ?_
    obtain ⟨r_1, σ_2, hc, hF⟩ := kp_bd_s hF
    refine kp_ci h (kp_rS (As := [kp_iv a1]) (rest := [kp_iv a2]) C G h (kc_X8_number  hc) q2_206 q2_207 q1_17 q2_208 hd_X8_number (by decide) rfl hl.1 rfl (Nat.le_of_ble_eq_true rfl) dX8_holds_34) (fun H locs h => ?_)
    refine kp_icmp_ge (tgt := 44) C dX8_holds_37 (by decide) hF (fun hF => ?_) (fun hF => ?_)
    · refine kp_iconst C dX8_holds_44 ?_
      exact kp_retz C hr hlk G h dX8_holds_45 (kp_ck_i (by decide) hF)
    · refine kp_iconst C dX8_holds_40 ?_
      refine kp_goto (tgt := 45) C dX8_holds_41 (by decide) ?_
      exact kp_retz C hr hlk G h dX8_holds_45 (kp_ck_i (by decide) hF)
  · have hF := hb q0
    clear ha hb
    obtain ⟨hx, -, ha, hb⟩ := kp_eq_s hF
    by_cases q1 : r_0 = 1
    · have hF := ha q1
      clear ha hb
      refine kp_look (tgt := 46) C dX8_holds_4 (by decide) hx (by rw [q1]) (by decide) ?_
      refine kp_iload_n C dX8_holds_46 rfl (lv_at hl 1 rfl) ?_
      refine kp_iload_n C dX8_holds_47 rfl (lv_at hl 0 rfl) ?_
      obtain ⟨r_2, σ_3, hc, hF⟩ := kp_bd_s hF
      refine kp_ci h (kp_rS (As := [kp_iv a1]) (rest := [kp_iv a2]) C G h (kc_X8_number  hc) q2_206 q2_207 q1_17 q2_208 hd_X8_number (by decide) rfl hl.1 rfl (Nat.le_of_ble_eq_true rfl) dX8_holds_48) (fun H locs h => ?_)
      refine kp_icmp_ne (tgt := 58) C dX8_holds_51 (by decide) hF (fun hF => ?_) (fun hF => ?_)
      · refine kp_iconst C dX8_holds_58 ?_
        exact kp_retz C hr hlk G h dX8_holds_59 (kp_ck_i (by decide) hF)
      · refine kp_iconst C dX8_holds_54 ?_
        refine kp_goto (tgt := 59) C dX8_holds_55 (by decide) ?_
        exact kp_retz C hr hlk G h dX8_holds_59 (kp_ck_i (by decide) hF)
    · have hF := hb q1
      clear ha hb
      refine kp_look (off := 56) (tgt := 60) C dX8_holds_4 (by decide) hx (by simp only [Op.lookupswitch.offset]; repeat rw [if_neg (by omega)]) (by decide) ?_
      refine kp_iload_n C dX8_holds_60 rfl (lv_at hl 1 rfl) ?_
      refine kp_iload_n C dX8_holds_61 rfl (lv_at hl 0 rfl) ?_
      obtain ⟨r_3, σ_4, hc, hF⟩ := kp_bd_s hF
      refine kp_ci h (kp_rS (As := [kp_iv a1]) (rest := [kp_iv a2]) C G h (kc_X8_number  hc) q2_206 q2_207 q1_17 q2_208 hd_X8_number (by decide) rfl hl.1 rfl (Nat.le_of_ble_eq_true rfl) dX8_holds_62) (fun H locs h => ?_)
      refine kp_icmp_le (tgt := 72) C dX8_holds_65 (by decide) hF (fun hF => ?_) (fun hF => ?_)
      · refine kp_iconst C dX8_holds_72 ?_
        exact kp_retz C hr hlk G h dX8_holds_73 (kp_ck_i (by decide) hF)
      · refine kp_iconst C dX8_holds_68 ?_
        refine kp_goto (tgt := 73) C dX8_holds_69 (by decide) ?_
        exact kp_retz C hr hlk G h dX8_holds_73 (kp_ck_i (by decide) hF)
def kf_X6_minutesOf  (a1 : Int) (a3 : Int) (σ_0 : kp_W) : kp_R :=
  kp_bd (kf_X8_subject a1 σ_0) (fun r_0 σ_1 => kp_jn (fun (x3_0 : Int) (σ_2 : kp_W) => kp_bd (kf_X8_holds a1 x3_0 σ_2) (fun r_1 σ_3 => kp_eq r_1 0 (some (0, σ_3)) (some (1099511627775, σ_3)))) (fun j76 => kp_eq r_0 0 (kp_lt (a3 : Int) (fun x3_1 => j76 x3_1 σ_1)) (kp_eq r_0 1 (kp_ck (0 ≤ a3 ∧ a3 < 10) (kp_lt ((σ_1 13 (Int.toNat a3)) : Int) (fun x3_2 => j76 x3_2 σ_1))) (kp_eq r_0 2 (kp_ck (0 ≤ a3 ∧ a3 < 10) (kp_lt ((σ_1 12 (Int.toNat a3)) : Int) (fun x3_3 => j76 x3_3 σ_1))) (kp_eq r_0 3 (kp_ck (0 ≤ a3 ∧ a3 < 10) (kp_lt ((σ_1 14 (Int.toNat a3)) : Int) (fun x3_4 => j76 x3_4 σ_1))) (kp_bd (kf_X8_minutes a1 σ_1) (fun r_2 σ_4 => some (r_2, σ_4))))))))
set_option maxRecDepth 100000 in
set_option maxHeartbeats 4000000 in
theorem kc_X6_minutesOf {l : Launch} {X : kp_X} {a1 : Int} {a3 : Int}  {σ_0 σ' : kp_W} {r : Int}   (hF : (kf_X6_minutesOf a1 a3 σ_0) = some (r, σ')) : kp_Met l yX6_minutesOf cX6_minutesOf 4 (some .long) 2 X kp_lK 55 σ_0 [kp_iv a1, .ref (kp_ad X 11), kp_iv a3] (kp_Ql X kp_lK 55 σ' r) := by
  refine kp_body pnX6 (Nat.le_of_ble_eq_true rfl) ?_
  intro p e s m args below meth c ls C hr hlk G h hl
  unfold kf_X6_minutesOf at hF
  have hl : lv_has ls 4 [(0, kp_iv a1), (1, .ref (kp_ad X 11)), (2, kp_iv a3)] := hl
  refine kp_iload_n C dX6_minutesOf_0 rfl (lv_at hl 0 rfl) ?_
  obtain ⟨r_0, σ_1, hc, hF⟩ := kp_bd_s hF
  refine kp_ci h (kp_rS (As := [kp_iv a1]) (rest := []) C G h (kc_X8_subject  hc) q2_200 q2_201 q1_17 q2_202 hd_X8_subject (by decide) rfl hl.1 rfl (Nat.le_of_ble_eq_true rfl) dX6_minutesOf_1) (fun H locs h => ?_)
  obtain ⟨j76, ej76, hF⟩ := kp_jn_s hF
  have J76 : ∀ (x3_0 : Int), ∀ (σ_2 : kp_W), ∀ (H : Heap) (locs : List Loc) (ls : Array Slot), kp_H X kp_lK 55 s σ_2 H locs → lv_has ls 4 [(0, kp_iv a1), (3, kp_iv x3_0)] → j76 x3_0 σ_2 = some (r, σ') → W p l e (kp_rm 2) s m args below meth c H locs 0 0 (MQ below (kp_Ql X kp_lK 55 σ' r) args s 0 0 (kp_A X 55)) (F0 m 76 ls []) := by
    intro x3_0 σ_2 H locs ls h hl hF
    rw [ej76] at hF
    refine kp_iload_n C dX6_minutesOf_76 rfl (lv_at hl 0 rfl) ?_
    refine kp_iload_n C dX6_minutesOf_77 rfl (lv_at hl 1 rfl) ?_
    obtain ⟨r_1, σ_3, hc, hF⟩ := kp_bd_s hF
    refine kp_ci h (kp_rS (As := [kp_iv a1, kp_iv x3_0]) (rest := []) C G h (kc_X8_holds  hc) q2_214 q2_215 q1_17 q2_216 hd_X8_holds (by decide) rfl hl.1 rfl (Nat.le_of_ble_eq_true rfl) dX6_minutesOf_78) (fun H locs h => ?_)
    refine kp_if_eq (tgt := 90) C dX6_minutesOf_81 (by decide) hF (fun hF => ?_) (fun hF => ?_)
    · refine kp_lconst (v := 0) C dX6_minutesOf_90 rfl ?_
      exact kp_retl C hr hlk G h dX6_minutesOf_91 hF
    · refine kp_ldc2 (n := 1099511627775) C q2_192 rfl dX6_minutesOf_84 ?_
      refine kp_goto (tgt := 91) C dX6_minutesOf_87 (by decide) ?_
      exact kp_retl C hr hlk G h dX6_minutesOf_91 hF
  clear ej76
  obtain ⟨hx, -, ha, hb⟩ := kp_eq_s hF
  by_cases q0 : r_0 = 0
  · have hF := ha q0
    clear ha hb
    refine kp_tabIn (v := 0) (tgt := 36) C dX6_minutesOf_4 q0 (by decide) rfl (by decide) ?_
    refine kp_iload_n C dX6_minutesOf_36 rfl (lv_at hl 2 rfl) ?_
    refine kp_istore_n (lv' := fun x3_1 => [(3, kp_iv x3_1), (0, kp_iv a1), (1, .ref (kp_ad X 11)), (2, kp_iv a3)]) C dX6_minutesOf_37 rfl hl (by decide) (fun _ => rfl) hF (fun x3_1 ls hl hF => ?_)
    refine kp_goto (tgt := 76) C dX6_minutesOf_38 (by decide) ?_
    exact J76 _ _ _ _ _ h (lv_sub hl [1, 0] rfl) hF
  · have hF := hb q0
    clear ha hb
    obtain ⟨hx, -, ha, hb⟩ := kp_eq_s hF
    by_cases q1 : r_0 = 1
    · have hF := ha q1
      clear ha hb
      refine kp_tabIn (v := 1) (tgt := 41) C dX6_minutesOf_4 q1 (by decide) rfl (by decide) ?_
      refine kp_aload_n C dX6_minutesOf_41 rfl (lv_at hl 1 rfl) ?_
      refine kp_getr C G h kp_lK11 rfl inWX3 (j := 1) (by decide) q1_108 rfl dX6_minutesOf_42 ?_
      refine kp_iload_n C dX6_minutesOf_45 rfl (lv_at hl 2 rfl) ?_
      refine kp_iald C G h (n := 10) kp_lK13 (by decide) dX6_minutesOf_46 hF (fun hF => ?_)
      refine kp_istore_n (lv' := fun x3_2 => [(3, kp_iv x3_2), (0, kp_iv a1), (1, .ref (kp_ad X 11)), (2, kp_iv a3)]) C dX6_minutesOf_47 rfl hl (by decide) (fun _ => rfl) hF (fun x3_2 ls hl hF => ?_)
      refine kp_goto (tgt := 76) C dX6_minutesOf_48 (by decide) ?_
      exact J76 _ _ _ _ _ h (lv_sub hl [1, 0] rfl) hF
    · have hF := hb q1
      clear ha hb
      obtain ⟨hx, -, ha, hb⟩ := kp_eq_s hF
      by_cases q2 : r_0 = 2
      · have hF := ha q2
        clear ha hb
        refine kp_tabIn (v := 2) (tgt := 51) C dX6_minutesOf_4 q2 (by decide) rfl (by decide) ?_
        refine kp_aload_n C dX6_minutesOf_51 rfl (lv_at hl 1 rfl) ?_
        refine kp_getr C G h kp_lK11 rfl inWX3 (j := 0) (by decide) q1_105 rfl dX6_minutesOf_52 ?_
        refine kp_iload_n C dX6_minutesOf_55 rfl (lv_at hl 2 rfl) ?_
        refine kp_iald C G h (n := 10) kp_lK12 (by decide) dX6_minutesOf_56 hF (fun hF => ?_)
        refine kp_istore_n (lv' := fun x3_3 => [(3, kp_iv x3_3), (0, kp_iv a1), (1, .ref (kp_ad X 11)), (2, kp_iv a3)]) C dX6_minutesOf_57 rfl hl (by decide) (fun _ => rfl) hF (fun x3_3 ls hl hF => ?_)
        refine kp_goto (tgt := 76) C dX6_minutesOf_58 (by decide) ?_
        exact J76 _ _ _ _ _ h (lv_sub hl [1, 0] rfl) hF
      · have hF := hb q2
        clear ha hb
        obtain ⟨hx, -, ha, hb⟩ := kp_eq_s hF
        by_cases q3 : r_0 = 3
        · have hF := ha q3
          clear ha hb
          refine kp_tabIn (v := 3) (tgt := 61) C dX6_minutesOf_4 q3 (by decide) rfl (by decide) ?_
          refine kp_aload_n C dX6_minutesOf_61 rfl (lv_at hl 1 rfl) ?_
          refine kp_getr C G h kp_lK11 rfl inWX3 (j := 2) (by decide) q1_112 rfl dX6_minutesOf_62 ?_
          refine kp_iload_n C dX6_minutesOf_65 rfl (lv_at hl 2 rfl) ?_
          refine kp_iald C G h (n := 10) kp_lK14 (by decide) dX6_minutesOf_66 hF (fun hF => ?_)
          refine kp_istore_n (lv' := fun x3_4 => [(3, kp_iv x3_4), (0, kp_iv a1), (1, .ref (kp_ad X 11)), (2, kp_iv a3)]) C dX6_minutesOf_67 rfl hl (by decide) (fun _ => rfl) hF (fun x3_4 ls hl hF => ?_)
          refine kp_goto (tgt := 76) C dX6_minutesOf_68 (by decide) ?_
          exact J76 _ _ _ _ _ h (lv_sub hl [1, 0] rfl) hF
        · have hF := hb q3
          clear ha hb
          refine kp_tabOut (tgt := 71) C dX6_minutesOf_4 hx (by omega) (by decide) ?_
          refine kp_iload_n C dX6_minutesOf_71 rfl (lv_at hl 0 rfl) ?_
          obtain ⟨r_2, σ_4, hc, hF⟩ := kp_bd_s hF
          refine kp_cl' h (kp_rS (As := [kp_iv a1]) (rest := []) C G h (kc_X8_minutes  hc) q2_203 q2_204 q1_17 q2_205 hd_X8_minutes (by decide) rfl hl.1 rfl (Nat.le_of_ble_eq_true rfl) dX6_minutesOf_72) (fun H locs h => ?_)
          exact kp_retl C hr hlk G h dX6_minutesOf_75 hF
def kl_X6_holds_6 (a3 : Int) (a5 : Int) : Nat → Int → Int → kp_W → (Int → kp_W → kp_R) → kp_R
  | 0, _, _, _, _ => none
  | n + 1, x6_1, x7_1, σ_1, k => kp_ls x7_1 a3 (kp_ls x7_1 120 (kp_ck (0 ≤ x7_1 ∧ x7_1 < 120) (kp_lt ((σ_1 7 (Int.toNat x7_1)) : Int) (fun x8_0 => kp_ls x8_0 0 (kp_eq x8_0 (-1) (kp_ls x6_1 1 (some (0, σ_1)) (kp_ck (0 ≤ (x6_1 - 1) ∧ (x6_1 - 1) < 16) (kp_ck (0 ≤ (x6_1 - 1) ∧ (x6_1 - 1) < 16) (kp_lt (kp_up σ_1 54 (Int.toNat (x6_1 - 1)) (kp_xorL (σ_1 54 (Int.toNat (x6_1 - 1))) 1099511627775)) (fun σ_5 => kp_lt (x7_1 + 1) (fun x7_4 => kl_X6_holds_6 a3 a5 n x6_1 x7_4 σ_5 k)))))) (kp_ls x6_1 2 (some (0, σ_1)) (kp_lt (x6_1 + (-1)) (fun x6_3 => kp_eq x8_0 (-2) (kp_ck (0 ≤ (x6_3 - 1) ∧ (x6_3 - 1) < 16) (kp_ck (0 ≤ x6_3 ∧ x6_3 < 16) (kp_ck (0 ≤ (x6_3 - 1) ∧ (x6_3 - 1) < 16) (kp_lt (kp_up σ_1 54 (Int.toNat (x6_3 - 1)) (kp_andL (σ_1 54 (Int.toNat (x6_3 - 1))) (σ_1 54 (Int.toNat x6_3)))) (fun σ_4 => kp_lt (x7_1 + 1) (fun x7_3 => kl_X6_holds_6 a3 a5 n x6_3 x7_3 σ_4 k)))))) (kp_ck (0 ≤ (x6_3 - 1) ∧ (x6_3 - 1) < 16) (kp_ck (0 ≤ x6_3 ∧ x6_3 < 16) (kp_ck (0 ≤ (x6_3 - 1) ∧ (x6_3 - 1) < 16) (kp_lt (kp_up σ_1 54 (Int.toNat (x6_3 - 1)) (kp_orL (σ_1 54 (Int.toNat (x6_3 - 1))) (σ_1 54 (Int.toNat x6_3)))) (fun σ_3 => kp_lt (x7_1 + 1) (fun x7_2 => kl_X6_holds_6 a3 a5 n x6_3 x7_2 σ_3 k)))))))))) (kp_ls x6_1 16 (kp_bd (kf_X6_minutesOf x8_0 a5 σ_1) (fun r_0 σ_6 => kp_ck (0 ≤ x6_1 ∧ x6_1 < 16) (kp_lt (kp_up σ_6 54 (Int.toNat x6_1) r_0) (fun σ_7 => kp_lt (x6_1 + 1) (fun x6_4 => kp_lt (x7_1 + 1) (fun x7_5 => kl_X6_holds_6 a3 a5 n x6_4 x7_5 σ_7 k)))))) (some (0, σ_1)))))) (k x6_1 σ_1)) (k x6_1 σ_1)
def kf_X6_holds  (a2 : Int) (a3 : Int) (a5 : Int) (σ_0 : kp_W) : kp_R :=
  kp_lt (0 : Int) (fun x6_0 => kp_lt (a2 : Int) (fun x7_0 => kl_X6_holds_6 a3 a5 kp_fu x6_0 x7_0 σ_0 (fun (x6_2 : Int) (σ_2 : kp_W) => kp_eq x6_2 1 (some ((σ_2 54 0), σ_2)) (some (0, σ_2)))))
set_option maxRecDepth 100000 in
set_option maxHeartbeats 4000000 in
theorem kc_X6_holds {l : Launch} {X : kp_X} {a2 : Int} {a3 : Int} {a5 : Int}  {σ_0 σ' : kp_W} {r : Int}   (hF : (kf_X6_holds a2 a3 a5 σ_0) = some (r, σ')) : kp_Met l yX6_holds cX6_holds 9 (some .long) 3 X kp_lK 55 σ_0 [.ref (kp_ad X 48), .ref (kp_ad X 5), kp_iv a2, kp_iv a3, .ref (kp_ad X 11), kp_iv a5] (kp_Ql X kp_lK 55 σ' r) := by
  refine kp_body pnX6 (Nat.le_of_ble_eq_true rfl) ?_
  intro p e s m args below meth c ls C hr hlk G h hl
  unfold kf_X6_holds at hF
  have hl : lv_has ls 9 [(0, .ref (kp_ad X 48)), (1, .ref (kp_ad X 5)), (2, kp_iv a2), (3, kp_iv a3), (4, .ref (kp_ad X 11)), (5, kp_iv a5)] := hl
  refine kp_iconst C dX6_holds_0 ?_
  refine kp_istore (lv' := fun x6_0 => [(6, kp_iv x6_0), (0, .ref (kp_ad X 48)), (1, .ref (kp_ad X 5)), (2, kp_iv a2), (3, kp_iv a3), (4, .ref (kp_ad X 11)), (5, kp_iv a5)]) C dX6_holds_1 hl (by decide) (fun _ => rfl) hF (fun x6_0 ls hl hF => ?_)
  refine kp_iload_n C dX6_holds_3 rfl (lv_at hl 3 rfl) ?_
  refine kp_istore (lv' := fun x7_0 => [(7, kp_iv x7_0), (6, kp_iv x6_0), (0, .ref (kp_ad X 48)), (1, .ref (kp_ad X 5)), (2, kp_iv a2), (3, kp_iv a3), (4, .ref (kp_ad X 11)), (5, kp_iv a5)]) C dX6_holds_4 hl (by decide) (fun _ => rfl) hF (fun x7_0 ls hl hF => ?_)
  have L6 : ∀ (n : Nat) (x6_1 : Int) (x7_1 : Int) (σ_1 : kp_W) (k : Int → kp_W → kp_R) (H : Heap) (locs : List Loc) (ls : Array Slot), kp_H X kp_lK 55 s σ_1 H locs → lv_has ls 9 [(0, .ref (kp_ad X 48)), (1, .ref (kp_ad X 5)), (3, kp_iv a3), (4, .ref (kp_ad X 11)), (5, kp_iv a5), (6, kp_iv x6_1), (7, kp_iv x7_1)] → (∀ (x6_2 : Int) (σ_2 : kp_W) (H : Heap) (locs : List Loc) (ls : Array Slot), kp_H X kp_lK 55 s σ_2 H locs → lv_has ls 9 [(0, .ref (kp_ad X 48)), (6, kp_iv x6_2)] → k x6_2 σ_2 = some (r, σ') → W p l e (kp_rm 3) s m args below meth c H locs 0 0 (MQ below (kp_Ql X kp_lK 55 σ' r) args s 0 0 (kp_A X 55)) (F0 m 161 ls [])) → kl_X6_holds_6 a3 a5 n x6_1 x7_1 σ_1 k = some (r, σ') → W p l e (kp_rm 3) s m args below meth c H locs 0 0 (MQ below (kp_Ql X kp_lK 55 σ' r) args s 0 0 (kp_A X 55)) (F0 m 6 ls []) := by
    intro n
    induction n with
    | zero =>
      intro x6_1 x7_1 σ_1 k H locs ls h hl K hF
      rw [kl_X6_holds_6] at hF
      cases hF
    | succ n ih =>
      intro x6_1 x7_1 σ_1 k H locs ls h hl K hF
      rw [kl_X6_holds_6] at hF
      refine kp_iload C dX6_holds_6 (lv_at hl 6 rfl) ?_
      refine kp_iload_n C dX6_holds_8 rfl (lv_at hl 2 rfl) ?_
      refine kp_icmp_ge (tgt := 161) C dX6_holds_9 (by decide) hF (fun hF => ?_) (fun hF => ?_)
      · exact K _ _ _ _ _ h (lv_sub hl [0, 5] rfl) hF
      · refine kp_iload C dX6_holds_12 (lv_at hl 6 rfl) ?_
        refine kp_bipush C dX6_holds_14 rfl ?_
        refine kp_icmp_ge (tgt := 161) C dX6_holds_16 (by decide) hF (fun hF => ?_) (fun hF => ?_)
        · exact K _ _ _ _ _ h (lv_sub hl [0, 5] rfl) hF
        · refine kp_aload_n C dX6_holds_19 rfl (lv_at hl 1 rfl) ?_
          refine kp_getr C G h kp_lK5 rfl inWX2 (j := 1) (by decide) q1_72 rfl dX6_holds_20 ?_
          refine kp_iload C dX6_holds_23 (lv_at hl 6 rfl) ?_
          refine kp_iald C G h (n := 120) kp_lK7 (by decide) dX6_holds_25 hF (fun hF => ?_)
          refine kp_istore (lv' := fun x8_0 => [(8, kp_iv x8_0), (0, .ref (kp_ad X 48)), (1, .ref (kp_ad X 5)), (3, kp_iv a3), (4, .ref (kp_ad X 11)), (5, kp_iv a5), (6, kp_iv x6_1), (7, kp_iv x7_1)]) C dX6_holds_26 hl (by decide) (fun _ => rfl) hF (fun x8_0 ls hl hF => ?_)
          refine kp_iload C dX6_holds_28 (lv_at hl 0 rfl) ?_
          refine kp_if_lt (tgt := 64) C dX6_holds_30 (by decide) hF (fun hF => ?_) (fun hF => ?_)
          · refine kp_iload C dX6_holds_64 (lv_at hl 0 rfl) ?_
            refine kp_iconst C dX6_holds_66 ?_
            refine kp_icmp_ne (tgt := 96) C dX6_holds_67 (by decide) hF (fun hF => ?_) (fun hF => ?_)
            · refine kp_iload C dX6_holds_96 (lv_at hl 6 rfl) ?_
              refine kp_iconst C dX6_holds_98 ?_
              refine kp_icmp_ge (tgt := 104) C dX6_holds_99 (by decide) hF (fun hF => ?_) (fun hF => ?_)
              · refine kp_iinc (k := 6) (lv' := fun x6_3 => [(6, kp_iv x6_3), (8, kp_iv x8_0), (0, .ref (kp_ad X 48)), (1, .ref (kp_ad X 5)), (3, kp_iv a3), (4, .ref (kp_ad X 11)), (5, kp_iv a5), (7, kp_iv x7_1)]) C dX6_holds_104 hl rfl (by decide) (fun _ => rfl) hF (fun x6_3 ls hl hF => ?_)
                refine kp_iload C dX6_holds_107 (lv_at hl 1 rfl) ?_
                refine kp_bipush C dX6_holds_109 rfl ?_
                refine kp_icmp_ne (tgt := 136) C dX6_holds_111 (by decide) hF (fun hF => ?_) (fun hF => ?_)
                · refine kp_aload_n C dX6_holds_136 rfl (lv_at hl 2 rfl) ?_
                  refine kp_getr C G h kp_lK48 rfl inWX6 (j := 5) (by decide) q1_214 rfl dX6_holds_137 ?_
                  refine kp_iload C dX6_holds_140 (lv_at hl 0 rfl) ?_
                  refine kp_iconst C dX6_holds_142 ?_
                  refine kp_isub C dX6_holds_143 ?_
                  refine kp_dup2 C dX6_holds_144 rfl rfl ?_
                  refine kp_lald C G h (n := 16) kp_lK54 (by decide) dX6_holds_145 hF (fun hF => ?_)
                  refine kp_aload_n C dX6_holds_146 rfl (lv_at hl 2 rfl) ?_
                  refine kp_getr C G h kp_lK48 rfl inWX6 (j := 5) (by decide) q1_214 rfl dX6_holds_147 ?_
                  refine kp_iload C dX6_holds_150 (lv_at hl 0 rfl) ?_
                  refine kp_lald C G h (n := 16) kp_lK54 (by decide) dX6_holds_152 hF (fun hF => ?_)
                  refine kp_xlor C dX6_holds_153 ?_
                  refine kp_last C G h (n := 16) kp_lK54 (by decide) dX6_holds_154 hF (fun σ_3 H locs h hF => ?_)
                  refine kp_iinc (k := 7) (lv' := fun x7_2 => [(7, kp_iv x7_2), (6, kp_iv x6_3), (8, kp_iv x8_0), (0, .ref (kp_ad X 48)), (1, .ref (kp_ad X 5)), (3, kp_iv a3), (4, .ref (kp_ad X 11)), (5, kp_iv a5)]) C dX6_holds_155 hl rfl (by decide) (fun _ => rfl) hF (fun x7_2 ls hl hF => ?_)
                  refine kp_goto (tgt := 6) C dX6_holds_158 (by decide) ?_
                  exact ih _ _ _ k _ _ _ h (lv_sub hl [3, 4, 5, 6, 7, 1, 0] rfl) K hF
                · refine kp_aload_n C dX6_holds_114 rfl (lv_at hl 2 rfl) ?_
                  refine kp_getr C G h kp_lK48 rfl inWX6 (j := 5) (by decide) q1_214 rfl dX6_holds_115 ?_
                  refine kp_iload C dX6_holds_118 (lv_at hl 0 rfl) ?_
                  refine kp_iconst C dX6_holds_120 ?_
                  refine kp_isub C dX6_holds_121 ?_
                  refine kp_dup2 C dX6_holds_122 rfl rfl ?_
                  refine kp_lald C G h (n := 16) kp_lK54 (by decide) dX6_holds_123 hF (fun hF => ?_)
                  refine kp_aload_n C dX6_holds_124 rfl (lv_at hl 2 rfl) ?_
                  refine kp_getr C G h kp_lK48 rfl inWX6 (j := 5) (by decide) q1_214 rfl dX6_holds_125 ?_
                  refine kp_iload C dX6_holds_128 (lv_at hl 0 rfl) ?_
                  refine kp_lald C G h (n := 16) kp_lK54 (by decide) dX6_holds_130 hF (fun hF => ?_)
                  refine kp_xland C dX6_holds_131 ?_
                  refine kp_last C G h (n := 16) kp_lK54 (by decide) dX6_holds_132 hF (fun σ_4 H locs h hF => ?_)
                  refine kp_goto (tgt := 155) C dX6_holds_133 (by decide) ?_
                  refine kp_iinc (k := 7) (lv' := fun x7_3 => [(7, kp_iv x7_3), (6, kp_iv x6_3), (8, kp_iv x8_0), (0, .ref (kp_ad X 48)), (1, .ref (kp_ad X 5)), (3, kp_iv a3), (4, .ref (kp_ad X 11)), (5, kp_iv a5)]) C dX6_holds_155 hl rfl (by decide) (fun _ => rfl) hF (fun x7_3 ls hl hF => ?_)
                  refine kp_goto (tgt := 6) C dX6_holds_158 (by decide) ?_
                  exact ih _ _ _ k _ _ _ h (lv_sub hl [3, 4, 5, 6, 7, 1, 0] rfl) K hF
              · refine kp_lconst (v := 0) C dX6_holds_102 rfl ?_
                exact kp_retl C hr hlk G h dX6_holds_103 hF
            · refine kp_iload C dX6_holds_70 (lv_at hl 6 rfl) ?_
              refine kp_iconst C dX6_holds_72 ?_
              refine kp_icmp_ge (tgt := 78) C dX6_holds_73 (by decide) hF (fun hF => ?_) (fun hF => ?_)
              · refine kp_aload_n C dX6_holds_78 rfl (lv_at hl 1 rfl) ?_
                refine kp_getr C G h kp_lK48 rfl inWX6 (j := 5) (by decide) q1_214 rfl dX6_holds_79 ?_
                refine kp_iload C dX6_holds_82 (lv_at hl 6 rfl) ?_
                refine kp_iconst C dX6_holds_84 ?_
                refine kp_isub C dX6_holds_85 ?_
                refine kp_dup2 C dX6_holds_86 rfl rfl ?_
                refine kp_lald C G h (n := 16) kp_lK54 (by decide) dX6_holds_87 hF (fun hF => ?_)
                refine kp_ldc2 (n := 1099511627775) C q2_192 rfl dX6_holds_88 ?_
                refine kp_xlxor C dX6_holds_91 ?_
                refine kp_last C G h (n := 16) kp_lK54 (by decide) dX6_holds_92 hF (fun σ_5 H locs h hF => ?_)
                refine kp_goto (tgt := 155) C dX6_holds_93 (by decide) ?_
                refine kp_iinc (k := 7) (lv' := fun x7_4 => [(7, kp_iv x7_4), (8, kp_iv x8_0), (0, .ref (kp_ad X 48)), (1, .ref (kp_ad X 5)), (3, kp_iv a3), (4, .ref (kp_ad X 11)), (5, kp_iv a5), (6, kp_iv x6_1)]) C dX6_holds_155 hl rfl (by decide) (fun _ => rfl) hF (fun x7_4 ls hl hF => ?_)
                refine kp_goto (tgt := 6) C dX6_holds_158 (by decide) ?_
                exact ih _ _ _ k _ _ _ h (lv_sub hl [2, 3, 4, 5, 6, 7, 0] rfl) K hF
              · refine kp_lconst (v := 0) C dX6_holds_76 rfl ?_
                exact kp_retl C hr hlk G h dX6_holds_77 hF
          · refine kp_iload C dX6_holds_33 (lv_at hl 6 rfl) ?_
            refine kp_bipush C dX6_holds_35 rfl ?_
            refine kp_icmp_lt (tgt := 42) C dX6_holds_37 (by decide) hF (fun hF => ?_) (fun hF => ?_)
            · refine kp_aload_n C dX6_holds_42 rfl (lv_at hl 1 rfl) ?_
              refine kp_getr C G h kp_lK48 rfl inWX6 (j := 5) (by decide) q1_214 rfl dX6_holds_43 ?_
              refine kp_iload C dX6_holds_46 (lv_at hl 6 rfl) ?_
              refine kp_iload C dX6_holds_48 (lv_at hl 0 rfl) ?_
              refine kp_aload C dX6_holds_50 (lv_at hl 4 rfl) ?_
              refine kp_iload C dX6_holds_52 (lv_at hl 5 rfl) ?_
              obtain ⟨r_0, σ_6, hc, hF⟩ := kp_bd_s hF
              refine kp_cl' h (kp_rS (As := [kp_iv x8_0, .ref (kp_ad X 11), kp_iv a5]) (rest := [kp_iv x6_1, .ref (kp_ad X 54)]) C G h (kc_X6_minutesOf  hc) q2_197 q2_198 q1_9 q2_199 hd_X6_minutesOf (by decide) rfl hl.1 rfl (Nat.le_of_ble_eq_true rfl) dX6_holds_54) (fun H locs h => ?_)
              refine kp_last C G h (n := 16) kp_lK54 (by decide) dX6_holds_57 hF (fun σ_7 H locs h hF => ?_)
              refine kp_iinc (k := 6) (lv' := fun x6_4 => [(6, kp_iv x6_4), (8, kp_iv x8_0), (0, .ref (kp_ad X 48)), (1, .ref (kp_ad X 5)), (3, kp_iv a3), (4, .ref (kp_ad X 11)), (5, kp_iv a5), (7, kp_iv x7_1)]) C dX6_holds_58 hl rfl (by decide) (fun _ => rfl) hF (fun x6_4 ls hl hF => ?_)
              refine kp_goto (tgt := 155) C dX6_holds_61 (by decide) ?_
              refine kp_iinc (k := 7) (lv' := fun x7_5 => [(7, kp_iv x7_5), (6, kp_iv x6_4), (8, kp_iv x8_0), (0, .ref (kp_ad X 48)), (1, .ref (kp_ad X 5)), (3, kp_iv a3), (4, .ref (kp_ad X 11)), (5, kp_iv a5)]) C dX6_holds_155 hl rfl (by decide) (fun _ => rfl) hF (fun x7_5 ls hl hF => ?_)
              refine kp_goto (tgt := 6) C dX6_holds_158 (by decide) ?_
              exact ih _ _ _ k _ _ _ h (lv_sub hl [3, 4, 5, 6, 7, 1, 0] rfl) K hF
            · refine kp_lconst (v := 0) C dX6_holds_40 rfl ?_
              exact kp_retl C hr hlk G h dX6_holds_41 hF
  refine L6 kp_fu _ _ _ _ _ _ _ h (lv_sub hl [2, 3, 5, 6, 7, 1, 0] rfl) (fun x6_2 σ_2 H locs ls h hl hF => ?_) hF
  clear L6
  refine kp_iload C dX6_holds_161 (lv_at hl 1 rfl) ?_
  refine kp_iconst C dX6_holds_163 ?_
  refine kp_icmp_ne (tgt := 176) C dX6_holds_164 (by decide) hF (fun hF => ?_) (fun hF => ?_)
  · refine kp_lconst (v := 0) C dX6_holds_176 rfl ?_
    exact kp_retl C hr hlk G h dX6_holds_177 hF
  · refine kp_aload_n C dX6_holds_167 rfl (lv_at hl 0 rfl) ?_
    refine kp_getr C G h kp_lK48 rfl inWX6 (j := 5) (by decide) q1_214 rfl dX6_holds_168 ?_
    refine kp_iconst C dX6_holds_171 ?_
    refine kp_lald0 C G h (i := 0) (n := 16) kp_lK54 (by decide) (by decide) dX6_holds_172 ?_
    refine kp_goto (tgt := 177) C dX6_holds_173 (by decide) ?_
    exact kp_retl C hr hlk G h dX6_holds_177 hF
def kl_X6_addTo_50_3 (a2 : Int) (a3 : Int) (a4 : Int) : Nat → Int → kp_W → (kp_W → kp_R) → kp_R
  | 0, _, _, _ => none
  | n + 1, x5_1, σ_1, k => kp_ls x5_1 40 (kp_ck (kp_inL a3 ∧ 0 ≤ x5_1 ∧ x5_1 < 64) (kp_ck (kp_inL (kp_andL (a3 / 2 ^ (Int.toNat x5_1)) 1) ∧ kp_inL 0) (kp_eq (kp_cmp (kp_andL (a3 / 2 ^ (Int.toNat x5_1)) 1) 0) 0 (kp_lt (x5_1 + 1) (fun x5_2 => kl_X6_addTo_50_3 a2 a3 a4 n x5_2 σ_1 k)) (kp_ck (0 ≤ ((a2 * 40) + x5_1) ∧ ((a2 * 40) + x5_1) < 400) (kp_ck (0 ≤ ((a2 * 40) + x5_1) ∧ ((a2 * 40) + x5_1) < 400) (kp_lt (kp_up σ_1 50 (Int.toNat ((a2 * 40) + x5_1)) ((σ_1 50 (Int.toNat ((a2 * 40) + x5_1))) + a4)) (fun σ_3 => kp_lt (x5_1 + 1) (fun x5_3 => kl_X6_addTo_50_3 a2 a3 a4 n x5_3 σ_3 k)))))))) (k σ_1)
def kf_X6_addTo_50  (a2 : Int) (a3 : Int) (a4 : Int) (σ_0 : kp_W) : kp_R :=
  kp_lt (0 : Int) (fun x5_0 => kl_X6_addTo_50_3 a2 a3 a4 kp_fu x5_0 σ_0 (fun (σ_2 : kp_W) => some (0, σ_2)))
set_option maxRecDepth 100000 in
set_option maxHeartbeats 4000000 in
theorem kc_X6_addTo_50 {l : Launch} {X : kp_X} {a2 : Int} {a3 : Int} {a4 : Int}  {σ_0 σ' : kp_W} {r : Int}   (hF : (kf_X6_addTo_50 a2 a3 a4 σ_0) = some (r, σ')) : kp_Met l yX6_addTo cX6_addTo 6 none 0 X kp_lK 55 σ_0 [.ref (kp_ad X 50), kp_iv a2, kp_jv a3, kp_iv a4] (kp_Qv X kp_lK 55 σ') := by
  refine kp_body pnX6 (Nat.le_of_ble_eq_true rfl) ?_
  intro p e s m args below meth c ls C hr hlk G h hl
  unfold kf_X6_addTo_50 at hF
  have hl : lv_has ls 6 [(0, .ref (kp_ad X 50)), (1, kp_iv a2), (2, kp_jv a3), (4, kp_iv a4)] := hl
  refine kp_iconst C dX6_addTo_0 ?_
  refine kp_istore (lv' := fun x5_0 => [(5, kp_iv x5_0), (0, .ref (kp_ad X 50)), (1, kp_iv a2), (2, kp_jv a3), (4, kp_iv a4)]) C dX6_addTo_1 hl (by decide) (fun _ => rfl) hF (fun x5_0 ls hl hF => ?_)
  have L3 : ∀ (n : Nat) (x5_1 : Int) (σ_1 : kp_W) (k : kp_W → kp_R) (H : Heap) (locs : List Loc) (ls : Array Slot), kp_H X kp_lK 55 s σ_1 H locs → lv_has ls 6 [(0, .ref (kp_ad X 50)), (1, kp_iv a2), (2, kp_jv a3), (4, kp_iv a4), (5, kp_iv x5_1)] → (∀ (σ_2 : kp_W) (H : Heap) (locs : List Loc) (ls : Array Slot), kp_H X kp_lK 55 s σ_2 H locs → lv_has ls 6 [] → k σ_2 = some (r, σ') → W p l e (kp_rm 0) s m args below meth c H locs 0 0 (MQ below (kp_Qv X kp_lK 55 σ') args s 0 0 (kp_A X 55)) (F0 m 41 ls [])) → kl_X6_addTo_50_3 a2 a3 a4 n x5_1 σ_1 k = some (r, σ') → W p l e (kp_rm 0) s m args below meth c H locs 0 0 (MQ below (kp_Qv X kp_lK 55 σ') args s 0 0 (kp_A X 55)) (F0 m 3 ls []) := by
    intro n
    induction n with
    | zero =>
      intro x5_1 σ_1 k H locs ls h hl K hF
      rw [kl_X6_addTo_50_3] at hF
      cases hF
    | succ n ih =>
      intro x5_1 σ_1 k H locs ls h hl K hF
      rw [kl_X6_addTo_50_3] at hF
      refine kp_iload C dX6_addTo_3 (lv_at hl 4 rfl) ?_
      refine kp_bipush C dX6_addTo_5 rfl ?_
      refine kp_icmp_ge (tgt := 41) C dX6_addTo_7 (by decide) hF (fun hF => ?_) (fun hF => ?_)
      · exact K _ _ _ _ h (lv_sub hl [] rfl) hF
      · refine kp_lload_n C dX6_addTo_10 rfl (lv_at hl 2 rfl) ?_
        refine kp_iload C dX6_addTo_11 (lv_at hl 4 rfl) ?_
        refine kp_xlshr C dX6_addTo_13 hF (fun hF => ?_)
        refine kp_lconst (v := 1) C dX6_addTo_14 rfl ?_
        refine kp_xland C dX6_addTo_15 ?_
        refine kp_lconst (v := 0) C dX6_addTo_16 rfl ?_
        refine kp_xlcmp C dX6_addTo_17 hF (fun hF => ?_)
        refine kp_if_eq (tgt := 35) C dX6_addTo_18 (by decide) hF (fun hF => ?_) (fun hF => ?_)
        · refine kp_iinc (k := 4) (lv' := fun x5_2 => [(5, kp_iv x5_2), (0, .ref (kp_ad X 50)), (1, kp_iv a2), (2, kp_jv a3), (4, kp_iv a4)]) C dX6_addTo_35 hl rfl (by decide) (fun _ => rfl) hF (fun x5_2 ls hl hF => ?_)
          refine kp_goto (tgt := 3) C dX6_addTo_38 (by decide) ?_
          exact ih _ _ k _ _ _ h (lv_sub hl [1, 2, 3, 4, 0] rfl) K hF
        · refine kp_aload_n C dX6_addTo_21 rfl (lv_at hl 0 rfl) ?_
          refine kp_iload_n C dX6_addTo_22 rfl (lv_at hl 1 rfl) ?_
          refine kp_bipush C dX6_addTo_23 rfl ?_
          refine kp_imul C dX6_addTo_25 ?_
          refine kp_iload C dX6_addTo_26 (lv_at hl 4 rfl) ?_
          refine kp_iadd C dX6_addTo_28 ?_
          refine kp_dup2 C dX6_addTo_29 rfl rfl ?_
          refine kp_iald C G h (n := 400) kp_lK50 (by decide) dX6_addTo_30 hF (fun hF => ?_)
          refine kp_iload C dX6_addTo_31 (lv_at hl 3 rfl) ?_
          refine kp_iadd C dX6_addTo_33 ?_
          refine kp_iast C G h (n := 400) kp_lK50 (by decide) dX6_addTo_34 hF (fun σ_3 H locs h hF => ?_)
          refine kp_iinc (k := 4) (lv' := fun x5_3 => [(5, kp_iv x5_3), (0, .ref (kp_ad X 50)), (1, kp_iv a2), (2, kp_jv a3), (4, kp_iv a4)]) C dX6_addTo_35 hl rfl (by decide) (fun _ => rfl) hF (fun x5_3 ls hl hF => ?_)
          refine kp_goto (tgt := 3) C dX6_addTo_38 (by decide) ?_
          exact ih _ _ k _ _ _ h (lv_sub hl [1, 2, 3, 4, 0] rfl) K hF
  refine L3 kp_fu _ _ _ _ _ _ h (lv_sub hl [1, 2, 3, 4, 0] rfl) (fun σ_2 H locs ls h hl hF => ?_) hF
  clear L3
  exact kp_retv (v := 0) C hr hlk G h dX6_addTo_41 hF
def kl_X6_addTo_51_3 (a2 : Int) (a3 : Int) (a4 : Int) : Nat → Int → kp_W → (kp_W → kp_R) → kp_R
  | 0, _, _, _ => none
  | n + 1, x5_1, σ_1, k => kp_ls x5_1 40 (kp_ck (kp_inL a3 ∧ 0 ≤ x5_1 ∧ x5_1 < 64) (kp_ck (kp_inL (kp_andL (a3 / 2 ^ (Int.toNat x5_1)) 1) ∧ kp_inL 0) (kp_eq (kp_cmp (kp_andL (a3 / 2 ^ (Int.toNat x5_1)) 1) 0) 0 (kp_lt (x5_1 + 1) (fun x5_2 => kl_X6_addTo_51_3 a2 a3 a4 n x5_2 σ_1 k)) (kp_ck (0 ≤ ((a2 * 40) + x5_1) ∧ ((a2 * 40) + x5_1) < 400) (kp_ck (0 ≤ ((a2 * 40) + x5_1) ∧ ((a2 * 40) + x5_1) < 400) (kp_lt (kp_up σ_1 51 (Int.toNat ((a2 * 40) + x5_1)) ((σ_1 51 (Int.toNat ((a2 * 40) + x5_1))) + a4)) (fun σ_3 => kp_lt (x5_1 + 1) (fun x5_3 => kl_X6_addTo_51_3 a2 a3 a4 n x5_3 σ_3 k)))))))) (k σ_1)
def kf_X6_addTo_51  (a2 : Int) (a3 : Int) (a4 : Int) (σ_0 : kp_W) : kp_R :=
  kp_lt (0 : Int) (fun x5_0 => kl_X6_addTo_51_3 a2 a3 a4 kp_fu x5_0 σ_0 (fun (σ_2 : kp_W) => some (0, σ_2)))
set_option maxRecDepth 100000 in
set_option maxHeartbeats 4000000 in
theorem kc_X6_addTo_51 {l : Launch} {X : kp_X} {a2 : Int} {a3 : Int} {a4 : Int}  {σ_0 σ' : kp_W} {r : Int}   (hF : (kf_X6_addTo_51 a2 a3 a4 σ_0) = some (r, σ')) : kp_Met l yX6_addTo cX6_addTo 6 none 0 X kp_lK 55 σ_0 [.ref (kp_ad X 51), kp_iv a2, kp_jv a3, kp_iv a4] (kp_Qv X kp_lK 55 σ') := by
  refine kp_body pnX6 (Nat.le_of_ble_eq_true rfl) ?_
  intro p e s m args below meth c ls C hr hlk G h hl
  unfold kf_X6_addTo_51 at hF
  have hl : lv_has ls 6 [(0, .ref (kp_ad X 51)), (1, kp_iv a2), (2, kp_jv a3), (4, kp_iv a4)] := hl
  refine kp_iconst C dX6_addTo_0 ?_
  refine kp_istore (lv' := fun x5_0 => [(5, kp_iv x5_0), (0, .ref (kp_ad X 51)), (1, kp_iv a2), (2, kp_jv a3), (4, kp_iv a4)]) C dX6_addTo_1 hl (by decide) (fun _ => rfl) hF (fun x5_0 ls hl hF => ?_)
  have L3 : ∀ (n : Nat) (x5_1 : Int) (σ_1 : kp_W) (k : kp_W → kp_R) (H : Heap) (locs : List Loc) (ls : Array Slot), kp_H X kp_lK 55 s σ_1 H locs → lv_has ls 6 [(0, .ref (kp_ad X 51)), (1, kp_iv a2), (2, kp_jv a3), (4, kp_iv a4), (5, kp_iv x5_1)] → (∀ (σ_2 : kp_W) (H : Heap) (locs : List Loc) (ls : Array Slot), kp_H X kp_lK 55 s σ_2 H locs → lv_has ls 6 [] → k σ_2 = some (r, σ') → W p l e (kp_rm 0) s m args below meth c H locs 0 0 (MQ below (kp_Qv X kp_lK 55 σ') args s 0 0 (kp_A X 55)) (F0 m 41 ls [])) → kl_X6_addTo_51_3 a2 a3 a4 n x5_1 σ_1 k = some (r, σ') → W p l e (kp_rm 0) s m args below meth c H locs 0 0 (MQ below (kp_Qv X kp_lK 55 σ') args s 0 0 (kp_A X 55)) (F0 m 3 ls []) := by
    intro n
    induction n with
    | zero =>
      intro x5_1 σ_1 k H locs ls h hl K hF
      rw [kl_X6_addTo_51_3] at hF
      cases hF
    | succ n ih =>
      intro x5_1 σ_1 k H locs ls h hl K hF
      rw [kl_X6_addTo_51_3] at hF
      refine kp_iload C dX6_addTo_3 (lv_at hl 4 rfl) ?_
      refine kp_bipush C dX6_addTo_5 rfl ?_
      refine kp_icmp_ge (tgt := 41) C dX6_addTo_7 (by decide) hF (fun hF => ?_) (fun hF => ?_)
      · exact K _ _ _ _ h (lv_sub hl [] rfl) hF
      · refine kp_lload_n C dX6_addTo_10 rfl (lv_at hl 2 rfl) ?_
        refine kp_iload C dX6_addTo_11 (lv_at hl 4 rfl) ?_
        refine kp_xlshr C dX6_addTo_13 hF (fun hF => ?_)
        refine kp_lconst (v := 1) C dX6_addTo_14 rfl ?_
        refine kp_xland C dX6_addTo_15 ?_
        refine kp_lconst (v := 0) C dX6_addTo_16 rfl ?_
        refine kp_xlcmp C dX6_addTo_17 hF (fun hF => ?_)
        refine kp_if_eq (tgt := 35) C dX6_addTo_18 (by decide) hF (fun hF => ?_) (fun hF => ?_)
        · refine kp_iinc (k := 4) (lv' := fun x5_2 => [(5, kp_iv x5_2), (0, .ref (kp_ad X 51)), (1, kp_iv a2), (2, kp_jv a3), (4, kp_iv a4)]) C dX6_addTo_35 hl rfl (by decide) (fun _ => rfl) hF (fun x5_2 ls hl hF => ?_)
          refine kp_goto (tgt := 3) C dX6_addTo_38 (by decide) ?_
          exact ih _ _ k _ _ _ h (lv_sub hl [1, 2, 3, 4, 0] rfl) K hF
        · refine kp_aload_n C dX6_addTo_21 rfl (lv_at hl 0 rfl) ?_
          refine kp_iload_n C dX6_addTo_22 rfl (lv_at hl 1 rfl) ?_
          refine kp_bipush C dX6_addTo_23 rfl ?_
          refine kp_imul C dX6_addTo_25 ?_
          refine kp_iload C dX6_addTo_26 (lv_at hl 4 rfl) ?_
          refine kp_iadd C dX6_addTo_28 ?_
          refine kp_dup2 C dX6_addTo_29 rfl rfl ?_
          refine kp_iald C G h (n := 400) kp_lK51 (by decide) dX6_addTo_30 hF (fun hF => ?_)
          refine kp_iload C dX6_addTo_31 (lv_at hl 3 rfl) ?_
          refine kp_iadd C dX6_addTo_33 ?_
          refine kp_iast C G h (n := 400) kp_lK51 (by decide) dX6_addTo_34 hF (fun σ_3 H locs h hF => ?_)
          refine kp_iinc (k := 4) (lv' := fun x5_3 => [(5, kp_iv x5_3), (0, .ref (kp_ad X 51)), (1, kp_iv a2), (2, kp_jv a3), (4, kp_iv a4)]) C dX6_addTo_35 hl rfl (by decide) (fun _ => rfl) hF (fun x5_3 ls hl hF => ?_)
          refine kp_goto (tgt := 3) C dX6_addTo_38 (by decide) ?_
          exact ih _ _ k _ _ _ h (lv_sub hl [1, 2, 3, 4, 0] rfl) K hF
  refine L3 kp_fu _ _ _ _ _ _ h (lv_sub hl [1, 2, 3, 4, 0] rfl) (fun σ_2 H locs ls h hl hF => ?_) hF
  clear L3
  exact kp_retv (v := 0) C hr hlk G h dX6_addTo_41 hF
def kl_X6_read_57 (a3 : Int) : Nat → Int → Int → kp_W → (kp_W → kp_R) → kp_R
  | 0, _, _, _, _ => none
  | n + 1, x4_3, x5_1, σ_4, k => kp_ls x5_1 (σ_4 5 5) (kp_ck (0 ≤ x5_1 ∧ x5_1 < 10) (kp_bd (kf_X6_holds x4_3 (σ_4 10 (Int.toNat x5_1)) a3 σ_4) (fun r_0 σ_6 => kp_lt (r_0 : Int) (fun x6_0 => kp_ck (0 ≤ a3 ∧ a3 < 10) (kp_ck (0 ≤ a3 ∧ a3 < 10) (kp_lt (kp_up σ_6 53 (Int.toNat a3) (kp_andL (σ_6 53 (Int.toNat a3)) (kp_xorL x6_0 (-1)))) (fun σ_7 => kp_bd (kf_X2_grows x5_1 σ_7) (fun r_1 σ_8 => kp_eq r_1 0 (kp_ck (0 ≤ x5_1 ∧ x5_1 < 10) (kp_bd (kf_X6_addTo_51 a3 x6_0 (σ_8 9 (Int.toNat x5_1)) σ_8) (fun r_2 σ_9 => kp_ck (0 ≤ x5_1 ∧ x5_1 < 10) (kp_lt ((σ_9 10 (Int.toNat x5_1)) : Int) (fun x4_4 => kp_lt (x5_1 + 1) (fun x5_2 => kl_X6_read_57 a3 n x4_4 x5_2 σ_9 k)))))) (kp_ck (0 ≤ x5_1 ∧ x5_1 < 10) (kp_bd (kf_X6_addTo_50 a3 x6_0 (σ_8 9 (Int.toNat x5_1)) σ_8) (fun r_3 σ_10 => kp_ck (0 ≤ x5_1 ∧ x5_1 < 10) (kp_lt ((σ_10 10 (Int.toNat x5_1)) : Int) (fun x4_5 => kp_lt (x5_1 + 1) (fun x5_3 => kl_X6_read_57 a3 n x4_5 x5_3 σ_10 k)))))))))))))) (k σ_4)
def kl_X6_read_3 (a3 : Int) : Nat → Int → kp_W → (kp_W → kp_R) → kp_R
  | 0, _, _, _ => none
  | n + 1, x4_1, σ_1, k => kp_ls x4_1 40 (kp_ck (0 ≤ ((a3 * 40) + x4_1) ∧ ((a3 * 40) + x4_1) < 400) (kp_lt (kp_up σ_1 50 (Int.toNat ((a3 * 40) + x4_1)) 0) (fun σ_11 => kp_ck (0 ≤ ((a3 * 40) + x4_1) ∧ ((a3 * 40) + x4_1) < 400) (kp_lt (kp_up σ_11 51 (Int.toNat ((a3 * 40) + x4_1)) 0) (fun σ_12 => kp_lt (x4_1 + 1) (fun x4_6 => kl_X6_read_3 a3 n x4_6 σ_12 k)))))) (k σ_1)
def kf_X6_read  (a3 : Int) (σ_0 : kp_W) : kp_R :=
  kp_lt (0 : Int) (fun x4_0 => kl_X6_read_3 a3 kp_fu x4_0 σ_0 (fun (σ_2 : kp_W) => kp_ck (0 ≤ a3 ∧ a3 < 10) (kp_lt (kp_up σ_2 53 (Int.toNat a3) 1099511627775) (fun σ_3 => kp_lt (0 : Int) (fun x4_2 => kp_lt (0 : Int) (fun x5_0 => kl_X6_read_57 a3 kp_fu x4_2 x5_0 σ_3 (fun (σ_5 : kp_W) => some (0, σ_5))))))))
set_option maxRecDepth 100000 in
set_option maxHeartbeats 4000000 in
theorem kc_X6_read {l : Launch} {X : kp_X} {a3 : Int}  {σ_0 σ' : kp_W} {r : Int}   (hF : (kf_X6_read a3 σ_0) = some (r, σ')) : kp_Met l yX6_read cX6_read 8 none 4 X kp_lK 55 σ_0 [.ref (kp_ad X 48), .ref (kp_ad X 5), .ref (kp_ad X 11), kp_iv a3] (kp_Qv X kp_lK 55 σ') := by
  refine kp_body pnX6 (Nat.le_of_ble_eq_true rfl) ?_
  intro p e s m args below meth c ls C hr hlk G h hl
  unfold kf_X6_read at hF
  have hl : lv_has ls 8 [(0, .ref (kp_ad X 48)), (1, .ref (kp_ad X 5)), (2, .ref (kp_ad X 11)), (3, kp_iv a3)] := hl
  refine kp_iconst C dX6_read_0 ?_
  refine kp_istore (lv' := fun x4_0 => [(4, kp_iv x4_0), (0, .ref (kp_ad X 48)), (1, .ref (kp_ad X 5)), (2, .ref (kp_ad X 11)), (3, kp_iv a3)]) C dX6_read_1 hl (by decide) (fun _ => rfl) hF (fun x4_0 ls hl hF => ?_)
  have L3 : ∀ (n : Nat) (x4_1 : Int) (σ_1 : kp_W) (k : kp_W → kp_R) (H : Heap) (locs : List Loc) (ls : Array Slot), kp_H X kp_lK 55 s σ_1 H locs → lv_has ls 8 [(0, .ref (kp_ad X 48)), (1, .ref (kp_ad X 5)), (2, .ref (kp_ad X 11)), (3, kp_iv a3), (4, kp_iv x4_1)] → (∀ (σ_2 : kp_W) (H : Heap) (locs : List Loc) (ls : Array Slot), kp_H X kp_lK 55 s σ_2 H locs → lv_has ls 8 [(0, .ref (kp_ad X 48)), (1, .ref (kp_ad X 5)), (2, .ref (kp_ad X 11)), (3, kp_iv a3)] → k σ_2 = some (r, σ') → W p l e (kp_rm 4) s m args below meth c H locs 0 0 (MQ below (kp_Qv X kp_lK 55 σ') args s 0 0 (kp_A X 55)) (F0 m 42 ls [])) → kl_X6_read_3 a3 n x4_1 σ_1 k = some (r, σ') → W p l e (kp_rm 4) s m args below meth c H locs 0 0 (MQ below (kp_Qv X kp_lK 55 σ') args s 0 0 (kp_A X 55)) (F0 m 3 ls []) := by
    intro n
    induction n with
    | zero =>
      intro x4_1 σ_1 k H locs ls h hl K hF
      rw [kl_X6_read_3] at hF
      cases hF
    | succ n ih =>
      intro x4_1 σ_1 k H locs ls h hl K hF
      rw [kl_X6_read_3] at hF
      refine kp_iload C dX6_read_3 (lv_at hl 4 rfl) ?_
      refine kp_bipush C dX6_read_5 rfl ?_
      refine kp_icmp_ge (tgt := 42) C dX6_read_7 (by decide) hF (fun hF => ?_) (fun hF => ?_)
      · exact K _ _ _ _ h (lv_sub hl [0, 1, 2, 3] rfl) hF
      · refine kp_aload_n C dX6_read_10 rfl (lv_at hl 0 rfl) ?_
        refine kp_getr C G h kp_lK48 rfl inWX6 (j := 1) (by decide) q1_210 rfl dX6_read_11 ?_
        refine kp_iload_n C dX6_read_14 rfl (lv_at hl 3 rfl) ?_
        refine kp_bipush C dX6_read_15 rfl ?_
        refine kp_imul C dX6_read_17 ?_
        refine kp_iload C dX6_read_18 (lv_at hl 4 rfl) ?_
        refine kp_iadd C dX6_read_20 ?_
        refine kp_iconst C dX6_read_21 ?_
        refine kp_iast C G h (n := 400) kp_lK50 (by decide) dX6_read_22 hF (fun σ_11 H locs h hF => ?_)
        refine kp_aload_n C dX6_read_23 rfl (lv_at hl 0 rfl) ?_
        refine kp_getr C G h kp_lK48 rfl inWX6 (j := 2) (by decide) q1_211 rfl dX6_read_24 ?_
        refine kp_iload_n C dX6_read_27 rfl (lv_at hl 3 rfl) ?_
        refine kp_bipush C dX6_read_28 rfl ?_
        refine kp_imul C dX6_read_30 ?_
        refine kp_iload C dX6_read_31 (lv_at hl 4 rfl) ?_
        refine kp_iadd C dX6_read_33 ?_
        refine kp_iconst C dX6_read_34 ?_
        refine kp_iast C G h (n := 400) kp_lK51 (by decide) dX6_read_35 hF (fun σ_12 H locs h hF => ?_)
        refine kp_iinc (k := 4) (lv' := fun x4_6 => [(4, kp_iv x4_6), (0, .ref (kp_ad X 48)), (1, .ref (kp_ad X 5)), (2, .ref (kp_ad X 11)), (3, kp_iv a3)]) C dX6_read_36 hl rfl (by decide) (fun _ => rfl) hF (fun x4_6 ls hl hF => ?_)
        refine kp_goto (tgt := 3) C dX6_read_39 (by decide) ?_
        exact ih _ _ k _ _ _ h (lv_sub hl [1, 2, 3, 4, 0] rfl) K hF
  refine L3 kp_fu _ _ _ _ _ _ h (lv_sub hl [1, 2, 3, 4, 0] rfl) (fun σ_2 H locs ls h hl hF => ?_) hF
  clear L3
  refine kp_aload_n C dX6_read_42 rfl (lv_at hl 0 rfl) ?_
  refine kp_getr C G h kp_lK48 rfl inWX6 (j := 4) (by decide) q1_213 rfl dX6_read_43 ?_
  refine kp_iload_n C dX6_read_46 rfl (lv_at hl 3 rfl) ?_
  refine kp_ldc2 (n := 1099511627775) C q2_192 rfl dX6_read_47 ?_
  refine kp_last C G h (n := 10) kp_lK53 (by decide) dX6_read_50 hF (fun σ_3 H locs h hF => ?_)
  refine kp_iconst C dX6_read_51 ?_
  refine kp_istore (lv' := fun x4_2 => [(4, kp_iv x4_2), (0, .ref (kp_ad X 48)), (1, .ref (kp_ad X 5)), (2, .ref (kp_ad X 11)), (3, kp_iv a3)]) C dX6_read_52 hl (by decide) (fun _ => rfl) hF (fun x4_2 ls hl hF => ?_)
  refine kp_iconst C dX6_read_54 ?_
  refine kp_istore (lv' := fun x5_0 => [(5, kp_iv x5_0), (4, kp_iv x4_2), (0, .ref (kp_ad X 48)), (1, .ref (kp_ad X 5)), (2, .ref (kp_ad X 11)), (3, kp_iv a3)]) C dX6_read_55 hl (by decide) (fun _ => rfl) hF (fun x5_0 ls hl hF => ?_)
  have L57 : ∀ (n : Nat) (x4_3 : Int) (x5_1 : Int) (σ_4 : kp_W) (k : kp_W → kp_R) (H : Heap) (locs : List Loc) (ls : Array Slot), kp_H X kp_lK 55 s σ_4 H locs → lv_has ls 8 [(0, .ref (kp_ad X 48)), (1, .ref (kp_ad X 5)), (2, .ref (kp_ad X 11)), (3, kp_iv a3), (4, kp_iv x4_3), (5, kp_iv x5_1)] → (∀ (σ_5 : kp_W) (H : Heap) (locs : List Loc) (ls : Array Slot), kp_H X kp_lK 55 s σ_5 H locs → lv_has ls 8 [] → k σ_5 = some (r, σ') → W p l e (kp_rm 4) s m args below meth c H locs 0 0 (MQ below (kp_Qv X kp_lK 55 σ') args s 0 0 (kp_A X 55)) (F0 m 147 ls [])) → kl_X6_read_57 a3 n x4_3 x5_1 σ_4 k = some (r, σ') → W p l e (kp_rm 4) s m args below meth c H locs 0 0 (MQ below (kp_Qv X kp_lK 55 σ') args s 0 0 (kp_A X 55)) (F0 m 57 ls []) := by
    intro n
    induction n with
    | zero =>
      intro x4_3 x5_1 σ_4 k H locs ls h hl K hF
      rw [kl_X6_read_57] at hF
      cases hF
    | succ n ih =>
      intro x4_3 x5_1 σ_4 k H locs ls h hl K hF
      rw [kl_X6_read_57] at hF
      refine kp_iload C dX6_read_57 (lv_at hl 5 rfl) ?_
      refine kp_aload_n C dX6_read_59 rfl (lv_at hl 1 rfl) ?_
      refine kp_geti C G h kp_lK5 rfl inWX2 (j := 5) (by decide) q1_79 rfl dX6_read_60 ?_
      refine kp_icmp_ge (tgt := 147) C dX6_read_63 (by decide) hF (fun hF => ?_) (fun hF => ?_)
      · exact K _ _ _ _ h (lv_sub hl [] rfl) hF
      · refine kp_aload_n C dX6_read_66 rfl (lv_at hl 0 rfl) ?_
        refine kp_aload_n C dX6_read_67 rfl (lv_at hl 1 rfl) ?_
        refine kp_iload C dX6_read_68 (lv_at hl 4 rfl) ?_
        refine kp_aload_n C dX6_read_70 rfl (lv_at hl 1 rfl) ?_
        refine kp_getr C G h kp_lK5 rfl inWX2 (j := 3) (by decide) q1_76 rfl dX6_read_71 ?_
        refine kp_iload C dX6_read_74 (lv_at hl 5 rfl) ?_
        refine kp_iald C G h (n := 10) kp_lK10 (by decide) dX6_read_76 hF (fun hF => ?_)
        refine kp_aload_n C dX6_read_77 rfl (lv_at hl 2 rfl) ?_
        refine kp_iload_n C dX6_read_78 rfl (lv_at hl 3 rfl) ?_
        obtain ⟨r_0, σ_6, hc, hF⟩ := kp_bd_s hF
        refine kp_cl' h (kp_rV (k := 48) (As := [.ref (kp_ad X 5), kp_iv x4_3, kp_iv (σ_4 10 (Int.toNat x5_1)), .ref (kp_ad X 11), kp_iv a3]) (rest := []) C G h (kc_X6_holds  hc) q2_193 q2_195 q0_1_10 q1_9 q2_196 ⟨rfl, hd_X6_holds⟩ (by decide) kp_lK48 rfl rfl hl.1 rfl (Nat.le_of_ble_eq_true rfl) dX6_read_79) (fun H locs h => ?_)
        refine kp_lstore (lv' := fun x6_0 => [(6, kp_jv x6_0), (0, .ref (kp_ad X 48)), (1, .ref (kp_ad X 5)), (2, .ref (kp_ad X 11)), (3, kp_iv a3), (4, kp_iv x4_3), (5, kp_iv x5_1)]) C dX6_read_82 hl (by decide) (fun _ => rfl) hF (fun x6_0 ls hl hF => ?_)
        refine kp_aload_n C dX6_read_84 rfl (lv_at hl 1 rfl) ?_
        refine kp_getr C G h kp_lK48 rfl inWX6 (j := 4) (by decide) q1_213 rfl dX6_read_85 ?_
        refine kp_iload_n C dX6_read_88 rfl (lv_at hl 4 rfl) ?_
        refine kp_dup2 C dX6_read_89 rfl rfl ?_
        refine kp_lald C G h (n := 10) kp_lK53 (by decide) dX6_read_90 hF (fun hF => ?_)
        refine kp_lload C dX6_read_91 (lv_at hl 0 rfl) ?_
        refine kp_ldc2 (n := (-1)) C q2_217 rfl dX6_read_93 ?_
        refine kp_xlxor C dX6_read_96 ?_
        refine kp_xland C dX6_read_97 ?_
        refine kp_last C G h (n := 10) kp_lK53 (by decide) dX6_read_98 hF (fun σ_7 H locs h hF => ?_)
        refine kp_aload_n C dX6_read_99 rfl (lv_at hl 2 rfl) ?_
        refine kp_iload C dX6_read_100 (lv_at hl 6 rfl) ?_
        obtain ⟨r_1, σ_8, hc, hF⟩ := kp_bd_s hF
        refine kp_ci h (kp_rV (k := 5) (As := [kp_iv x5_1]) (rest := []) C G h (kc_X2_grows  hc) q2_218 q2_219 q2_220 q1_4 q2_221 ⟨rfl, hd_X2_grows⟩ (by decide) kp_lK5 rfl rfl hl.1 rfl (Nat.le_of_ble_eq_true rfl) dX6_read_102) (fun H locs h => ?_)
        refine kp_if_eq (tgt := 115) C dX6_read_105 (by decide) hF (fun hF => ?_) (fun hF => ?_)
        · refine kp_aload_n C dX6_read_115 rfl (lv_at hl 1 rfl) ?_
          refine kp_getr C G h kp_lK48 rfl inWX6 (j := 2) (by decide) q1_211 rfl dX6_read_116 ?_
          refine kp_iload_n C dX6_read_119 rfl (lv_at hl 4 rfl) ?_
          refine kp_lload C dX6_read_120 (lv_at hl 0 rfl) ?_
          refine kp_aload_n C dX6_read_122 rfl (lv_at hl 2 rfl) ?_
          refine kp_getr C G h kp_lK5 rfl inWX2 (j := 2) (by decide) q1_74 rfl dX6_read_123 ?_
          refine kp_iload C dX6_read_126 (lv_at hl 6 rfl) ?_
          refine kp_iald C G h (n := 10) kp_lK9 (by decide) dX6_read_128 hF (fun hF => ?_)
          obtain ⟨r_2, σ_9, hc, hF⟩ := kp_bd_s hF
          refine kp_cv h (kp_rS (As := [.ref (kp_ad X 51), kp_iv a3, kp_jv x6_0, kp_iv (σ_8 9 (Int.toNat x5_1))]) (rest := []) C G h (kc_X6_addTo_51  hc) q2_222 q2_223 q1_9 q2_224 hd_X6_addTo (by decide) rfl hl.1 rfl (Nat.le_of_ble_eq_true rfl) dX6_read_129) (fun H locs h => ?_)
          refine kp_aload_n C dX6_read_132 rfl (lv_at hl 2 rfl) ?_
          refine kp_getr C G h kp_lK5 rfl inWX2 (j := 3) (by decide) q1_76 rfl dX6_read_133 ?_
          refine kp_iload C dX6_read_136 (lv_at hl 6 rfl) ?_
          refine kp_iald C G h (n := 10) kp_lK10 (by decide) dX6_read_138 hF (fun hF => ?_)
          refine kp_istore (lv' := fun x4_4 => [(4, kp_iv x4_4), (6, kp_jv x6_0), (0, .ref (kp_ad X 48)), (1, .ref (kp_ad X 5)), (2, .ref (kp_ad X 11)), (3, kp_iv a3), (5, kp_iv x5_1)]) C dX6_read_139 hl (by decide) (fun _ => rfl) hF (fun x4_4 ls hl hF => ?_)
          refine kp_iinc (k := 6) (lv' := fun x5_2 => [(5, kp_iv x5_2), (4, kp_iv x4_4), (6, kp_jv x6_0), (0, .ref (kp_ad X 48)), (1, .ref (kp_ad X 5)), (2, .ref (kp_ad X 11)), (3, kp_iv a3)]) C dX6_read_141 hl rfl (by decide) (fun _ => rfl) hF (fun x5_2 ls hl hF => ?_)
          refine kp_goto (tgt := 57) C dX6_read_144 (by decide) ?_
          exact ih _ _ _ k _ _ _ h (lv_sub hl [3, 4, 5, 6, 1, 0] rfl) K hF
        · refine kp_aload_n C dX6_read_108 rfl (lv_at hl 1 rfl) ?_
          refine kp_getr C G h kp_lK48 rfl inWX6 (j := 1) (by decide) q1_210 rfl dX6_read_109 ?_
          refine kp_goto (tgt := 119) C dX6_read_112 (by decide) ?_
          refine kp_iload_n C dX6_read_119 rfl (lv_at hl 4 rfl) ?_
          refine kp_lload C dX6_read_120 (lv_at hl 0 rfl) ?_
          refine kp_aload_n C dX6_read_122 rfl (lv_at hl 2 rfl) ?_
          refine kp_getr C G h kp_lK5 rfl inWX2 (j := 2) (by decide) q1_74 rfl dX6_read_123 ?_
          refine kp_iload C dX6_read_126 (lv_at hl 6 rfl) ?_
          refine kp_iald C G h (n := 10) kp_lK9 (by decide) dX6_read_128 hF (fun hF => ?_)
          obtain ⟨r_3, σ_10, hc, hF⟩ := kp_bd_s hF
          refine kp_cv h (kp_rS (As := [.ref (kp_ad X 50), kp_iv a3, kp_jv x6_0, kp_iv (σ_8 9 (Int.toNat x5_1))]) (rest := []) C G h (kc_X6_addTo_50  hc) q2_222 q2_223 q1_9 q2_224 hd_X6_addTo (by decide) rfl hl.1 rfl (Nat.le_of_ble_eq_true rfl) dX6_read_129) (fun H locs h => ?_)
          refine kp_aload_n C dX6_read_132 rfl (lv_at hl 2 rfl) ?_
          refine kp_getr C G h kp_lK5 rfl inWX2 (j := 3) (by decide) q1_76 rfl dX6_read_133 ?_
          refine kp_iload C dX6_read_136 (lv_at hl 6 rfl) ?_
          refine kp_iald C G h (n := 10) kp_lK10 (by decide) dX6_read_138 hF (fun hF => ?_)
          refine kp_istore (lv' := fun x4_5 => [(4, kp_iv x4_5), (6, kp_jv x6_0), (0, .ref (kp_ad X 48)), (1, .ref (kp_ad X 5)), (2, .ref (kp_ad X 11)), (3, kp_iv a3), (5, kp_iv x5_1)]) C dX6_read_139 hl (by decide) (fun _ => rfl) hF (fun x4_5 ls hl hF => ?_)
          refine kp_iinc (k := 6) (lv' := fun x5_3 => [(5, kp_iv x5_3), (4, kp_iv x4_5), (6, kp_jv x6_0), (0, .ref (kp_ad X 48)), (1, .ref (kp_ad X 5)), (2, .ref (kp_ad X 11)), (3, kp_iv a3)]) C dX6_read_141 hl rfl (by decide) (fun _ => rfl) hF (fun x5_3 ls hl hF => ?_)
          refine kp_goto (tgt := 57) C dX6_read_144 (by decide) ?_
          exact ih _ _ _ k _ _ _ h (lv_sub hl [3, 4, 5, 6, 1, 0] rfl) K hF
  refine L57 kp_fu _ _ _ _ _ _ _ h (lv_sub hl [2, 3, 4, 5, 1, 0] rfl) (fun σ_5 H locs ls h hl hF => ?_) hF
  clear L57
  exact kp_retv (v := 0) C hr hlk G h dX6_read_147 hF
def kl_X6_warm_6 (a2 : Int) : Nat → Int → Int → kp_W → (kp_W → kp_R) → kp_R
  | 0, _, _, _, _ => none
  | n + 1, x4_1, x5_1, σ_1, k => kp_ls x5_1 40 (kp_ck (kp_inL a2 ∧ 0 ≤ x5_1 ∧ x5_1 < 64) (kp_ck (kp_inL (kp_andL (a2 / 2 ^ (Int.toNat x5_1)) 1) ∧ kp_inL 0) (kp_jn (fun (v_0 : Int) => kp_lt (v_0 : Int) (fun x6_0 => kp_jn (fun (v_1 : Int) => kp_lt (v_1 : Int) (fun x7_0 => kp_ck (kp_in 99 ∧ kp_in x7_0) (kp_ck (kp_in 0 ∧ kp_in (kp_min 99 x7_0)) (kp_lt ((kp_max 0 (kp_min 99 x7_0)) : Int) (fun x4_2 => kp_ck (0 ≤ x5_1 ∧ x5_1 < 40) (kp_lt (kp_up σ_1 49 (Int.toNat x5_1) x4_2) (fun σ_3 => kp_lt (x5_1 + 1) (fun x5_2 => kl_X6_warm_6 a2 n x4_2 x5_2 σ_3 k)))))))) (fun j57 => kp_eq x6_0 0 (j57 (x4_1 - (σ_1 6 1))) (j57 (x4_1 + (σ_1 6 0)))))) (fun j29 => kp_eq (kp_cmp (kp_andL (a2 / 2 ^ (Int.toNat x5_1)) 1) 0) 0 (j29 0) (j29 1))))) (k σ_1)
def kf_X6_warm  (a2 : Int) (σ_0 : kp_W) : kp_R :=
  kp_lt (0 : Int) (fun x4_0 => kp_lt (0 : Int) (fun x5_0 => kl_X6_warm_6 a2 kp_fu x4_0 x5_0 σ_0 (fun (σ_2 : kp_W) => some (0, σ_2))))
set_option maxRecDepth 100000 in
set_option maxHeartbeats 4000000 in
theorem kc_X6_warm {l : Launch} {X : kp_X} {a2 : Int}  {σ_0 σ' : kp_W} {r : Int}   (hF : (kf_X6_warm a2 σ_0) = some (r, σ')) : kp_Met l yX6_warm cX6_warm 8 none 1 X kp_lK 55 σ_0 [.ref (kp_ad X 48), .ref (kp_ad X 5), kp_jv a2] (kp_Qv X kp_lK 55 σ') := by
  refine kp_body pnX6 (Nat.le_of_ble_eq_true rfl) ?_
  intro p e s m args below meth c ls C hr hlk G h hl
  unfold kf_X6_warm at hF
  have hl : lv_has ls 8 [(0, .ref (kp_ad X 48)), (1, .ref (kp_ad X 5)), (2, kp_jv a2)] := hl
  refine kp_iconst C dX6_warm_0 ?_
  refine kp_istore (lv' := fun x4_0 => [(4, kp_iv x4_0), (0, .ref (kp_ad X 48)), (1, .ref (kp_ad X 5)), (2, kp_jv a2)]) C dX6_warm_1 hl (by decide) (fun _ => rfl) hF (fun x4_0 ls hl hF => ?_)
  refine kp_iconst C dX6_warm_3 ?_
  refine kp_istore (lv' := fun x5_0 => [(5, kp_iv x5_0), (4, kp_iv x4_0), (0, .ref (kp_ad X 48)), (1, .ref (kp_ad X 5)), (2, kp_jv a2)]) C dX6_warm_4 hl (by decide) (fun _ => rfl) hF (fun x5_0 ls hl hF => ?_)
  have L6 : ∀ (n : Nat) (x4_1 : Int) (x5_1 : Int) (σ_1 : kp_W) (k : kp_W → kp_R) (H : Heap) (locs : List Loc) (ls : Array Slot), kp_H X kp_lK 55 s σ_1 H locs → lv_has ls 8 [(0, .ref (kp_ad X 48)), (1, .ref (kp_ad X 5)), (2, kp_jv a2), (4, kp_iv x4_1), (5, kp_iv x5_1)] → (∀ (σ_2 : kp_W) (H : Heap) (locs : List Loc) (ls : Array Slot), kp_H X kp_lK 55 s σ_2 H locs → lv_has ls 8 [] → k σ_2 = some (r, σ') → W p l e (kp_rm 1) s m args below meth c H locs 0 0 (MQ below (kp_Qv X kp_lK 55 σ') args s 0 0 (kp_A X 55)) (F0 m 87 ls [])) → kl_X6_warm_6 a2 n x4_1 x5_1 σ_1 k = some (r, σ') → W p l e (kp_rm 1) s m args below meth c H locs 0 0 (MQ below (kp_Qv X kp_lK 55 σ') args s 0 0 (kp_A X 55)) (F0 m 6 ls []) := by
    intro n
    induction n with
    | zero =>
      intro x4_1 x5_1 σ_1 k H locs ls h hl K hF
      rw [kl_X6_warm_6] at hF
      cases hF
    | succ n ih =>
      intro x4_1 x5_1 σ_1 k H locs ls h hl K hF
      rw [kl_X6_warm_6] at hF
      refine kp_iload C dX6_warm_6 (lv_at hl 4 rfl) ?_
      refine kp_bipush C dX6_warm_8 rfl ?_
      refine kp_icmp_ge (tgt := 87) C dX6_warm_10 (by decide) hF (fun hF => ?_) (fun hF => ?_)
      · exact K _ _ _ _ h (lv_sub hl [] rfl) hF
      · refine kp_lload_n C dX6_warm_13 rfl (lv_at hl 2 rfl) ?_
        refine kp_iload C dX6_warm_14 (lv_at hl 4 rfl) ?_
        refine kp_xlshr C dX6_warm_16 hF (fun hF => ?_)
        refine kp_lconst (v := 1) C dX6_warm_17 rfl ?_
        refine kp_xland C dX6_warm_18 ?_
        refine kp_lconst (v := 0) C dX6_warm_19 rfl ?_
        refine kp_xlcmp C dX6_warm_20 hF (fun hF => ?_)
        obtain ⟨j29, ej29, hF⟩ := kp_jn_s hF
        have J29 : ∀ (v_0 : Int), ∀ (H : Heap) (locs : List Loc) (ls : Array Slot), kp_H X kp_lK 55 s σ_1 H locs → lv_has ls 8 [(0, .ref (kp_ad X 48)), (1, .ref (kp_ad X 5)), (2, kp_jv a2), (4, kp_iv x4_1), (5, kp_iv x5_1)] → j29 v_0 = some (r, σ') → W p l e (kp_rm 1) s m args below meth c H locs 0 0 (MQ below (kp_Qv X kp_lK 55 σ') args s 0 0 (kp_A X 55)) (F0 m 29 ls [kp_iv v_0]) := by
          intro v_0 H locs ls h hl hF
          rw [ej29] at hF
          refine kp_istore (lv' := fun x6_0 => [(6, kp_iv x6_0), (0, .ref (kp_ad X 48)), (1, .ref (kp_ad X 5)), (2, kp_jv a2), (4, kp_iv x4_1), (5, kp_iv x5_1)]) C dX6_warm_29 hl (by decide) (fun _ => rfl) hF (fun x6_0 ls hl hF => ?_)
          refine kp_iload C dX6_warm_31 (lv_at hl 0 rfl) ?_
          obtain ⟨j57, ej57, hF⟩ := kp_jn_s hF
          have J57 : ∀ (v_1 : Int), ∀ (H : Heap) (locs : List Loc) (ls : Array Slot), kp_H X kp_lK 55 s σ_1 H locs → lv_has ls 8 [(0, .ref (kp_ad X 48)), (1, .ref (kp_ad X 5)), (2, kp_jv a2), (5, kp_iv x5_1)] → j57 v_1 = some (r, σ') → W p l e (kp_rm 1) s m args below meth c H locs 0 0 (MQ below (kp_Qv X kp_lK 55 σ') args s 0 0 (kp_A X 55)) (F0 m 57 ls [kp_iv v_1]) := by
            intro v_1 H locs ls h hl hF
            rw [ej57] at hF
            refine kp_istore (lv' := fun x7_0 => [(7, kp_iv x7_0), (0, .ref (kp_ad X 48)), (1, .ref (kp_ad X 5)), (2, kp_jv a2), (5, kp_iv x5_1)]) C dX6_warm_57 hl (by decide) (fun _ => rfl) hF (fun x7_0 ls hl hF => ?_)
            refine kp_iconst C dX6_warm_59 ?_
            refine kp_bipush C dX6_warm_60 rfl ?_
            refine kp_iload C dX6_warm_62 (lv_at hl 0 rfl) ?_
            refine kp_mmin C hl.1 q2_233 q2_234 q1_18 q2_235 (by decide) (Nat.le_of_ble_eq_true rfl) dX6_warm_64 hF (fun hF => ?_)
            refine kp_mmax C hl.1 q2_236 q2_237 q1_18 q2_238 (by decide) (Nat.le_of_ble_eq_true rfl) dX6_warm_67 hF (fun hF => ?_)
            refine kp_istore (lv' := fun x4_2 => [(4, kp_iv x4_2), (7, kp_iv x7_0), (0, .ref (kp_ad X 48)), (1, .ref (kp_ad X 5)), (2, kp_jv a2), (5, kp_iv x5_1)]) C dX6_warm_70 hl (by decide) (fun _ => rfl) hF (fun x4_2 ls hl hF => ?_)
            refine kp_aload_n C dX6_warm_72 rfl (lv_at hl 2 rfl) ?_
            refine kp_getr C G h kp_lK48 rfl inWX6 (j := 0) (by decide) q1_208 rfl dX6_warm_73 ?_
            refine kp_iload C dX6_warm_76 (lv_at hl 5 rfl) ?_
            refine kp_iload C dX6_warm_78 (lv_at hl 0 rfl) ?_
            refine kp_iast C G h (n := 40) kp_lK49 (by decide) dX6_warm_80 hF (fun σ_3 H locs h hF => ?_)
            refine kp_iinc (k := 5) (lv' := fun x5_2 => [(5, kp_iv x5_2), (4, kp_iv x4_2), (7, kp_iv x7_0), (0, .ref (kp_ad X 48)), (1, .ref (kp_ad X 5)), (2, kp_jv a2)]) C dX6_warm_81 hl rfl (by decide) (fun _ => rfl) hF (fun x5_2 ls hl hF => ?_)
            refine kp_goto (tgt := 6) C dX6_warm_84 (by decide) ?_
            exact ih _ _ _ k _ _ _ h (lv_sub hl [3, 4, 5, 1, 0] rfl) K hF
          clear ej57
          refine kp_if_eq (tgt := 48) C dX6_warm_33 (by decide) hF (fun hF => ?_) (fun hF => ?_)
          · refine kp_iload C dX6_warm_48 (lv_at hl 4 rfl) ?_
            refine kp_aload_n C dX6_warm_50 rfl (lv_at hl 2 rfl) ?_
            refine kp_getr C G h kp_lK5 rfl inWX2 (j := 0) (by decide) q1_70 rfl dX6_warm_51 ?_
            refine kp_iconst C dX6_warm_54 ?_
            refine kp_iald0 C G h (i := 1) (n := 5) kp_lK6 (by decide) (by decide) dX6_warm_55 ?_
            refine kp_isub C dX6_warm_56 ?_
            exact J57 _ _ _ _ h (lv_sub hl [1, 2, 3, 5] rfl) hF
          · refine kp_iload C dX6_warm_36 (lv_at hl 4 rfl) ?_
            refine kp_aload_n C dX6_warm_38 rfl (lv_at hl 2 rfl) ?_
            refine kp_getr C G h kp_lK5 rfl inWX2 (j := 0) (by decide) q1_70 rfl dX6_warm_39 ?_
            refine kp_iconst C dX6_warm_42 ?_
            refine kp_iald0 C G h (i := 0) (n := 5) kp_lK6 (by decide) (by decide) dX6_warm_43 ?_
            refine kp_iadd C dX6_warm_44 ?_
            refine kp_goto (tgt := 57) C dX6_warm_45 (by decide) ?_
            exact J57 _ _ _ _ h (lv_sub hl [1, 2, 3, 5] rfl) hF
        clear ej29
        refine kp_if_eq (tgt := 28) C dX6_warm_21 (by decide) hF (fun hF => ?_) (fun hF => ?_)
        · refine kp_iconst C dX6_warm_28 ?_
          exact J29 _ _ _ _ h (lv_sub hl [0, 1, 2, 3, 4] rfl) hF
        · refine kp_iconst C dX6_warm_24 ?_
          refine kp_goto (tgt := 29) C dX6_warm_25 (by decide) ?_
          exact J29 _ _ _ _ h (lv_sub hl [0, 1, 2, 3, 4] rfl) hF
  refine L6 kp_fu _ _ _ _ _ _ _ h (lv_sub hl [2, 3, 4, 1, 0] rfl) (fun σ_2 H locs ls h hl hF => ?_) hF
  clear L6
  exact kp_retv (v := 0) C hr hlk G h dX6_warm_87 hF
def kl_X6_tick_8 (a1 : Int) (a2 : Int) : Nat → Int → Int → Int → kp_W → (kp_W → kp_R) → kp_R
  | 0, _, _, _, _, _ => none
  | n + 1, x3_1, x4_1, x5_1, σ_1, k => kp_ls x5_1 40 (kp_bd (kf_X6_lengthOf a1 x5_1 σ_1) (fun r_0 σ_3 => kp_lt (r_0 : Int) (fun x6_0 => kp_ck (kp_in (x6_0 - x3_1)) (kp_bd (kf_X6_holdOf a1 x5_1 σ_3) (fun r_1 σ_4 => kp_ck (0 ≤ (kp_abs (x6_0 - x3_1)) ∧ (kp_abs (x6_0 - x3_1)) ≤ 2147483647 ∧ 0 < r_1 ∧ r_1 ≤ 2147483647) (kp_ck (kp_in 9 ∧ kp_in ((kp_abs (x6_0 - x3_1)) / r_1)) (kp_lt ((kp_min 9 ((kp_abs (x6_0 - x3_1)) / r_1)) : Int) (fun x7_0 => kp_jn (fun (x3_2 : Int) => kp_jn (fun (v_0 : Int) => kp_ck (0 ≤ ((a1 * 40) + x5_1) ∧ ((a1 * 40) + x5_1) < 400) (kp_lt (kp_up σ_4 52 (Int.toNat ((a1 * 40) + x5_1)) v_0) (fun σ_5 => kp_ck (0 ≤ x5_1 ∧ x5_1 < 40) (kp_lt ((σ_5 49 (Int.toNat x5_1)) : Int) (fun x4_2 => kp_lt (x5_1 + 1) (fun x5_2 => kl_X6_tick_8 a1 a2 n x3_2 x4_2 x5_2 σ_5 k)))))) (fun j88 => kp_jn (fun (_ : Unit) => j88 x7_0) (fun j86 => kp_eq a2 0 (j86 ()) (kp_ck (0 ≤ x5_1 ∧ x5_1 < 40) (kp_ls x4_1 (σ_4 49 (Int.toNat x5_1)) (j86 ()) (j88 0)))))) (fun j55 => kp_ls x7_0 1 (j55 x3_1) (kp_lt (x6_0 : Int) (fun x3_3 => j55 x3_3))))))))))) (k σ_1)
def kf_X6_tick  (a1 : Int) (a2 : Int) (σ_0 : kp_W) : kp_R :=
  kp_lt (0 : Int) (fun x3_0 => kp_lt (0 : Int) (fun x4_0 => kp_lt (0 : Int) (fun x5_0 => kl_X6_tick_8 a1 a2 kp_fu x3_0 x4_0 x5_0 σ_0 (fun (σ_2 : kp_W) => some (0, σ_2)))))
set_option maxRecDepth 100000 in
set_option maxHeartbeats 4000000 in
theorem kc_X6_tick {l : Launch} {X : kp_X} {a1 : Int} {a2 : Int}  {σ_0 σ' : kp_W} {r : Int}   (hF : (kf_X6_tick a1 a2 σ_0) = some (r, σ')) : kp_Met l yX6_tick cX6_tick 8 none 2 X kp_lK 55 σ_0 [.ref (kp_ad X 48), kp_iv a1, kp_iv a2] (kp_Qv X kp_lK 55 σ') := by
  refine kp_body pnX6 (Nat.le_of_ble_eq_true rfl) ?_
  intro p e s m args below meth c ls C hr hlk G h hl
  unfold kf_X6_tick at hF
  have hl : lv_has ls 8 [(0, .ref (kp_ad X 48)), (1, kp_iv a1), (2, kp_iv a2)] := hl
  refine kp_iconst C dX6_tick_0 ?_
  refine kp_istore_n (lv' := fun x3_0 => [(3, kp_iv x3_0), (0, .ref (kp_ad X 48)), (1, kp_iv a1), (2, kp_iv a2)]) C dX6_tick_1 rfl hl (by decide) (fun _ => rfl) hF (fun x3_0 ls hl hF => ?_)
  refine kp_iconst C dX6_tick_2 ?_
  refine kp_istore (lv' := fun x4_0 => [(4, kp_iv x4_0), (3, kp_iv x3_0), (0, .ref (kp_ad X 48)), (1, kp_iv a1), (2, kp_iv a2)]) C dX6_tick_3 hl (by decide) (fun _ => rfl) hF (fun x4_0 ls hl hF => ?_)
  refine kp_iconst C dX6_tick_5 ?_
  refine kp_istore (lv' := fun x5_0 => [(5, kp_iv x5_0), (4, kp_iv x4_0), (3, kp_iv x3_0), (0, .ref (kp_ad X 48)), (1, kp_iv a1), (2, kp_iv a2)]) C dX6_tick_6 hl (by decide) (fun _ => rfl) hF (fun x5_0 ls hl hF => ?_)
  have L8 : ∀ (n : Nat) (x3_1 : Int) (x4_1 : Int) (x5_1 : Int) (σ_1 : kp_W) (k : kp_W → kp_R) (H : Heap) (locs : List Loc) (ls : Array Slot), kp_H X kp_lK 55 s σ_1 H locs → lv_has ls 8 [(0, .ref (kp_ad X 48)), (1, kp_iv a1), (2, kp_iv a2), (3, kp_iv x3_1), (4, kp_iv x4_1), (5, kp_iv x5_1)] → (∀ (σ_2 : kp_W) (H : Heap) (locs : List Loc) (ls : Array Slot), kp_H X kp_lK 55 s σ_2 H locs → lv_has ls 8 [] → k σ_2 = some (r, σ') → W p l e (kp_rm 2) s m args below meth c H locs 0 0 (MQ below (kp_Qv X kp_lK 55 σ') args s 0 0 (kp_A X 55)) (F0 m 104 ls [])) → kl_X6_tick_8 a1 a2 n x3_1 x4_1 x5_1 σ_1 k = some (r, σ') → W p l e (kp_rm 2) s m args below meth c H locs 0 0 (MQ below (kp_Qv X kp_lK 55 σ') args s 0 0 (kp_A X 55)) (F0 m 8 ls []) := by
    intro n
    induction n with
    | zero =>
      intro x3_1 x4_1 x5_1 σ_1 k H locs ls h hl K hF
      rw [kl_X6_tick_8] at hF
      cases hF
    | succ n ih =>
      intro x3_1 x4_1 x5_1 σ_1 k H locs ls h hl K hF
      rw [kl_X6_tick_8] at hF
      refine kp_iload C dX6_tick_8 (lv_at hl 5 rfl) ?_
      refine kp_bipush C dX6_tick_10 rfl ?_
      refine kp_icmp_ge (tgt := 104) C dX6_tick_12 (by decide) hF (fun hF => ?_) (fun hF => ?_)
      · exact K _ _ _ _ h (lv_sub hl [] rfl) hF
      · refine kp_aload_n C dX6_tick_15 rfl (lv_at hl 0 rfl) ?_
        refine kp_iload_n C dX6_tick_16 rfl (lv_at hl 1 rfl) ?_
        refine kp_iload C dX6_tick_17 (lv_at hl 5 rfl) ?_
        obtain ⟨r_0, σ_3, hc, hF⟩ := kp_bd_s hF
        refine kp_ci h (kp_rV (k := 48) (As := [kp_iv a1, kp_iv x5_1]) (rest := []) C G h (kc_X6_lengthOf  hc) q3_7 q3_8 q3_9 q1_9 q3_10 ⟨rfl, hd_X6_lengthOf⟩ (by decide) kp_lK48 rfl rfl hl.1 rfl (Nat.le_of_ble_eq_true rfl) dX6_tick_19) (fun H locs h => ?_)
        refine kp_istore (lv' := fun x6_0 => [(6, kp_iv x6_0), (0, .ref (kp_ad X 48)), (1, kp_iv a1), (2, kp_iv a2), (3, kp_iv x3_1), (4, kp_iv x4_1), (5, kp_iv x5_1)]) C dX6_tick_22 hl (by decide) (fun _ => rfl) hF (fun x6_0 ls hl hF => ?_)
        refine kp_bipush C dX6_tick_24 rfl ?_
        refine kp_iload C dX6_tick_26 (lv_at hl 0 rfl) ?_
        refine kp_iload_n C dX6_tick_28 rfl (lv_at hl 4 rfl) ?_
        refine kp_isub C dX6_tick_29 ?_
        refine kp_mabs C hl.1 q3_11 q3_12 q1_18 q3_13 (by decide) (Nat.le_of_ble_eq_true rfl) dX6_tick_30 hF (fun hF => ?_)
        refine kp_aload_n C dX6_tick_33 rfl (lv_at hl 1 rfl) ?_
        refine kp_iload_n C dX6_tick_34 rfl (lv_at hl 2 rfl) ?_
        refine kp_iload C dX6_tick_35 (lv_at hl 6 rfl) ?_
        obtain ⟨r_1, σ_4, hc, hF⟩ := kp_bd_s hF
        refine kp_ci h (kp_rV (k := 48) (As := [kp_iv a1, kp_iv x5_1]) (rest := [kp_iv (kp_abs (x6_0 - x3_1)), kp_iv 9]) C G h (kc_X6_holdOf  hc) q3_14 q3_15 q3_16 q1_9 q3_17 ⟨rfl, hd_X6_holdOf⟩ (by decide) kp_lK48 rfl rfl hl.1 rfl (Nat.le_of_ble_eq_true rfl) dX6_tick_37) (fun H locs h => ?_)
        refine kp_idiv C dX6_tick_40 hF (fun hF => ?_)
        refine kp_mmin C hl.1 q2_233 q2_234 q1_18 q2_235 (by decide) (Nat.le_of_ble_eq_true rfl) dX6_tick_41 hF (fun hF => ?_)
        refine kp_istore (lv' := fun x7_0 => [(7, kp_iv x7_0), (6, kp_iv x6_0), (0, .ref (kp_ad X 48)), (1, kp_iv a1), (2, kp_iv a2), (3, kp_iv x3_1), (4, kp_iv x4_1), (5, kp_iv x5_1)]) C dX6_tick_44 hl (by decide) (fun _ => rfl) hF (fun x7_0 ls hl hF => ?_)
        refine kp_iload C dX6_tick_46 (lv_at hl 0 rfl) ?_
        refine kp_iconst C dX6_tick_48 ?_
        obtain ⟨j55, ej55, hF⟩ := kp_jn_s hF
        have J55 : ∀ (x3_2 : Int), ∀ (H : Heap) (locs : List Loc) (ls : Array Slot), kp_H X kp_lK 55 s σ_4 H locs → lv_has ls 8 [(0, .ref (kp_ad X 48)), (1, kp_iv a1), (2, kp_iv a2), (3, kp_iv x3_2), (4, kp_iv x4_1), (5, kp_iv x5_1), (7, kp_iv x7_0)] → j55 x3_2 = some (r, σ') → W p l e (kp_rm 2) s m args below meth c H locs 0 0 (MQ below (kp_Qv X kp_lK 55 σ') args s 0 0 (kp_A X 55)) (F0 m 55 ls []) := by
          intro x3_2 H locs ls h hl hF
          rw [ej55] at hF
          refine kp_aload_n C dX6_tick_55 rfl (lv_at hl 0 rfl) ?_
          refine kp_getr C G h kp_lK48 rfl inWX6 (j := 3) (by decide) q1_212 rfl dX6_tick_56 ?_
          refine kp_iload_n C dX6_tick_59 rfl (lv_at hl 1 rfl) ?_
          refine kp_bipush C dX6_tick_60 rfl ?_
          refine kp_imul C dX6_tick_62 ?_
          refine kp_iload C dX6_tick_63 (lv_at hl 5 rfl) ?_
          refine kp_iadd C dX6_tick_65 ?_
          refine kp_iload_n C dX6_tick_66 rfl (lv_at hl 2 rfl) ?_
          obtain ⟨j88, ej88, hF⟩ := kp_jn_s hF
          have J88 : ∀ (v_0 : Int), ∀ (H : Heap) (locs : List Loc) (ls : Array Slot), kp_H X kp_lK 55 s σ_4 H locs → lv_has ls 8 [(0, .ref (kp_ad X 48)), (1, kp_iv a1), (2, kp_iv a2), (3, kp_iv x3_2), (5, kp_iv x5_1)] → j88 v_0 = some (r, σ') → W p l e (kp_rm 2) s m args below meth c H locs 0 0 (MQ below (kp_Qv X kp_lK 55 σ') args s 0 0 (kp_A X 55)) (F0 m 88 ls [kp_iv v_0, kp_iv ((a1 * 40) + x5_1), .ref (kp_ad X 52)]) := by
            intro v_0 H locs ls h hl hF
            rw [ej88] at hF
            refine kp_iast C G h (n := 400) kp_lK52 (by decide) dX6_tick_88 hF (fun σ_5 H locs h hF => ?_)
            refine kp_aload_n C dX6_tick_89 rfl (lv_at hl 0 rfl) ?_
            refine kp_getr C G h kp_lK48 rfl inWX6 (j := 0) (by decide) q1_208 rfl dX6_tick_90 ?_
            refine kp_iload C dX6_tick_93 (lv_at hl 4 rfl) ?_
            refine kp_iald C G h (n := 40) kp_lK49 (by decide) dX6_tick_95 hF (fun hF => ?_)
            refine kp_istore (lv' := fun x4_2 => [(4, kp_iv x4_2), (0, .ref (kp_ad X 48)), (1, kp_iv a1), (2, kp_iv a2), (3, kp_iv x3_2), (5, kp_iv x5_1)]) C dX6_tick_96 hl (by decide) (fun _ => rfl) hF (fun x4_2 ls hl hF => ?_)
            refine kp_iinc (k := 5) (lv' := fun x5_2 => [(5, kp_iv x5_2), (4, kp_iv x4_2), (0, .ref (kp_ad X 48)), (1, kp_iv a1), (2, kp_iv a2), (3, kp_iv x3_2)]) C dX6_tick_98 hl rfl (by decide) (fun _ => rfl) hF (fun x5_2 ls hl hF => ?_)
            refine kp_goto (tgt := 8) C dX6_tick_101 (by decide) ?_
            exact ih _ _ _ _ k _ _ _ h (lv_sub hl [2, 3, 4, 5, 1, 0] rfl) K hF
          clear ej88
          obtain ⟨j86, ej86, hF⟩ := kp_jn_s hF
          have J86 : ∀ _ : Unit, ∀ (H : Heap) (locs : List Loc) (ls : Array Slot), kp_H X kp_lK 55 s σ_4 H locs → lv_has ls 8 [(0, .ref (kp_ad X 48)), (1, kp_iv a1), (2, kp_iv a2), (3, kp_iv x3_2), (5, kp_iv x5_1), (7, kp_iv x7_0)] → j86 () = some (r, σ') → W p l e (kp_rm 2) s m args below meth c H locs 0 0 (MQ below (kp_Qv X kp_lK 55 σ') args s 0 0 (kp_A X 55)) (F0 m 86 ls [kp_iv ((a1 * 40) + x5_1), .ref (kp_ad X 52)]) := by
            intro _ H locs ls h hl hF
            rw [ej86] at hF
            refine kp_iload C dX6_tick_86 (lv_at hl 5 rfl) ?_
            exact J88 _ _ _ _ h (lv_sub hl [0, 1, 2, 3, 4] rfl) hF
          clear ej86
          refine kp_if_eq (tgt := 86) C dX6_tick_67 (by decide) hF (fun hF => ?_) (fun hF => ?_)
          · exact J86 () _ _ _ h (lv_sub hl [0, 1, 2, 3, 5, 6] rfl) hF
          · refine kp_aload_n C dX6_tick_70 rfl (lv_at hl 0 rfl) ?_
            refine kp_getr C G h kp_lK48 rfl inWX6 (j := 0) (by decide) q1_208 rfl dX6_tick_71 ?_
            refine kp_iload C dX6_tick_74 (lv_at hl 5 rfl) ?_
            refine kp_iald C G h (n := 40) kp_lK49 (by decide) dX6_tick_76 hF (fun hF => ?_)
            refine kp_iload C dX6_tick_77 (lv_at hl 4 rfl) ?_
            refine kp_icmp_gt (tgt := 86) C dX6_tick_79 (by decide) hF (fun hF => ?_) (fun hF => ?_)
            · exact J86 () _ _ _ h (lv_sub hl [0, 1, 2, 3, 5, 6] rfl) hF
            · refine kp_iconst C dX6_tick_82 ?_
              refine kp_goto (tgt := 88) C dX6_tick_83 (by decide) ?_
              exact J88 _ _ _ _ h (lv_sub hl [0, 1, 2, 3, 5] rfl) hF
        clear ej55
        refine kp_icmp_lt (tgt := 55) C dX6_tick_49 (by decide) hF (fun hF => ?_) (fun hF => ?_)
        · exact J55 _ _ _ _ h (lv_sub hl [2, 3, 4, 5, 6, 7, 0] rfl) hF
        · refine kp_iload C dX6_tick_52 (lv_at hl 1 rfl) ?_
          refine kp_istore_n (lv' := fun x3_3 => [(3, kp_iv x3_3), (7, kp_iv x7_0), (6, kp_iv x6_0), (0, .ref (kp_ad X 48)), (1, kp_iv a1), (2, kp_iv a2), (4, kp_iv x4_1), (5, kp_iv x5_1)]) C dX6_tick_54 rfl hl (by decide) (fun _ => rfl) hF (fun x3_3 ls hl hF => ?_)
          exact J55 _ _ _ _ h (lv_sub hl [3, 4, 5, 0, 6, 7, 1] rfl) hF
  refine L8 kp_fu _ _ _ _ _ _ _ _ h (lv_sub hl [3, 4, 5, 2, 1, 0] rfl) (fun σ_2 H locs ls h hl hF => ?_) hF
  clear L8
  exact kp_retv (v := 0) C hr hlk G h dX6_tick_104 hF
