-- by program (wip/whole/gen/drive.py)
def kl_X9_least_81 (a2 : Int) (x3_0 : Int) : Nat → Int → Int → kp_W → (Int → kp_W → kp_R) → kp_R
  | 0, _, _, _, _ => none
  | n + 1, x4_3, x5_1, σ_6, k => kp_ck (0 ≤ (σ_6 11 5) ∧ (σ_6 11 5) < 32) (kp_ls x5_1 (1 * 2 ^ (Int.toNat (σ_6 11 5))) (kp_jn (fun (v_0 : Int) => kp_lt (v_0 : Int) (fun x6_0 => kp_eq x6_0 0 (kp_lt (x5_1 + 1) (fun x5_2 => kl_X9_least_81 a2 x3_0 n x4_3 x5_2 σ_6 k)) (kp_bd (kf_X9_shareOf 0 (kp_and x3_0 (kp_xor x5_1 (-1))) σ_6) (fun r_3 σ_8 => kp_ls a2 r_3 (kp_lt (x5_1 + 1) (fun x5_3 => kl_X9_least_81 a2 x3_0 n x4_3 x5_3 σ_8 k)) (kp_lt (x5_1 : Int) (fun x4_5 => kp_lt (x5_1 + 1) (fun x5_4 => kl_X9_least_81 a2 x3_0 n x4_5 x5_4 σ_8 k))))))) (fun j125 => kp_jn (fun (_ : Unit) => j125 0) (fun j124 => kp_eq (kp_and x5_1 (kp_xor x3_0 (-1))) 0 (kp_ls (kp_bc x5_1) (kp_bc x4_3) (j125 1) (j124 ())) (j124 ())))) (k x4_3 σ_6))
def kl_X9_least_40 (a1 : Int) : Nat → Int → kp_W → (kp_W → kp_R) → kp_R
  | 0, _, _, _ => none
  | n + 1, x4_1, σ_4, k => kp_ls x4_1 (σ_4 11 5) (kp_bd (kf_X9_heardInDayOf x4_1 a1 σ_4) (fun r_4 σ_9 => kp_ck (0 ≤ x4_1 ∧ x4_1 < 120) (kp_lt (kp_up σ_9 57 (Int.toNat x4_1) r_4) (fun σ_10 => kp_lt (x4_1 + 1) (fun x4_6 => kl_X9_least_40 a1 n x4_6 σ_10 k))))) (k σ_4)
def kf_X9_least  (a1 : Int) (a2 : Int) (σ_0 : kp_W) : kp_R :=
  kp_bd (kf_X9_isPlace a1 σ_0) (fun r_0 σ_1 => kp_eq r_0 0 (some ((-1), σ_1)) (kp_ls a2 0 (some ((-2), σ_1)) (kp_ls 99 a2 (some ((-2), σ_1)) (kp_bd (kf_X9_settle σ_1) (fun r_1 σ_2 => kp_bd (kf_X3_loose σ_2) (fun r_2 σ_3 => kp_lt (r_2 : Int) (fun x3_0 => kp_lt (0 : Int) (fun x4_0 => kl_X9_least_40 a1 kp_fu x4_0 σ_3 (fun (σ_5 : kp_W) => kp_lt (x3_0 : Int) (fun x4_2 => kp_lt (0 : Int) (fun x5_0 => kl_X9_least_81 a2 x3_0 kp_fu x4_2 x5_0 σ_5 (fun (x4_4 : Int) (σ_7 : kp_W) => some (x4_4, σ_7)))))))))))))
set_option maxRecDepth 100000 in
set_option maxHeartbeats 4000000 in
theorem kc_X9_least {l : Launch} {X : kp_X} {a1 : Int} {a2 : Int}  {σ_0 σ' : kp_W} {r : Int}   (hF : (kf_X9_least a1 a2 σ_0) = some (r, σ')) : kp_Met l yX9_least cX9_least 7 (some .int) 6 X kp_lK 58 σ_0 [.ref (kp_ad X 0), kp_iv a1, kp_iv a2] (kp_Qi X kp_lK 58 σ' r) := by
  refine kp_body pnX9 (Nat.le_of_ble_eq_true rfl) ?_
  intro p e s m args below meth c ls C hr hlk G h hl
  unfold kf_X9_least at hF
  have hl : lv_has ls 7 [(0, .ref (kp_ad X 0)), (1, kp_iv a1), (2, kp_iv a2)] := hl
  refine kp_iload_n C dX9_least_0 rfl (lv_at hl 1 rfl) ?_
  obtain ⟨r_0, σ_1, hc, hF⟩ := kp_bd_s hF
  refine kp_ci h (kp_rS (As := [kp_iv a1]) (rest := []) C G h (kc_X9_isPlace  hc) q3_42 q3_43 q1_1 q3_44 hd_X9_isPlace (by decide) rfl hl.1 rfl (Nat.le_of_ble_eq_true rfl) dX9_least_1) (fun H locs h => ?_)
  refine kp_if_ne (tgt := 9) C dX9_least_4 (by decide) hF (fun hF => ?_) (fun hF => ?_)
  · refine kp_iload_n C dX9_least_9 rfl (lv_at hl 2 rfl) ?_
    refine kp_if_lt (tgt := 19) C dX9_least_10 (by decide) hF (fun hF => ?_) (fun hF => ?_)
    · refine kp_bipush C dX9_least_19 rfl ?_
      exact kp_reti C hr hlk G h dX9_least_21 hF
    · refine kp_iload_n C dX9_least_13 rfl (lv_at hl 2 rfl) ?_
      refine kp_bipush C dX9_least_14 rfl ?_
      refine kp_icmp_le (tgt := 22) C dX9_least_16 (by decide) hF (fun hF => ?_) (fun hF => ?_)
      · refine kp_aload_n C dX9_least_22 rfl (lv_at hl 0 rfl) ?_
        obtain ⟨r_1, σ_2, hc, hF⟩ := kp_bd_s hF
        refine kp_cv h (kp_rV (k := 0) (As := []) (rest := []) C G h (kc_X9_settle  hc) q2_194 q2_196 q0_1_11 q1_1 q2_197 ⟨rfl, hd_X9_settle⟩ (by decide) kp_lK0 rfl rfl hl.1 rfl (Nat.le_of_ble_eq_true rfl) dX9_least_23) (fun H locs h => ?_)
        refine kp_aload_n C dX9_least_26 rfl (lv_at hl 0 rfl) ?_
        refine kp_getr C G h kp_lK0 rfl inWX9 (j := 0) (by decide) q2_14 rfl dX9_least_27 ?_
        refine kp_getr C G h kp_lK1 rfl inWX1 (j := 3) (by decide) q1_164 rfl dX9_least_30 ?_
        obtain ⟨r_2, σ_3, hc, hF⟩ := kp_bd_s hF
        refine kp_ci h (kp_rV (k := 11) (As := []) (rest := []) C G h (kc_X3_loose  hc) q3_192 q3_193 q3_194 q1_6 q3_195 ⟨rfl, hd_X3_loose⟩ (by decide) kp_lK11 rfl rfl hl.1 rfl (Nat.le_of_ble_eq_true rfl) dX9_least_33) (fun H locs h => ?_)
        refine kp_istore_n (lv' := fun x3_0 => [(3, kp_iv x3_0), (0, .ref (kp_ad X 0)), (1, kp_iv a1), (2, kp_iv a2)]) C dX9_least_36 rfl hl (by decide) (fun _ => rfl) hF (fun x3_0 ls hl hF => ?_)
        refine kp_iconst C dX9_least_37 ?_
        refine kp_istore (lv' := fun x4_0 => [(4, kp_iv x4_0), (3, kp_iv x3_0), (0, .ref (kp_ad X 0)), (1, kp_iv a1), (2, kp_iv a2)]) C dX9_least_38 hl (by decide) (fun _ => rfl) hF (fun x4_0 ls hl hF => ?_)
        have L40 : ∀ (n : Nat) (x4_1 : Int) (σ_4 : kp_W) (k : kp_W → kp_R) (H : Heap) (locs : List Loc) (ls : Array Slot), kp_H X kp_lK 58 s σ_4 H locs → lv_has ls 7 [(0, .ref (kp_ad X 0)), (1, kp_iv a1), (2, kp_iv a2), (3, kp_iv x3_0), (4, kp_iv x4_1)] → (∀ (σ_5 : kp_W) (H : Heap) (locs : List Loc) (ls : Array Slot), kp_H X kp_lK 58 s σ_5 H locs → lv_has ls 7 [(0, .ref (kp_ad X 0)), (2, kp_iv a2), (3, kp_iv x3_0)] → k σ_5 = some (r, σ') → W p l e (kp_rm 6) s m args below meth c H locs 0 0 (MQ below (kp_Qi X kp_lK 58 σ' r) args s 0 0 (kp_A X 58)) (F0 m 75 ls [])) → kl_X9_least_40 a1 n x4_1 σ_4 k = some (r, σ') → W p l e (kp_rm 6) s m args below meth c H locs 0 0 (MQ below (kp_Qi X kp_lK 58 σ' r) args s 0 0 (kp_A X 58)) (F0 m 40 ls []) := by
          intro n
          induction n with
          | zero =>
            intro x4_1 σ_4 k H locs ls h hl K hF
            rw [kl_X9_least_40] at hF
            cases hF
          | succ n ih =>
            intro x4_1 σ_4 k H locs ls h hl K hF
            rw [kl_X9_least_40] at hF
            refine kp_iload C dX9_least_40 (lv_at hl 4 rfl) ?_
            refine kp_aload_n C dX9_least_42 rfl (lv_at hl 0 rfl) ?_
            refine kp_getr C G h kp_lK0 rfl inWX9 (j := 0) (by decide) q2_14 rfl dX9_least_43 ?_
            refine kp_getr C G h kp_lK1 rfl inWX1 (j := 3) (by decide) q1_164 rfl dX9_least_46 ?_
            refine kp_geti C G h kp_lK11 rfl inWX3 (j := 5) (by decide) q1_120 rfl dX9_least_49 ?_
            refine kp_icmp_ge (tgt := 75) C dX9_least_52 (by decide) hF (fun hF => ?_) (fun hF => ?_)
            · exact K _ _ _ _ h (lv_sub hl [0, 2, 3] rfl) hF
            · refine kp_aload_n C dX9_least_55 rfl (lv_at hl 0 rfl) ?_
              refine kp_getr C G h kp_lK0 rfl inWX9 (j := 7) (by decide) q2_21 rfl dX9_least_56 ?_
              refine kp_iload C dX9_least_59 (lv_at hl 4 rfl) ?_
              refine kp_aload_n C dX9_least_61 rfl (lv_at hl 0 rfl) ?_
              refine kp_iload C dX9_least_62 (lv_at hl 4 rfl) ?_
              refine kp_iload_n C dX9_least_64 rfl (lv_at hl 1 rfl) ?_
              obtain ⟨r_4, σ_9, hc, hF⟩ := kp_bd_s hF
              refine kp_ci h (kp_rV (k := 0) (As := [kp_iv x4_1, kp_iv a1]) (rest := [kp_iv x4_1, .ref (kp_ad X 57)]) C G h (kc_X9_heardInDayOf  hc) q3_196 q3_198 q0_2_14 q1_1 q3_199 ⟨rfl, hd_X9_heardInDayOf⟩ (by decide) kp_lK0 rfl rfl hl.1 rfl (Nat.le_of_ble_eq_true rfl) dX9_least_65) (fun H locs h => ?_)
              refine kp_iast C G h (n := 120) kp_lK57 (by decide) dX9_least_68 hF (fun σ_10 H locs h hF => ?_)
              refine kp_iinc (k := 4) (lv' := fun x4_6 => [(4, kp_iv x4_6), (0, .ref (kp_ad X 0)), (1, kp_iv a1), (2, kp_iv a2), (3, kp_iv x3_0)]) C dX9_least_69 hl rfl (by decide) (fun _ => rfl) hF (fun x4_6 ls hl hF => ?_)
              refine kp_goto (tgt := 40) C dX9_least_72 (by decide) ?_
              exact ih _ _ k _ _ _ h (lv_sub hl [1, 2, 3, 4, 0] rfl) K hF
        refine L40 kp_fu _ _ _ _ _ _ h (lv_sub hl [2, 3, 4, 1, 0] rfl) (fun σ_5 H locs ls h hl hF => ?_) hF
        clear L40
        refine kp_iload_n C dX9_least_75 rfl (lv_at hl 2 rfl) ?_
        refine kp_istore (lv' := fun x4_2 => [(4, kp_iv x4_2), (0, .ref (kp_ad X 0)), (2, kp_iv a2), (3, kp_iv x3_0)]) C dX9_least_76 hl (by decide) (fun _ => rfl) hF (fun x4_2 ls hl hF => ?_)
        refine kp_iconst C dX9_least_78 ?_
        refine kp_istore (lv' := fun x5_0 => [(5, kp_iv x5_0), (4, kp_iv x4_2), (0, .ref (kp_ad X 0)), (2, kp_iv a2), (3, kp_iv x3_0)]) C dX9_least_79 hl (by decide) (fun _ => rfl) hF (fun x5_0 ls hl hF => ?_)
        have L81 : ∀ (n : Nat) (x4_3 : Int) (x5_1 : Int) (σ_6 : kp_W) (k : Int → kp_W → kp_R) (H : Heap) (locs : List Loc) (ls : Array Slot), kp_H X kp_lK 58 s σ_6 H locs → lv_has ls 7 [(0, .ref (kp_ad X 0)), (2, kp_iv a2), (3, kp_iv x3_0), (4, kp_iv x4_3), (5, kp_iv x5_1)] → (∀ (x4_4 : Int) (σ_7 : kp_W) (H : Heap) (locs : List Loc) (ls : Array Slot), kp_H X kp_lK 58 s σ_7 H locs → lv_has ls 7 [(4, kp_iv x4_4)] → k x4_4 σ_7 = some (r, σ') → W p l e (kp_rm 6) s m args below meth c H locs 0 0 (MQ below (kp_Qi X kp_lK 58 σ' r) args s 0 0 (kp_A X 58)) (F0 m 157 ls [])) → kl_X9_least_81 a2 x3_0 n x4_3 x5_1 σ_6 k = some (r, σ') → W p l e (kp_rm 6) s m args below meth c H locs 0 0 (MQ below (kp_Qi X kp_lK 58 σ' r) args s 0 0 (kp_A X 58)) (F0 m 81 ls []) := by
          intro n
          induction n with
          | zero =>
            intro x4_3 x5_1 σ_6 k H locs ls h hl K hF
            rw [kl_X9_least_81] at hF
            cases hF
          | succ n ih =>
            intro x4_3 x5_1 σ_6 k H locs ls h hl K hF
            rw [kl_X9_least_81] at hF
            refine kp_iload C dX9_least_81 (lv_at hl 4 rfl) ?_
            refine kp_iconst C dX9_least_83 ?_
            refine kp_aload_n C dX9_least_84 rfl (lv_at hl 0 rfl) ?_
            refine kp_getr C G h kp_lK0 rfl inWX9 (j := 0) (by decide) q2_14 rfl dX9_least_85 ?_
            refine kp_getr C G h kp_lK1 rfl inWX1 (j := 3) (by decide) q1_164 rfl dX9_least_88 ?_
            refine kp_geti C G h kp_lK11 rfl inWX3 (j := 5) (by decide) q1_120 rfl dX9_least_91 ?_
            refine kp_xishl C dX9_least_94 hF (fun hF => ?_)
            refine kp_icmp_ge (tgt := 157) C dX9_least_95 (by decide) hF (fun hF => ?_) (fun hF => ?_)
            · exact K _ _ _ _ _ h (lv_sub hl [3] rfl) hF
            · refine kp_iload C dX9_least_98 (lv_at hl 4 rfl) ?_
              refine kp_iload_n C dX9_least_100 rfl (lv_at hl 2 rfl) ?_
              refine kp_iconst C dX9_least_101 ?_
              refine kp_xixor C dX9_least_102 ?_
              refine kp_xiand C dX9_least_103 ?_
              obtain ⟨j125, ej125, hF⟩ := kp_jn_s hF
              have J125 : ∀ (v_0 : Int), ∀ (H : Heap) (locs : List Loc) (ls : Array Slot), kp_H X kp_lK 58 s σ_6 H locs → lv_has ls 7 [(0, .ref (kp_ad X 0)), (2, kp_iv a2), (3, kp_iv x3_0), (4, kp_iv x4_3), (5, kp_iv x5_1)] → j125 v_0 = some (r, σ') → W p l e (kp_rm 6) s m args below meth c H locs 0 0 (MQ below (kp_Qi X kp_lK 58 σ' r) args s 0 0 (kp_A X 58)) (F0 m 125 ls [kp_iv v_0]) := by
                intro v_0 H locs ls h hl hF
                rw [ej125] at hF
                refine kp_istore (lv' := fun x6_0 => [(6, kp_iv x6_0), (0, .ref (kp_ad X 0)), (2, kp_iv a2), (3, kp_iv x3_0), (4, kp_iv x4_3), (5, kp_iv x5_1)]) C dX9_least_125 hl (by decide) (fun _ => rfl) hF (fun x6_0 ls hl hF => ?_)
                refine kp_iload C dX9_least_127 (lv_at hl 0 rfl) ?_
                refine kp_if_eq (tgt := 151) C dX9_least_129 (by decide) hF (fun hF => ?_) (fun hF => ?_)
                · refine kp_iinc (k := 5) (lv' := fun x5_2 => [(5, kp_iv x5_2), (6, kp_iv x6_0), (0, .ref (kp_ad X 0)), (2, kp_iv a2), (3, kp_iv x3_0), (4, kp_iv x4_3)]) C dX9_least_151 hl rfl (by decide) (fun _ => rfl) hF (fun x5_2 ls hl hF => ?_)
                  refine kp_goto (tgt := 81) C dX9_least_154 (by decide) ?_
                  exact ih _ _ _ k _ _ _ h (lv_sub hl [2, 3, 4, 5, 0] rfl) K hF
                · refine kp_aload_n C dX9_least_132 rfl (lv_at hl 1 rfl) ?_
                  refine kp_iconst C dX9_least_133 ?_
                  refine kp_iload_n C dX9_least_134 rfl (lv_at hl 3 rfl) ?_
                  refine kp_iload C dX9_least_135 (lv_at hl 5 rfl) ?_
                  refine kp_iconst C dX9_least_137 ?_
                  refine kp_xixor C dX9_least_138 ?_
                  refine kp_xiand C dX9_least_139 ?_
                  obtain ⟨r_3, σ_8, hc, hF⟩ := kp_bd_s hF
                  refine kp_ci h (kp_rV (k := 0) (As := [kp_iv 0, kp_iv (kp_and x3_0 (kp_xor x5_1 (-1)))]) (rest := []) C G h (kc_X9_shareOf  hc) q3_168 q3_170 q0_2_10 q1_1 q3_171 ⟨rfl, hd_X9_shareOf⟩ (by decide) kp_lK0 rfl rfl hl.1 rfl (Nat.le_of_ble_eq_true rfl) dX9_least_140) (fun H locs h => ?_)
                  refine kp_iload_n C dX9_least_143 rfl (lv_at hl 2 rfl) ?_
                  refine kp_icmp_gt (tgt := 151) C dX9_least_144 (by decide) hF (fun hF => ?_) (fun hF => ?_)
                  · refine kp_iinc (k := 5) (lv' := fun x5_3 => [(5, kp_iv x5_3), (6, kp_iv x6_0), (0, .ref (kp_ad X 0)), (2, kp_iv a2), (3, kp_iv x3_0), (4, kp_iv x4_3)]) C dX9_least_151 hl rfl (by decide) (fun _ => rfl) hF (fun x5_3 ls hl hF => ?_)
                    refine kp_goto (tgt := 81) C dX9_least_154 (by decide) ?_
                    exact ih _ _ _ k _ _ _ h (lv_sub hl [2, 3, 4, 5, 0] rfl) K hF
                  · refine kp_iload C dX9_least_147 (lv_at hl 5 rfl) ?_
                    refine kp_istore (lv' := fun x4_5 => [(4, kp_iv x4_5), (6, kp_iv x6_0), (0, .ref (kp_ad X 0)), (2, kp_iv a2), (3, kp_iv x3_0), (5, kp_iv x5_1)]) C dX9_least_149 hl (by decide) (fun _ => rfl) hF (fun x4_5 ls hl hF => ?_)
                    refine kp_iinc (k := 5) (lv' := fun x5_4 => [(5, kp_iv x5_4), (4, kp_iv x4_5), (6, kp_iv x6_0), (0, .ref (kp_ad X 0)), (2, kp_iv a2), (3, kp_iv x3_0)]) C dX9_least_151 hl rfl (by decide) (fun _ => rfl) hF (fun x5_4 ls hl hF => ?_)
                    refine kp_goto (tgt := 81) C dX9_least_154 (by decide) ?_
                    exact ih _ _ _ k _ _ _ h (lv_sub hl [3, 4, 5, 1, 0] rfl) K hF
              clear ej125
              obtain ⟨j124, ej124, hF⟩ := kp_jn_s hF
              have J124 : ∀ _ : Unit, ∀ (H : Heap) (locs : List Loc) (ls : Array Slot), kp_H X kp_lK 58 s σ_6 H locs → lv_has ls 7 [(0, .ref (kp_ad X 0)), (2, kp_iv a2), (3, kp_iv x3_0), (4, kp_iv x4_3), (5, kp_iv x5_1)] → j124 () = some (r, σ') → W p l e (kp_rm 6) s m args below meth c H locs 0 0 (MQ below (kp_Qi X kp_lK 58 σ' r) args s 0 0 (kp_A X 58)) (F0 m 124 ls []) := by
                intro _ H locs ls h hl hF
                rw [ej124] at hF
                refine kp_iconst C dX9_least_124 ?_
                exact J125 _ _ _ _ h (lv_sub hl [0, 1, 2, 3, 4] rfl) hF
              clear ej124
              refine kp_if_ne (tgt := 124) C dX9_least_104 (by decide) hF (fun hF => ?_) (fun hF => ?_)
              · exact J124 () _ _ _ h (lv_sub hl [0, 1, 2, 3, 4] rfl) hF
              · refine kp_iload C dX9_least_107 (lv_at hl 4 rfl) ?_
                refine kp_ci h (kp_rS (As := [kp_iv x5_1]) (rest := []) C G h (kc_bitCount (x := x5_1)) q3_143 q3_144 q1_18 q3_145 hd_J6_bitCount_0f7a4 (by decide) rfl hl.1 rfl (Nat.le_of_ble_eq_true rfl) dX9_least_109) (fun H locs h => ?_)
                refine kp_iload C dX9_least_112 (lv_at hl 3 rfl) ?_
                refine kp_ci h (kp_rS (As := [kp_iv x4_3]) (rest := [kp_iv (kp_bc x5_1)]) C G h (kc_bitCount (x := x4_3)) q3_143 q3_144 q1_18 q3_145 hd_J6_bitCount_0f7a4 (by decide) rfl hl.1 rfl (Nat.le_of_ble_eq_true rfl) dX9_least_114) (fun H locs h => ?_)
                refine kp_icmp_ge (tgt := 124) C dX9_least_117 (by decide) hF (fun hF => ?_) (fun hF => ?_)
                · exact J124 () _ _ _ h (lv_sub hl [0, 1, 2, 3, 4] rfl) hF
                · refine kp_iconst C dX9_least_120 ?_
                  refine kp_goto (tgt := 125) C dX9_least_121 (by decide) ?_
                  exact J125 _ _ _ _ h (lv_sub hl [0, 1, 2, 3, 4] rfl) hF
        refine L81 kp_fu _ _ _ _ _ _ _ h (lv_sub hl [2, 3, 4, 1, 0] rfl) (fun x4_4 σ_7 H locs ls h hl hF => ?_) hF
        clear L81
        refine kp_iload C dX9_least_157 (lv_at hl 0 rfl) ?_
        exact kp_reti C hr hlk G h dX9_least_159 hF
      · refine kp_bipush C dX9_least_19 rfl ?_
        exact kp_reti C hr hlk G h dX9_least_21 hF
  · refine kp_iconst C dX9_least_7 ?_
    exact kp_reti C hr hlk G h dX9_least_8 hF
def kl_X9_eased_118 (a1 : Int) (x4_1 : Int) (x5_0 : Int) : Nat → Int → Int → kp_W → (Int → kp_W → kp_R) → kp_R
  | 0, _, _, _, _ => none
  | n + 1, x3_4, x6_1, σ_8, k => kp_ls x6_1 40 (kp_bd (kf_X9_heardOf x4_1 x5_0 a1 x6_1 σ_8) (fun r_5 σ_10 => kp_lt ((x3_4 - r_5) : Int) (fun x3_6 => kp_lt (x6_1 + 1) (fun x6_2 => kl_X9_eased_118 a1 x4_1 x5_0 n x3_6 x6_2 σ_10 k)))) (k x3_4 σ_8)
def kl_X9_eased_31 (a1 : Int) (a2 : Int) : Nat → Int → Int → kp_W → (Int → kp_W → kp_R) → kp_R
  | 0, _, _, _, _ => none
  | n + 1, x3_1, x4_1, σ_3, k => kp_ls x4_1 (σ_3 11 5) (kp_bd (kf_X3_isLoose x4_1 σ_3) (fun r_2 σ_5 => kp_eq r_2 0 (kp_lt (x4_1 + 1) (fun x4_2 => kl_X9_eased_31 a1 a2 n x3_1 x4_2 σ_5 k)) (kp_ck (0 ≤ x4_1 ∧ x4_1 < 10) (kp_bd (kf_X9_isUnder (σ_5 12 (Int.toNat x4_1)) 2 σ_5) (fun r_3 σ_6 => kp_eq r_3 0 (kp_lt (x4_1 + 1) (fun x4_4 => kl_X9_eased_31 a1 a2 n x3_1 x4_4 σ_6 k)) (kp_ck (0 ≤ x4_1 ∧ x4_1 < 10) (kp_ck (kp_in 1 ∧ kp_in ((σ_6 15 (Int.toNat x4_1)) - a2)) (kp_lt ((kp_max 1 ((σ_6 15 (Int.toNat x4_1)) - a2)) : Int) (fun x5_0 => kp_bd (kf_X9_heardInDayOf x4_1 a1 σ_6) (fun r_4 σ_7 => kp_lt ((x3_1 + r_4) : Int) (fun x3_3 => kp_lt (0 : Int) (fun x6_0 => kl_X9_eased_118 a1 x4_1 x5_0 kp_fu x3_3 x6_0 σ_7 (fun (x3_5 : Int) (σ_9 : kp_W) => kp_lt (x4_1 + 1) (fun x4_3 => kl_X9_eased_31 a1 a2 n x3_5 x4_3 σ_9 k)))))))))))))) (k x3_1 σ_3)
def kf_X9_eased  (a1 : Int) (a2 : Int) (σ_0 : kp_W) : kp_R :=
  kp_bd (kf_X9_isPlace a1 σ_0) (fun r_0 σ_1 => kp_eq r_0 0 (some ((-1), σ_1)) (kp_ls a2 0 (some ((-2), σ_1)) (kp_ls 40 a2 (some ((-2), σ_1)) (kp_bd (kf_X9_settle σ_1) (fun r_1 σ_2 => kp_lt (0 : Int) (fun x3_0 => kp_lt (0 : Int) (fun x4_0 => kl_X9_eased_31 a1 a2 kp_fu x3_0 x4_0 σ_2 (fun (x3_2 : Int) (σ_4 : kp_W) => some (x3_2, σ_4)))))))))
set_option maxRecDepth 100000 in
set_option maxHeartbeats 4000000 in
theorem kc_X9_eased {l : Launch} {X : kp_X} {a1 : Int} {a2 : Int}  {σ_0 σ' : kp_W} {r : Int}   (hF : (kf_X9_eased a1 a2 σ_0) = some (r, σ')) : kp_Met l yX9_eased cX9_eased 7 (some .int) 6 X kp_lK 58 σ_0 [.ref (kp_ad X 0), kp_iv a1, kp_iv a2] (kp_Qi X kp_lK 58 σ' r) := by
  refine kp_body pnX9 (Nat.le_of_ble_eq_true rfl) ?_
  intro p e s m args below meth c ls C hr hlk G h hl
  unfold kf_X9_eased at hF
  have hl : lv_has ls 7 [(0, .ref (kp_ad X 0)), (1, kp_iv a1), (2, kp_iv a2)] := hl
  refine kp_iload_n C dX9_eased_0 rfl (lv_at hl 1 rfl) ?_
  obtain ⟨r_0, σ_1, hc, hF⟩ := kp_bd_s hF
  refine kp_ci h (kp_rS (As := [kp_iv a1]) (rest := []) C G h (kc_X9_isPlace  hc) q3_42 q3_43 q1_1 q3_44 hd_X9_isPlace (by decide) rfl hl.1 rfl (Nat.le_of_ble_eq_true rfl) dX9_eased_1) (fun H locs h => ?_)
  refine kp_if_ne (tgt := 9) C dX9_eased_4 (by decide) hF (fun hF => ?_) (fun hF => ?_)
  · refine kp_iload_n C dX9_eased_9 rfl (lv_at hl 2 rfl) ?_
    refine kp_if_lt (tgt := 19) C dX9_eased_10 (by decide) hF (fun hF => ?_) (fun hF => ?_)
    · refine kp_bipush C dX9_eased_19 rfl ?_
      exact kp_reti C hr hlk G h dX9_eased_21 hF
    · refine kp_iload_n C dX9_eased_13 rfl (lv_at hl 2 rfl) ?_
      refine kp_bipush C dX9_eased_14 rfl ?_
      refine kp_icmp_le (tgt := 22) C dX9_eased_16 (by decide) hF (fun hF => ?_) (fun hF => ?_)
      · refine kp_aload_n C dX9_eased_22 rfl (lv_at hl 0 rfl) ?_
        obtain ⟨r_1, σ_2, hc, hF⟩ := kp_bd_s hF
        refine kp_cv h (kp_rV (k := 0) (As := []) (rest := []) C G h (kc_X9_settle  hc) q2_194 q2_196 q0_1_11 q1_1 q2_197 ⟨rfl, hd_X9_settle⟩ (by decide) kp_lK0 rfl rfl hl.1 rfl (Nat.le_of_ble_eq_true rfl) dX9_eased_23) (fun H locs h => ?_)
        refine kp_iconst C dX9_eased_26 ?_
        refine kp_istore_n (lv' := fun x3_0 => [(3, kp_iv x3_0), (0, .ref (kp_ad X 0)), (1, kp_iv a1), (2, kp_iv a2)]) C dX9_eased_27 rfl hl (by decide) (fun _ => rfl) hF (fun x3_0 ls hl hF => ?_)
        refine kp_iconst C dX9_eased_28 ?_
        refine kp_istore (lv' := fun x4_0 => [(4, kp_iv x4_0), (3, kp_iv x3_0), (0, .ref (kp_ad X 0)), (1, kp_iv a1), (2, kp_iv a2)]) C dX9_eased_29 hl (by decide) (fun _ => rfl) hF (fun x4_0 ls hl hF => ?_)
        have L31 : ∀ (n : Nat) (x3_1 : Int) (x4_1 : Int) (σ_3 : kp_W) (k : Int → kp_W → kp_R) (H : Heap) (locs : List Loc) (ls : Array Slot), kp_H X kp_lK 58 s σ_3 H locs → lv_has ls 7 [(0, .ref (kp_ad X 0)), (1, kp_iv a1), (2, kp_iv a2), (3, kp_iv x3_1), (4, kp_iv x4_1)] → (∀ (x3_2 : Int) (σ_4 : kp_W) (H : Heap) (locs : List Loc) (ls : Array Slot), kp_H X kp_lK 58 s σ_4 H locs → lv_has ls 7 [(3, kp_iv x3_2)] → k x3_2 σ_4 = some (r, σ') → W p l e (kp_rm 6) s m args below meth c H locs 0 0 (MQ below (kp_Qi X kp_lK 58 σ' r) args s 0 0 (kp_A X 58)) (F0 m 151 ls [])) → kl_X9_eased_31 a1 a2 n x3_1 x4_1 σ_3 k = some (r, σ') → W p l e (kp_rm 6) s m args below meth c H locs 0 0 (MQ below (kp_Qi X kp_lK 58 σ' r) args s 0 0 (kp_A X 58)) (F0 m 31 ls []) := by
          intro n
          induction n with
          | zero =>
            intro x3_1 x4_1 σ_3 k H locs ls h hl K hF
            rw [kl_X9_eased_31] at hF
            cases hF
          | succ n ih =>
            intro x3_1 x4_1 σ_3 k H locs ls h hl K hF
            rw [kl_X9_eased_31] at hF
            refine kp_iload C dX9_eased_31 (lv_at hl 4 rfl) ?_
            refine kp_aload_n C dX9_eased_33 rfl (lv_at hl 0 rfl) ?_
            refine kp_getr C G h kp_lK0 rfl inWX9 (j := 0) (by decide) q2_14 rfl dX9_eased_34 ?_
            refine kp_getr C G h kp_lK1 rfl inWX1 (j := 3) (by decide) q1_164 rfl dX9_eased_37 ?_
            refine kp_geti C G h kp_lK11 rfl inWX3 (j := 5) (by decide) q1_120 rfl dX9_eased_40 ?_
            refine kp_icmp_ge (tgt := 151) C dX9_eased_43 (by decide) hF (fun hF => ?_) (fun hF => ?_)
            · exact K _ _ _ _ _ h (lv_sub hl [3] rfl) hF
            · refine kp_aload_n C dX9_eased_46 rfl (lv_at hl 0 rfl) ?_
              refine kp_getr C G h kp_lK0 rfl inWX9 (j := 0) (by decide) q2_14 rfl dX9_eased_47 ?_
              refine kp_getr C G h kp_lK1 rfl inWX1 (j := 3) (by decide) q1_164 rfl dX9_eased_50 ?_
              refine kp_iload C dX9_eased_53 (lv_at hl 4 rfl) ?_
              obtain ⟨r_2, σ_5, hc, hF⟩ := kp_bd_s hF
              refine kp_ci h (kp_rV (k := 11) (As := [kp_iv x4_1]) (rest := []) C G h (kc_X3_isLoose  hc) q3_67 q3_68 q3_69 q1_6 q3_70 ⟨rfl, hd_X3_isLoose⟩ (by decide) kp_lK11 rfl rfl hl.1 rfl (Nat.le_of_ble_eq_true rfl) dX9_eased_55) (fun H locs h => ?_)
              refine kp_if_eq (tgt := 145) C dX9_eased_58 (by decide) hF (fun hF => ?_) (fun hF => ?_)
              · refine kp_iinc (k := 4) (lv' := fun x4_2 => [(4, kp_iv x4_2), (0, .ref (kp_ad X 0)), (1, kp_iv a1), (2, kp_iv a2), (3, kp_iv x3_1)]) C dX9_eased_145 hl rfl (by decide) (fun _ => rfl) hF (fun x4_2 ls hl hF => ?_)
                refine kp_goto (tgt := 31) C dX9_eased_148 (by decide) ?_
                exact ih _ _ _ k _ _ _ h (lv_sub hl [1, 2, 3, 4, 0] rfl) K hF
              · refine kp_aload_n C dX9_eased_61 rfl (lv_at hl 0 rfl) ?_
                refine kp_getr C G h kp_lK0 rfl inWX9 (j := 0) (by decide) q2_14 rfl dX9_eased_62 ?_
                refine kp_getr C G h kp_lK1 rfl inWX1 (j := 3) (by decide) q1_164 rfl dX9_eased_65 ?_
                refine kp_getr C G h kp_lK11 rfl inWX3 (j := 0) (by decide) q1_106 rfl dX9_eased_68 ?_
                refine kp_iload C dX9_eased_71 (lv_at hl 4 rfl) ?_
                refine kp_iald C G h (n := 10) kp_lK12 (by decide) dX9_eased_73 hF (fun hF => ?_)
                refine kp_iconst C dX9_eased_74 ?_
                obtain ⟨r_3, σ_6, hc, hF⟩ := kp_bd_s hF
                refine kp_ci h (kp_rS (As := [kp_iv (σ_5 12 (Int.toNat x4_1)), kp_iv 2]) (rest := []) C G h (kc_X9_isUnder  hc) q3_85 q3_86 q1_1 q3_87 hd_X9_isUnder (by decide) rfl hl.1 rfl (Nat.le_of_ble_eq_true rfl) dX9_eased_75) (fun H locs h => ?_)
                refine kp_if_ne (tgt := 84) C dX9_eased_78 (by decide) hF (fun hF => ?_) (fun hF => ?_)
                · refine kp_iconst C dX9_eased_84 ?_
                  refine kp_aload_n C dX9_eased_85 rfl (lv_at hl 0 rfl) ?_
                  refine kp_getr C G h kp_lK0 rfl inWX9 (j := 0) (by decide) q2_14 rfl dX9_eased_86 ?_
                  refine kp_getr C G h kp_lK1 rfl inWX1 (j := 3) (by decide) q1_164 rfl dX9_eased_89 ?_
                  refine kp_getr C G h kp_lK11 rfl inWX3 (j := 3) (by decide) q1_116 rfl dX9_eased_92 ?_
                  refine kp_iload C dX9_eased_95 (lv_at hl 4 rfl) ?_
                  refine kp_iald C G h (n := 10) kp_lK15 (by decide) dX9_eased_97 hF (fun hF => ?_)
                  refine kp_iload_n C dX9_eased_98 rfl (lv_at hl 2 rfl) ?_
                  refine kp_isub C dX9_eased_99 ?_
                  refine kp_mmax C hl.1 q3_84 q3_6 q1_19 q3_7 (by decide) (Nat.le_of_ble_eq_true rfl) dX9_eased_100 hF (fun hF => ?_)
                  refine kp_istore (lv' := fun x5_0 => [(5, kp_iv x5_0), (0, .ref (kp_ad X 0)), (1, kp_iv a1), (2, kp_iv a2), (3, kp_iv x3_1), (4, kp_iv x4_1)]) C dX9_eased_103 hl (by decide) (fun _ => rfl) hF (fun x5_0 ls hl hF => ?_)
                  refine kp_iload_n C dX9_eased_105 rfl (lv_at hl 4 rfl) ?_
                  refine kp_aload_n C dX9_eased_106 rfl (lv_at hl 1 rfl) ?_
                  refine kp_iload C dX9_eased_107 (lv_at hl 5 rfl) ?_
                  refine kp_iload_n C dX9_eased_109 rfl (lv_at hl 2 rfl) ?_
                  obtain ⟨r_4, σ_7, hc, hF⟩ := kp_bd_s hF
                  refine kp_ci h (kp_rV (k := 0) (As := [kp_iv x4_1, kp_iv a1]) (rest := [kp_iv x3_1]) C G h (kc_X9_heardInDayOf  hc) q3_196 q3_198 q0_2_14 q1_1 q3_199 ⟨rfl, hd_X9_heardInDayOf⟩ (by decide) kp_lK0 rfl rfl hl.1 rfl (Nat.le_of_ble_eq_true rfl) dX9_eased_110) (fun H locs h => ?_)
                  refine kp_iadd C dX9_eased_113 ?_
                  refine kp_istore_n (lv' := fun x3_3 => [(3, kp_iv x3_3), (5, kp_iv x5_0), (0, .ref (kp_ad X 0)), (1, kp_iv a1), (2, kp_iv a2), (4, kp_iv x4_1)]) C dX9_eased_114 rfl hl (by decide) (fun _ => rfl) hF (fun x3_3 ls hl hF => ?_)
                  refine kp_iconst C dX9_eased_115 ?_
                  refine kp_istore (lv' := fun x6_0 => [(6, kp_iv x6_0), (3, kp_iv x3_3), (5, kp_iv x5_0), (0, .ref (kp_ad X 0)), (1, kp_iv a1), (2, kp_iv a2), (4, kp_iv x4_1)]) C dX9_eased_116 hl (by decide) (fun _ => rfl) hF (fun x6_0 ls hl hF => ?_)
                  have L118 : ∀ (n : Nat) (x3_4 : Int) (x6_1 : Int) (σ_8 : kp_W) (k : Int → kp_W → kp_R) (H : Heap) (locs : List Loc) (ls : Array Slot), kp_H X kp_lK 58 s σ_8 H locs → lv_has ls 7 [(0, .ref (kp_ad X 0)), (1, kp_iv a1), (2, kp_iv a2), (3, kp_iv x3_4), (4, kp_iv x4_1), (5, kp_iv x5_0), (6, kp_iv x6_1)] → (∀ (x3_5 : Int) (σ_9 : kp_W) (H : Heap) (locs : List Loc) (ls : Array Slot), kp_H X kp_lK 58 s σ_9 H locs → lv_has ls 7 [(0, .ref (kp_ad X 0)), (1, kp_iv a1), (2, kp_iv a2), (3, kp_iv x3_5), (4, kp_iv x4_1)] → k x3_5 σ_9 = some (r, σ') → W p l e (kp_rm 6) s m args below meth c H locs 0 0 (MQ below (kp_Qi X kp_lK 58 σ' r) args s 0 0 (kp_A X 58)) (F0 m 145 ls [])) → kl_X9_eased_118 a1 x4_1 x5_0 n x3_4 x6_1 σ_8 k = some (r, σ') → W p l e (kp_rm 6) s m args below meth c H locs 0 0 (MQ below (kp_Qi X kp_lK 58 σ' r) args s 0 0 (kp_A X 58)) (F0 m 118 ls []) := by
                    intro n
                    induction n with
                    | zero =>
                      intro x3_4 x6_1 σ_8 k H locs ls h hl K hF
                      rw [kl_X9_eased_118] at hF
                      cases hF
                    | succ n ih =>
                      intro x3_4 x6_1 σ_8 k H locs ls h hl K hF
                      rw [kl_X9_eased_118] at hF
                      refine kp_iload C dX9_eased_118 (lv_at hl 6 rfl) ?_
                      refine kp_bipush C dX9_eased_120 rfl ?_
                      refine kp_icmp_ge (tgt := 145) C dX9_eased_122 (by decide) hF (fun hF => ?_) (fun hF => ?_)
                      · exact K _ _ _ _ _ h (lv_sub hl [0, 1, 2, 3, 4] rfl) hF
                      · refine kp_iload_n C dX9_eased_125 rfl (lv_at hl 3 rfl) ?_
                        refine kp_aload_n C dX9_eased_126 rfl (lv_at hl 0 rfl) ?_
                        refine kp_iload C dX9_eased_127 (lv_at hl 4 rfl) ?_
                        refine kp_iload C dX9_eased_129 (lv_at hl 5 rfl) ?_
                        refine kp_iload_n C dX9_eased_131 rfl (lv_at hl 1 rfl) ?_
                        refine kp_iload C dX9_eased_132 (lv_at hl 6 rfl) ?_
                        obtain ⟨r_5, σ_10, hc, hF⟩ := kp_bd_s hF
                        refine kp_ci h (kp_rV (k := 0) (As := [kp_iv x4_1, kp_iv x5_0, kp_iv a1, kp_iv x6_1]) (rest := [kp_iv x3_4]) C G h (kc_X9_heardOf  hc) q3_107 q3_109 q0_2_4 q1_1 q3_110 ⟨rfl, hd_X9_heardOf⟩ (by decide) kp_lK0 rfl rfl hl.1 rfl (Nat.le_of_ble_eq_true rfl) dX9_eased_134) (fun H locs h => ?_)
                        refine kp_isub C dX9_eased_137 ?_
                        refine kp_istore_n (lv' := fun x3_6 => [(3, kp_iv x3_6), (0, .ref (kp_ad X 0)), (1, kp_iv a1), (2, kp_iv a2), (4, kp_iv x4_1), (5, kp_iv x5_0), (6, kp_iv x6_1)]) C dX9_eased_138 rfl hl (by decide) (fun _ => rfl) hF (fun x3_6 ls hl hF => ?_)
                        refine kp_iinc (k := 6) (lv' := fun x6_2 => [(6, kp_iv x6_2), (3, kp_iv x3_6), (0, .ref (kp_ad X 0)), (1, kp_iv a1), (2, kp_iv a2), (4, kp_iv x4_1), (5, kp_iv x5_0)]) C dX9_eased_139 hl rfl (by decide) (fun _ => rfl) hF (fun x6_2 ls hl hF => ?_)
                        refine kp_goto (tgt := 118) C dX9_eased_142 (by decide) ?_
                        exact ih _ _ _ k _ _ _ h (lv_sub hl [2, 3, 4, 1, 5, 6, 0] rfl) K hF
                  refine L118 kp_fu _ _ _ _ _ _ _ h (lv_sub hl [3, 4, 5, 1, 6, 2, 0] rfl) (fun x3_5 σ_9 H locs ls h hl hF => ?_) hF
                  clear L118
                  refine kp_iinc (k := 4) (lv' := fun x4_3 => [(4, kp_iv x4_3), (0, .ref (kp_ad X 0)), (1, kp_iv a1), (2, kp_iv a2), (3, kp_iv x3_5)]) C dX9_eased_145 hl rfl (by decide) (fun _ => rfl) hF (fun x4_3 ls hl hF => ?_)
                  refine kp_goto (tgt := 31) C dX9_eased_148 (by decide) ?_
                  exact ih _ _ _ k _ _ _ h (lv_sub hl [1, 2, 3, 4, 0] rfl) K hF
                · refine kp_goto (tgt := 145) C dX9_eased_81 (by decide) ?_
                  refine kp_iinc (k := 4) (lv' := fun x4_4 => [(4, kp_iv x4_4), (0, .ref (kp_ad X 0)), (1, kp_iv a1), (2, kp_iv a2), (3, kp_iv x3_1)]) C dX9_eased_145 hl rfl (by decide) (fun _ => rfl) hF (fun x4_4 ls hl hF => ?_)
                  refine kp_goto (tgt := 31) C dX9_eased_148 (by decide) ?_
                  exact ih _ _ _ k _ _ _ h (lv_sub hl [1, 2, 3, 4, 0] rfl) K hF
        refine L31 kp_fu _ _ _ _ _ _ _ h (lv_sub hl [2, 3, 4, 1, 0] rfl) (fun x3_2 σ_4 H locs ls h hl hF => ?_) hF
        clear L31
        refine kp_iload_n C dX9_eased_151 rfl (lv_at hl 0 rfl) ?_
        exact kp_reti C hr hlk G h dX9_eased_152 hF
      · refine kp_bipush C dX9_eased_19 rfl ?_
        exact kp_reti C hr hlk G h dX9_eased_21 hF
  · refine kp_iconst C dX9_eased_7 ?_
    exact kp_reti C hr hlk G h dX9_eased_8 hF
def kf_X9_parted  (a1 : Int) (a2 : Int) (σ_0 : kp_W) : kp_R :=
  kp_bd (kf_X3_has a1 σ_0) (fun r_0 σ_1 => kp_eq r_0 0 (some ((-9223372036854775808), σ_1)) (kp_bd (kf_X3_has a2 σ_1) (fun r_1 σ_2 => kp_eq r_1 0 (some ((-9223372036854775808), σ_2)) (kp_eq a1 a2 (some ((-9223372036854775808), σ_2)) (kp_bd (kf_X9_settle σ_2) (fun r_2 σ_3 => kp_bd (kf_X6_knockingOf a1 σ_3) (fun r_3 σ_4 => kp_bd (kf_X6_knockingOf a2 σ_4) (fun r_4 σ_5 => some ((kp_xorL r_3 r_4), σ_5)))))))))
set_option maxRecDepth 100000 in
set_option maxHeartbeats 4000000 in
theorem kc_X9_parted {l : Launch} {X : kp_X} {a1 : Int} {a2 : Int}  {σ_0 σ' : kp_W} {r : Int}   (hF : (kf_X9_parted a1 a2 σ_0) = some (r, σ')) : kp_Met l yX9_parted cX9_parted 3 (some .long) 6 X kp_lK 58 σ_0 [.ref (kp_ad X 0), kp_iv a1, kp_iv a2] (kp_Ql X kp_lK 58 σ' r) := by
  refine kp_body pnX9 (Nat.le_of_ble_eq_true rfl) ?_
  intro p e s m args below meth c ls C hr hlk G h hl
  unfold kf_X9_parted at hF
  have hl : lv_has ls 3 [(0, .ref (kp_ad X 0)), (1, kp_iv a1), (2, kp_iv a2)] := hl
  refine kp_aload_n C dX9_parted_0 rfl (lv_at hl 0 rfl) ?_
  refine kp_getr C G h kp_lK0 rfl inWX9 (j := 0) (by decide) q2_14 rfl dX9_parted_1 ?_
  refine kp_getr C G h kp_lK1 rfl inWX1 (j := 3) (by decide) q1_164 rfl dX9_parted_4 ?_
  refine kp_iload_n C dX9_parted_7 rfl (lv_at hl 1 rfl) ?_
  obtain ⟨r_0, σ_1, hc, hF⟩ := kp_bd_s hF
  refine kp_ci h (kp_rV (k := 11) (As := [kp_iv a1]) (rest := []) C G h (kc_X3_has  hc) q3_53 q3_54 q3_55 q1_6 q3_56 ⟨rfl, hd_X3_has⟩ (by decide) kp_lK11 rfl rfl hl.1 rfl (Nat.le_of_ble_eq_true rfl) dX9_parted_8) (fun H locs h => ?_)
  refine kp_if_eq (tgt := 33) C dX9_parted_11 (by decide) hF (fun hF => ?_) (fun hF => ?_)
  · refine kp_ldc2 (n := (-9223372036854775808)) C q3_208 rfl dX9_parted_33 ?_
    exact kp_retl C hr hlk G h dX9_parted_36 hF
  · refine kp_aload_n C dX9_parted_14 rfl (lv_at hl 0 rfl) ?_
    refine kp_getr C G h kp_lK0 rfl inWX9 (j := 0) (by decide) q2_14 rfl dX9_parted_15 ?_
    refine kp_getr C G h kp_lK1 rfl inWX1 (j := 3) (by decide) q1_164 rfl dX9_parted_18 ?_
    refine kp_iload_n C dX9_parted_21 rfl (lv_at hl 2 rfl) ?_
    obtain ⟨r_1, σ_2, hc, hF⟩ := kp_bd_s hF
    refine kp_ci h (kp_rV (k := 11) (As := [kp_iv a2]) (rest := []) C G h (kc_X3_has  hc) q3_53 q3_54 q3_55 q1_6 q3_56 ⟨rfl, hd_X3_has⟩ (by decide) kp_lK11 rfl rfl hl.1 rfl (Nat.le_of_ble_eq_true rfl) dX9_parted_22) (fun H locs h => ?_)
    refine kp_if_eq (tgt := 33) C dX9_parted_25 (by decide) hF (fun hF => ?_) (fun hF => ?_)
    · refine kp_ldc2 (n := (-9223372036854775808)) C q3_208 rfl dX9_parted_33 ?_
      exact kp_retl C hr hlk G h dX9_parted_36 hF
    · refine kp_iload_n C dX9_parted_28 rfl (lv_at hl 1 rfl) ?_
      refine kp_iload_n C dX9_parted_29 rfl (lv_at hl 2 rfl) ?_
      refine kp_icmp_ne (tgt := 37) C dX9_parted_30 (by decide) hF (fun hF => ?_) (fun hF => ?_)
      · refine kp_aload_n C dX9_parted_37 rfl (lv_at hl 0 rfl) ?_
        obtain ⟨r_2, σ_3, hc, hF⟩ := kp_bd_s hF
        refine kp_cv h (kp_rV (k := 0) (As := []) (rest := []) C G h (kc_X9_settle  hc) q2_194 q2_196 q0_1_11 q1_1 q2_197 ⟨rfl, hd_X9_settle⟩ (by decide) kp_lK0 rfl rfl hl.1 rfl (Nat.le_of_ble_eq_true rfl) dX9_parted_38) (fun H locs h => ?_)
        refine kp_aload_n C dX9_parted_41 rfl (lv_at hl 0 rfl) ?_
        refine kp_getr C G h kp_lK0 rfl inWX9 (j := 4) (by decide) q2_18 rfl dX9_parted_42 ?_
        refine kp_iload_n C dX9_parted_45 rfl (lv_at hl 1 rfl) ?_
        obtain ⟨r_3, σ_4, hc, hF⟩ := kp_bd_s hF
        refine kp_cl' h (kp_rV (k := 48) (As := [kp_iv a1]) (rest := []) C G h (kc_X6_knockingOf  hc) q3_209 q3_210 q3_211 q1_9 q3_212 ⟨rfl, hd_X6_knockingOf⟩ (by decide) kp_lK48 rfl rfl hl.1 rfl (Nat.le_of_ble_eq_true rfl) dX9_parted_46) (fun H locs h => ?_)
        refine kp_aload_n C dX9_parted_49 rfl (lv_at hl 0 rfl) ?_
        refine kp_getr C G h kp_lK0 rfl inWX9 (j := 4) (by decide) q2_18 rfl dX9_parted_50 ?_
        refine kp_iload_n C dX9_parted_53 rfl (lv_at hl 2 rfl) ?_
        obtain ⟨r_4, σ_5, hc, hF⟩ := kp_bd_s hF
        refine kp_cl' h (kp_rV (k := 48) (As := [kp_iv a2]) (rest := [kp_jv r_3]) C G h (kc_X6_knockingOf  hc) q3_209 q3_210 q3_211 q1_9 q3_212 ⟨rfl, hd_X6_knockingOf⟩ (by decide) kp_lK48 rfl rfl hl.1 rfl (Nat.le_of_ble_eq_true rfl) dX9_parted_54) (fun H locs h => ?_)
        refine kp_xlxor C dX9_parted_57 ?_
        exact kp_retl C hr hlk G h dX9_parted_58 hF
      · refine kp_ldc2 (n := (-9223372036854775808)) C q3_208 rfl dX9_parted_33 ?_
        exact kp_retl C hr hlk G h dX9_parted_36 hF
def kl_X9_quiet_26  : Nat → Int → Int → kp_W → (Int → kp_W → kp_R) → kp_R
  | 0, _, _, _, _ => none
  | n + 1, x2_1, x3_1, σ_3, k => kp_ls x3_1 (σ_3 11 5) (kp_bd (kf_X3_isLoose x3_1 σ_3) (fun r_2 σ_6 => kp_eq r_2 0 (kp_lt (x3_1 + 1) (fun x3_2 => kl_X9_quiet_26 n x2_1 x3_2 σ_6 k)) (kp_bd (kf_X6_knockingOf x3_1 σ_6) (fun r_3 σ_7 => kp_ck (kp_inL r_3 ∧ kp_inL 0) (kp_eq (kp_cmp r_3 0) 0 (kp_lt (x3_1 + 1) (fun x3_3 => kl_X9_quiet_26 n x2_1 x3_3 σ_7 k)) (kp_ck (0 ≤ x3_1 ∧ x3_1 < 32) (kp_lt ((kp_or x2_1 (1 * 2 ^ (Int.toNat x3_1))) : Int) (fun x2_3 => kp_lt (x3_1 + 1) (fun x3_4 => kl_X9_quiet_26 n x2_3 x3_4 σ_7 k))))))))) (k x2_1 σ_3)
def kf_X9_quiet  (a1 : Int) (σ_0 : kp_W) : kp_R :=
  kp_ls a1 0 (some ((-1), σ_0)) (kp_ls 1 a1 (some ((-1), σ_0)) (kp_bd (kf_X9_settle σ_0) (fun r_0 σ_1 => kp_bd (kf_X9_ring 0 0 0 σ_1) (fun r_1 σ_2 => kp_lt (0 : Int) (fun x2_0 => kp_lt (0 : Int) (fun x3_0 => kl_X9_quiet_26 kp_fu x2_0 x3_0 σ_2 (fun (x2_2 : Int) (σ_4 : kp_W) => kp_lt (kp_up σ_4 0 6 0) (fun σ_5 => kp_eq a1 1 (some (x2_2, σ_5)) (kp_eq x2_2 0 (some (1, σ_5)) (some (0, σ_5)))))))))))
set_option maxRecDepth 100000 in
set_option maxHeartbeats 4000000 in
theorem kc_X9_quiet {l : Launch} {X : kp_X} {a1 : Int}  {σ_0 σ' : kp_W} {r : Int}   (hF : (kf_X9_quiet a1 σ_0) = some (r, σ')) : kp_Met l yX9_quiet cX9_quiet 4 (some .int) 6 X kp_lK 58 σ_0 [.ref (kp_ad X 0), kp_iv a1] (kp_Qi X kp_lK 58 σ' r) := by
  refine kp_body pnX9 (Nat.le_of_ble_eq_true rfl) ?_
  intro p e s m args below meth c ls C hr hlk G h hl
  unfold kf_X9_quiet at hF
  have hl : lv_has ls 4 [(0, .ref (kp_ad X 0)), (1, kp_iv a1)] := hl
  refine kp_iload_n C dX9_quiet_0 rfl (lv_at hl 1 rfl) ?_
  refine kp_if_lt (tgt := 9) C dX9_quiet_1 (by decide) hF (fun hF => ?_) (fun hF => ?_)
  · refine kp_iconst C dX9_quiet_9 ?_
    exact kp_reti C hr hlk G h dX9_quiet_10 hF
  · refine kp_iload_n C dX9_quiet_4 rfl (lv_at hl 1 rfl) ?_
    refine kp_iconst C dX9_quiet_5 ?_
    refine kp_icmp_le (tgt := 11) C dX9_quiet_6 (by decide) hF (fun hF => ?_) (fun hF => ?_)
    · refine kp_aload_n C dX9_quiet_11 rfl (lv_at hl 0 rfl) ?_
      obtain ⟨r_0, σ_1, hc, hF⟩ := kp_bd_s hF
      refine kp_cv h (kp_rV (k := 0) (As := []) (rest := []) C G h (kc_X9_settle  hc) q2_194 q2_196 q0_1_11 q1_1 q2_197 ⟨rfl, hd_X9_settle⟩ (by decide) kp_lK0 rfl rfl hl.1 rfl (Nat.le_of_ble_eq_true rfl) dX9_quiet_12) (fun H locs h => ?_)
      refine kp_aload_n C dX9_quiet_15 rfl (lv_at hl 0 rfl) ?_
      refine kp_lconst (v := 0) C dX9_quiet_16 rfl ?_
      refine kp_lconst (v := 0) C dX9_quiet_17 rfl ?_
      refine kp_lconst (v := 0) C dX9_quiet_18 rfl ?_
      obtain ⟨r_1, σ_2, hc, hF⟩ := kp_bd_s hF
      refine kp_cv h (kp_rV (k := 0) (As := [kp_jv 0, kp_jv 0, kp_jv 0]) (rest := []) C G h (kc_X9_ring  hc) q2_234 q2_236 q0_1_13 q1_1 q2_237 ⟨rfl, hd_X9_ring⟩ (by decide) kp_lK0 rfl rfl hl.1 rfl (Nat.le_of_ble_eq_true rfl) dX9_quiet_19) (fun H locs h => ?_)
      refine kp_iconst C dX9_quiet_22 ?_
      refine kp_istore_n (lv' := fun x2_0 => [(2, kp_iv x2_0), (0, .ref (kp_ad X 0)), (1, kp_iv a1)]) C dX9_quiet_23 rfl hl (by decide) (fun _ => rfl) hF (fun x2_0 ls hl hF => ?_)
      refine kp_iconst C dX9_quiet_24 ?_
      refine kp_istore_n (lv' := fun x3_0 => [(3, kp_iv x3_0), (2, kp_iv x2_0), (0, .ref (kp_ad X 0)), (1, kp_iv a1)]) C dX9_quiet_25 rfl hl (by decide) (fun _ => rfl) hF (fun x3_0 ls hl hF => ?_)
      have L26 : ∀ (n : Nat) (x2_1 : Int) (x3_1 : Int) (σ_3 : kp_W) (k : Int → kp_W → kp_R) (H : Heap) (locs : List Loc) (ls : Array Slot), kp_H X kp_lK 58 s σ_3 H locs → lv_has ls 4 [(0, .ref (kp_ad X 0)), (1, kp_iv a1), (2, kp_iv x2_1), (3, kp_iv x3_1)] → (∀ (x2_2 : Int) (σ_4 : kp_W) (H : Heap) (locs : List Loc) (ls : Array Slot), kp_H X kp_lK 58 s σ_4 H locs → lv_has ls 4 [(0, .ref (kp_ad X 0)), (1, kp_iv a1), (2, kp_iv x2_2)] → k x2_2 σ_4 = some (r, σ') → W p l e (kp_rm 6) s m args below meth c H locs 0 0 (MQ below (kp_Qi X kp_lK 58 σ' r) args s 0 0 (kp_A X 58)) (F0 m 79 ls [])) → kl_X9_quiet_26 n x2_1 x3_1 σ_3 k = some (r, σ') → W p l e (kp_rm 6) s m args below meth c H locs 0 0 (MQ below (kp_Qi X kp_lK 58 σ' r) args s 0 0 (kp_A X 58)) (F0 m 26 ls []) := by
        intro n
        induction n with
        | zero =>
          intro x2_1 x3_1 σ_3 k H locs ls h hl K hF
          rw [kl_X9_quiet_26] at hF
          cases hF
        | succ n ih =>
          intro x2_1 x3_1 σ_3 k H locs ls h hl K hF
          rw [kl_X9_quiet_26] at hF
          refine kp_iload_n C dX9_quiet_26 rfl (lv_at hl 3 rfl) ?_
          refine kp_aload_n C dX9_quiet_27 rfl (lv_at hl 0 rfl) ?_
          refine kp_getr C G h kp_lK0 rfl inWX9 (j := 0) (by decide) q2_14 rfl dX9_quiet_28 ?_
          refine kp_getr C G h kp_lK1 rfl inWX1 (j := 3) (by decide) q1_164 rfl dX9_quiet_31 ?_
          refine kp_geti C G h kp_lK11 rfl inWX3 (j := 5) (by decide) q1_120 rfl dX9_quiet_34 ?_
          refine kp_icmp_ge (tgt := 79) C dX9_quiet_37 (by decide) hF (fun hF => ?_) (fun hF => ?_)
          · exact K _ _ _ _ _ h (lv_sub hl [0, 1, 2] rfl) hF
          · refine kp_aload_n C dX9_quiet_40 rfl (lv_at hl 0 rfl) ?_
            refine kp_getr C G h kp_lK0 rfl inWX9 (j := 0) (by decide) q2_14 rfl dX9_quiet_41 ?_
            refine kp_getr C G h kp_lK1 rfl inWX1 (j := 3) (by decide) q1_164 rfl dX9_quiet_44 ?_
            refine kp_iload_n C dX9_quiet_47 rfl (lv_at hl 3 rfl) ?_
            obtain ⟨r_2, σ_6, hc, hF⟩ := kp_bd_s hF
            refine kp_ci h (kp_rV (k := 11) (As := [kp_iv x3_1]) (rest := []) C G h (kc_X3_isLoose  hc) q3_67 q3_68 q3_69 q1_6 q3_70 ⟨rfl, hd_X3_isLoose⟩ (by decide) kp_lK11 rfl rfl hl.1 rfl (Nat.le_of_ble_eq_true rfl) dX9_quiet_48) (fun H locs h => ?_)
            refine kp_if_eq (tgt := 73) C dX9_quiet_51 (by decide) hF (fun hF => ?_) (fun hF => ?_)
            · refine kp_iinc (k := 3) (lv' := fun x3_2 => [(3, kp_iv x3_2), (0, .ref (kp_ad X 0)), (1, kp_iv a1), (2, kp_iv x2_1)]) C dX9_quiet_73 hl rfl (by decide) (fun _ => rfl) hF (fun x3_2 ls hl hF => ?_)
              refine kp_goto (tgt := 26) C dX9_quiet_76 (by decide) ?_
              exact ih _ _ _ k _ _ _ h (lv_sub hl [1, 2, 3, 0] rfl) K hF
            · refine kp_aload_n C dX9_quiet_54 rfl (lv_at hl 0 rfl) ?_
              refine kp_getr C G h kp_lK0 rfl inWX9 (j := 4) (by decide) q2_18 rfl dX9_quiet_55 ?_
              refine kp_iload_n C dX9_quiet_58 rfl (lv_at hl 3 rfl) ?_
              obtain ⟨r_3, σ_7, hc, hF⟩ := kp_bd_s hF
              refine kp_cl' h (kp_rV (k := 48) (As := [kp_iv x3_1]) (rest := []) C G h (kc_X6_knockingOf  hc) q3_209 q3_210 q3_211 q1_9 q3_212 ⟨rfl, hd_X6_knockingOf⟩ (by decide) kp_lK48 rfl rfl hl.1 rfl (Nat.le_of_ble_eq_true rfl) dX9_quiet_59) (fun H locs h => ?_)
              refine kp_lconst (v := 0) C dX9_quiet_62 rfl ?_
              refine kp_xlcmp C dX9_quiet_63 hF (fun hF => ?_)
              refine kp_if_eq (tgt := 73) C dX9_quiet_64 (by decide) hF (fun hF => ?_) (fun hF => ?_)
              · refine kp_iinc (k := 3) (lv' := fun x3_3 => [(3, kp_iv x3_3), (0, .ref (kp_ad X 0)), (1, kp_iv a1), (2, kp_iv x2_1)]) C dX9_quiet_73 hl rfl (by decide) (fun _ => rfl) hF (fun x3_3 ls hl hF => ?_)
                refine kp_goto (tgt := 26) C dX9_quiet_76 (by decide) ?_
                exact ih _ _ _ k _ _ _ h (lv_sub hl [1, 2, 3, 0] rfl) K hF
              · refine kp_iload_n C dX9_quiet_67 rfl (lv_at hl 2 rfl) ?_
                refine kp_iconst C dX9_quiet_68 ?_
                refine kp_iload_n C dX9_quiet_69 rfl (lv_at hl 3 rfl) ?_
                refine kp_xishl C dX9_quiet_70 hF (fun hF => ?_)
                refine kp_xior C dX9_quiet_71 ?_
                refine kp_istore_n (lv' := fun x2_3 => [(2, kp_iv x2_3), (0, .ref (kp_ad X 0)), (1, kp_iv a1), (3, kp_iv x3_1)]) C dX9_quiet_72 rfl hl (by decide) (fun _ => rfl) hF (fun x2_3 ls hl hF => ?_)
                refine kp_iinc (k := 3) (lv' := fun x3_4 => [(3, kp_iv x3_4), (2, kp_iv x2_3), (0, .ref (kp_ad X 0)), (1, kp_iv a1)]) C dX9_quiet_73 hl rfl (by decide) (fun _ => rfl) hF (fun x3_4 ls hl hF => ?_)
                refine kp_goto (tgt := 26) C dX9_quiet_76 (by decide) ?_
                exact ih _ _ _ k _ _ _ h (lv_sub hl [2, 3, 1, 0] rfl) K hF
      refine L26 kp_fu _ _ _ _ _ _ _ h (lv_sub hl [2, 3, 1, 0] rfl) (fun x2_2 σ_4 H locs ls h hl hF => ?_) hF
      clear L26
      refine kp_aload_n C dX9_quiet_79 rfl (lv_at hl 0 rfl) ?_
      refine kp_iconst C dX9_quiet_80 ?_
      have hF := kp_ck_i (c := (0 : Int) = 0 ∨ (0 : Int) = 1) (by decide) hF
      refine kp_putz C G h kp_lK0 rfl inWX9 tyX9 tyX9_ok nmX9 (j := 6) (by decide) q2_20 rfl rfl (by decide +kernel) dX9_quiet_81 hF (fun σ_5 H locs h hF => ?_)
      refine kp_iload_n C dX9_quiet_84 rfl (lv_at hl 1 rfl) ?_
      refine kp_iconst C dX9_quiet_85 ?_
      refine kp_icmp_ne (tgt := 91) C dX9_quiet_86 (by decide) hF (fun hF => ?_) (fun hF => ?_)
      · refine kp_iload_n C dX9_quiet_91 rfl (lv_at hl 2 rfl) ?_
        refine kp_if_ne (tgt := 99) C dX9_quiet_92 (by decide) hF (fun hF => ?_) (fun hF => ?_)
        · refine kp_iconst C dX9_quiet_99 ?_
          exact kp_reti C hr hlk G h dX9_quiet_100 hF
        · refine kp_iconst C dX9_quiet_95 ?_
          refine kp_goto (tgt := 100) C dX9_quiet_96 (by decide) ?_
          exact kp_reti C hr hlk G h dX9_quiet_100 hF
      · refine kp_iload_n C dX9_quiet_89 rfl (lv_at hl 2 rfl) ?_
        exact kp_reti C hr hlk G h dX9_quiet_90 hF
    · refine kp_iconst C dX9_quiet_9 ?_
      exact kp_reti C hr hlk G h dX9_quiet_10 hF
def kl_X9_moved_65 (a1 : Int) (a2 : Int) : Nat → Int → Int → Int → kp_W → (Int → kp_W → kp_R) → kp_R
  | 0, _, _, _, _, _ => none
  | n + 1, x4_1, x5_1, x6_1, σ_5, k => kp_ls x6_1 10 (kp_ck (0 ≤ a1 ∧ a1 < 10) (kp_lt (kp_up σ_5 13 (Int.toNat a1) x6_1) (fun σ_9 => kp_bd (kf_X6_read a1 σ_9) (fun r_4 σ_10 => kp_bd (kf_X6_knock a1 (σ_10 2 1) (σ_10 2 2) σ_10) (fun r_5 σ_11 => kp_bd (kf_X9_heardInDayOf a1 a2 σ_11) (fun r_6 σ_12 => kp_lt (r_6 : Int) (fun x7_0 => kp_jn (fun (x6_2 : Int) => kp_lt (x7_0 : Int) (fun x5_2 => kp_lt (x6_2 : Int) (fun x4_3 => kp_lt (x6_2 + 1) (fun x6_3 => kl_X9_moved_65 a1 a2 n x4_3 x5_2 x6_3 σ_12 k)))) (fun j161 => kp_eq x6_1 0 (j161 x6_1) (kp_ls x7_0 x5_1 (j161 x6_1) (kp_lt (x6_1 + 1) (fun x6_4 => kl_X9_moved_65 a1 a2 n x4_1 x5_1 x6_4 σ_12 k))))))))))) (k x4_1 σ_5)
def kf_X9_moved  (a1 : Int) (a2 : Int) (σ_0 : kp_W) : kp_R :=
  kp_bd (kf_X3_has a1 σ_0) (fun r_0 σ_1 => kp_eq r_0 0 (some ((-1), σ_1)) (kp_bd (kf_X9_isPlace a2 σ_1) (fun r_1 σ_2 => kp_eq r_1 0 (some ((-1), σ_2)) (kp_bd (kf_X3_isLoose a1 σ_2) (fun r_2 σ_3 => kp_eq r_2 0 (some (0, σ_3)) (kp_bd (kf_X9_settle σ_3) (fun r_3 σ_4 => kp_ck (0 ≤ a1 ∧ a1 < 10) (kp_lt ((σ_4 13 (Int.toNat a1)) : Int) (fun x3_0 => kp_lt (0 : Int) (fun x4_0 => kp_lt (0 : Int) (fun x5_0 => kp_lt (0 : Int) (fun x6_0 => kl_X9_moved_65 a1 a2 kp_fu x4_0 x5_0 x6_0 σ_4 (fun (x4_2 : Int) (σ_6 : kp_W) => kp_ck (0 ≤ a1 ∧ a1 < 10) (kp_lt (kp_up σ_6 13 (Int.toNat a1) x3_0) (fun σ_7 => kp_lt (kp_up σ_7 0 6 0) (fun σ_8 => some (x4_2, σ_8)))))))))))))))))
set_option maxRecDepth 100000 in
set_option maxHeartbeats 4000000 in
theorem kc_X9_moved {l : Launch} {X : kp_X} {a1 : Int} {a2 : Int}  {σ_0 σ' : kp_W} {r : Int}   (hF : (kf_X9_moved a1 a2 σ_0) = some (r, σ')) : kp_Met l yX9_moved cX9_moved 8 (some .int) 6 X kp_lK 58 σ_0 [.ref (kp_ad X 0), kp_iv a1, kp_iv a2] (kp_Qi X kp_lK 58 σ' r) := by
  refine kp_body pnX9 (Nat.le_of_ble_eq_true rfl) ?_
  intro p e s m args below meth c ls C hr hlk G h hl
  unfold kf_X9_moved at hF
  have hl : lv_has ls 8 [(0, .ref (kp_ad X 0)), (1, kp_iv a1), (2, kp_iv a2)] := hl
  refine kp_aload_n C dX9_moved_0 rfl (lv_at hl 0 rfl) ?_
  refine kp_getr C G h kp_lK0 rfl inWX9 (j := 0) (by decide) q2_14 rfl dX9_moved_1 ?_
  refine kp_getr C G h kp_lK1 rfl inWX1 (j := 3) (by decide) q1_164 rfl dX9_moved_4 ?_
  refine kp_iload_n C dX9_moved_7 rfl (lv_at hl 1 rfl) ?_
  obtain ⟨r_0, σ_1, hc, hF⟩ := kp_bd_s hF
  refine kp_ci h (kp_rV (k := 11) (As := [kp_iv a1]) (rest := []) C G h (kc_X3_has  hc) q3_53 q3_54 q3_55 q1_6 q3_56 ⟨rfl, hd_X3_has⟩ (by decide) kp_lK11 rfl rfl hl.1 rfl (Nat.le_of_ble_eq_true rfl) dX9_moved_8) (fun H locs h => ?_)
  refine kp_if_eq (tgt := 21) C dX9_moved_11 (by decide) hF (fun hF => ?_) (fun hF => ?_)
  · refine kp_iconst C dX9_moved_21 ?_
    exact kp_reti C hr hlk G h dX9_moved_22 hF
  · refine kp_iload_n C dX9_moved_14 rfl (lv_at hl 2 rfl) ?_
    obtain ⟨r_1, σ_2, hc, hF⟩ := kp_bd_s hF
    refine kp_ci h (kp_rS (As := [kp_iv a2]) (rest := []) C G h (kc_X9_isPlace  hc) q3_42 q3_43 q1_1 q3_44 hd_X9_isPlace (by decide) rfl hl.1 rfl (Nat.le_of_ble_eq_true rfl) dX9_moved_15) (fun H locs h => ?_)
    refine kp_if_ne (tgt := 23) C dX9_moved_18 (by decide) hF (fun hF => ?_) (fun hF => ?_)
    · refine kp_aload_n C dX9_moved_23 rfl (lv_at hl 0 rfl) ?_
      refine kp_getr C G h kp_lK0 rfl inWX9 (j := 0) (by decide) q2_14 rfl dX9_moved_24 ?_
      refine kp_getr C G h kp_lK1 rfl inWX1 (j := 3) (by decide) q1_164 rfl dX9_moved_27 ?_
      refine kp_iload_n C dX9_moved_30 rfl (lv_at hl 1 rfl) ?_
      obtain ⟨r_2, σ_3, hc, hF⟩ := kp_bd_s hF
      refine kp_ci h (kp_rV (k := 11) (As := [kp_iv a1]) (rest := []) C G h (kc_X3_isLoose  hc) q3_67 q3_68 q3_69 q1_6 q3_70 ⟨rfl, hd_X3_isLoose⟩ (by decide) kp_lK11 rfl rfl hl.1 rfl (Nat.le_of_ble_eq_true rfl) dX9_moved_31) (fun H locs h => ?_)
      refine kp_if_ne (tgt := 39) C dX9_moved_34 (by decide) hF (fun hF => ?_) (fun hF => ?_)
      · refine kp_aload_n C dX9_moved_39 rfl (lv_at hl 0 rfl) ?_
        obtain ⟨r_3, σ_4, hc, hF⟩ := kp_bd_s hF
        refine kp_cv h (kp_rV (k := 0) (As := []) (rest := []) C G h (kc_X9_settle  hc) q2_194 q2_196 q0_1_11 q1_1 q2_197 ⟨rfl, hd_X9_settle⟩ (by decide) kp_lK0 rfl rfl hl.1 rfl (Nat.le_of_ble_eq_true rfl) dX9_moved_40) (fun H locs h => ?_)
        refine kp_aload_n C dX9_moved_43 rfl (lv_at hl 0 rfl) ?_
        refine kp_getr C G h kp_lK0 rfl inWX9 (j := 0) (by decide) q2_14 rfl dX9_moved_44 ?_
        refine kp_getr C G h kp_lK1 rfl inWX1 (j := 3) (by decide) q1_164 rfl dX9_moved_47 ?_
        refine kp_getr C G h kp_lK11 rfl inWX3 (j := 1) (by decide) q1_109 rfl dX9_moved_50 ?_
        refine kp_iload_n C dX9_moved_53 rfl (lv_at hl 1 rfl) ?_
        refine kp_iald C G h (n := 10) kp_lK13 (by decide) dX9_moved_54 hF (fun hF => ?_)
        refine kp_istore_n (lv' := fun x3_0 => [(3, kp_iv x3_0), (0, .ref (kp_ad X 0)), (1, kp_iv a1), (2, kp_iv a2)]) C dX9_moved_55 rfl hl (by decide) (fun _ => rfl) hF (fun x3_0 ls hl hF => ?_)
        refine kp_iconst C dX9_moved_56 ?_
        refine kp_istore (lv' := fun x4_0 => [(4, kp_iv x4_0), (3, kp_iv x3_0), (0, .ref (kp_ad X 0)), (1, kp_iv a1), (2, kp_iv a2)]) C dX9_moved_57 hl (by decide) (fun _ => rfl) hF (fun x4_0 ls hl hF => ?_)
        refine kp_iconst C dX9_moved_59 ?_
        refine kp_istore (lv' := fun x5_0 => [(5, kp_iv x5_0), (4, kp_iv x4_0), (3, kp_iv x3_0), (0, .ref (kp_ad X 0)), (1, kp_iv a1), (2, kp_iv a2)]) C dX9_moved_60 hl (by decide) (fun _ => rfl) hF (fun x5_0 ls hl hF => ?_)
        refine kp_iconst C dX9_moved_62 ?_
        refine kp_istore (lv' := fun x6_0 => [(6, kp_iv x6_0), (5, kp_iv x5_0), (4, kp_iv x4_0), (3, kp_iv x3_0), (0, .ref (kp_ad X 0)), (1, kp_iv a1), (2, kp_iv a2)]) C dX9_moved_63 hl (by decide) (fun _ => rfl) hF (fun x6_0 ls hl hF => ?_)
        have L65 : ∀ (n : Nat) (x4_1 : Int) (x5_1 : Int) (x6_1 : Int) (σ_5 : kp_W) (k : Int → kp_W → kp_R) (H : Heap) (locs : List Loc) (ls : Array Slot), kp_H X kp_lK 58 s σ_5 H locs → lv_has ls 8 [(0, .ref (kp_ad X 0)), (1, kp_iv a1), (2, kp_iv a2), (3, kp_iv x3_0), (4, kp_iv x4_1), (5, kp_iv x5_1), (6, kp_iv x6_1)] → (∀ (x4_2 : Int) (σ_6 : kp_W) (H : Heap) (locs : List Loc) (ls : Array Slot), kp_H X kp_lK 58 s σ_6 H locs → lv_has ls 8 [(0, .ref (kp_ad X 0)), (1, kp_iv a1), (3, kp_iv x3_0), (4, kp_iv x4_2)] → k x4_2 σ_6 = some (r, σ') → W p l e (kp_rm 6) s m args below meth c H locs 0 0 (MQ below (kp_Qi X kp_lK 58 σ' r) args s 0 0 (kp_A X 58)) (F0 m 175 ls [])) → kl_X9_moved_65 a1 a2 n x4_1 x5_1 x6_1 σ_5 k = some (r, σ') → W p l e (kp_rm 6) s m args below meth c H locs 0 0 (MQ below (kp_Qi X kp_lK 58 σ' r) args s 0 0 (kp_A X 58)) (F0 m 65 ls []) := by
          intro n
          induction n with
          | zero =>
            intro x4_1 x5_1 x6_1 σ_5 k H locs ls h hl K hF
            rw [kl_X9_moved_65] at hF
            cases hF
          | succ n ih =>
            intro x4_1 x5_1 x6_1 σ_5 k H locs ls h hl K hF
            rw [kl_X9_moved_65] at hF
            refine kp_iload C dX9_moved_65 (lv_at hl 6 rfl) ?_
            refine kp_bipush C dX9_moved_67 rfl ?_
            refine kp_icmp_ge (tgt := 175) C dX9_moved_69 (by decide) hF (fun hF => ?_) (fun hF => ?_)
            · exact K _ _ _ _ _ h (lv_sub hl [0, 1, 3, 4] rfl) hF
            · refine kp_aload_n C dX9_moved_72 rfl (lv_at hl 0 rfl) ?_
              refine kp_getr C G h kp_lK0 rfl inWX9 (j := 0) (by decide) q2_14 rfl dX9_moved_73 ?_
              refine kp_getr C G h kp_lK1 rfl inWX1 (j := 3) (by decide) q1_164 rfl dX9_moved_76 ?_
              refine kp_getr C G h kp_lK11 rfl inWX3 (j := 1) (by decide) q1_109 rfl dX9_moved_79 ?_
              refine kp_iload_n C dX9_moved_82 rfl (lv_at hl 1 rfl) ?_
              refine kp_iload C dX9_moved_83 (lv_at hl 6 rfl) ?_
              refine kp_iast C G h (n := 10) kp_lK13 (by decide) dX9_moved_85 hF (fun σ_9 H locs h hF => ?_)
              refine kp_aload_n C dX9_moved_86 rfl (lv_at hl 0 rfl) ?_
              refine kp_getr C G h kp_lK0 rfl inWX9 (j := 4) (by decide) q2_18 rfl dX9_moved_87 ?_
              refine kp_aload_n C dX9_moved_90 rfl (lv_at hl 0 rfl) ?_
              refine kp_getr C G h kp_lK0 rfl inWX9 (j := 0) (by decide) q2_14 rfl dX9_moved_91 ?_
              refine kp_getr C G h kp_lK1 rfl inWX1 (j := 2) (by decide) q1_162 rfl dX9_moved_94 ?_
              refine kp_aload_n C dX9_moved_97 rfl (lv_at hl 0 rfl) ?_
              refine kp_getr C G h kp_lK0 rfl inWX9 (j := 0) (by decide) q2_14 rfl dX9_moved_98 ?_
              refine kp_getr C G h kp_lK1 rfl inWX1 (j := 3) (by decide) q1_164 rfl dX9_moved_101 ?_
              refine kp_iload_n C dX9_moved_104 rfl (lv_at hl 1 rfl) ?_
              obtain ⟨r_4, σ_10, hc, hF⟩ := kp_bd_s hF
              refine kp_cv h (kp_rV (k := 48) (As := [.ref (kp_ad X 5), .ref (kp_ad X 11), kp_iv a1]) (rest := []) C G h (kc_X6_read  hc) q2_198 q2_199 q2_200 q1_9 q2_201 ⟨rfl, hd_X6_read⟩ (by decide) kp_lK48 rfl rfl hl.1 rfl (Nat.le_of_ble_eq_true rfl) dX9_moved_105) (fun H locs h => ?_)
              refine kp_aload_n C dX9_moved_108 rfl (lv_at hl 0 rfl) ?_
              refine kp_getr C G h kp_lK0 rfl inWX9 (j := 4) (by decide) q2_18 rfl dX9_moved_109 ?_
              refine kp_aload_n C dX9_moved_112 rfl (lv_at hl 0 rfl) ?_
              refine kp_getr C G h kp_lK0 rfl inWX9 (j := 0) (by decide) q2_14 rfl dX9_moved_113 ?_
              refine kp_getr C G h kp_lK1 rfl inWX1 (j := 3) (by decide) q1_164 rfl dX9_moved_116 ?_
              refine kp_iload_n C dX9_moved_119 rfl (lv_at hl 1 rfl) ?_
              refine kp_aload_n C dX9_moved_120 rfl (lv_at hl 0 rfl) ?_
              refine kp_getr C G h kp_lK0 rfl inWX9 (j := 0) (by decide) q2_14 rfl dX9_moved_121 ?_
              refine kp_getr C G h kp_lK1 rfl inWX1 (j := 0) (by decide) q1_158 rfl dX9_moved_124 ?_
              refine kp_iconst C dX9_moved_127 ?_
              refine kp_lald0 C G h (i := 1) (n := 3) kp_lK2 (by decide) (by decide) dX9_moved_128 ?_
              refine kp_aload_n C dX9_moved_129 rfl (lv_at hl 0 rfl) ?_
              refine kp_getr C G h kp_lK0 rfl inWX9 (j := 0) (by decide) q2_14 rfl dX9_moved_130 ?_
              refine kp_getr C G h kp_lK1 rfl inWX1 (j := 0) (by decide) q1_158 rfl dX9_moved_133 ?_
              refine kp_iconst C dX9_moved_136 ?_
              refine kp_lald0 C G h (i := 2) (n := 3) kp_lK2 (by decide) (by decide) dX9_moved_137 ?_
              obtain ⟨r_5, σ_11, hc, hF⟩ := kp_bd_s hF
              refine kp_cv h (kp_rV (k := 48) (As := [.ref (kp_ad X 11), kp_iv a1, kp_jv (σ_10 2 1), kp_jv (σ_10 2 2)]) (rest := []) C G h (kc_X6_knock  hc) q3_8 q3_9 q3_10 q1_9 q3_11 ⟨rfl, hd_X6_knock⟩ (by decide) kp_lK48 rfl rfl hl.1 rfl (Nat.le_of_ble_eq_true rfl) dX9_moved_138) (fun H locs h => ?_)
              refine kp_aload_n C dX9_moved_141 rfl (lv_at hl 0 rfl) ?_
              refine kp_iload_n C dX9_moved_142 rfl (lv_at hl 1 rfl) ?_
              refine kp_iload_n C dX9_moved_143 rfl (lv_at hl 2 rfl) ?_
              obtain ⟨r_6, σ_12, hc, hF⟩ := kp_bd_s hF
              refine kp_ci h (kp_rV (k := 0) (As := [kp_iv a1, kp_iv a2]) (rest := []) C G h (kc_X9_heardInDayOf  hc) q3_196 q3_198 q0_2_14 q1_1 q3_199 ⟨rfl, hd_X9_heardInDayOf⟩ (by decide) kp_lK0 rfl rfl hl.1 rfl (Nat.le_of_ble_eq_true rfl) dX9_moved_144) (fun H locs h => ?_)
              refine kp_istore (lv' := fun x7_0 => [(7, kp_iv x7_0), (0, .ref (kp_ad X 0)), (1, kp_iv a1), (2, kp_iv a2), (3, kp_iv x3_0), (4, kp_iv x4_1), (5, kp_iv x5_1), (6, kp_iv x6_1)]) C dX9_moved_147 hl (by decide) (fun _ => rfl) hF (fun x7_0 ls hl hF => ?_)
              refine kp_iload C dX9_moved_149 (lv_at hl 7 rfl) ?_
              obtain ⟨j161, ej161, hF⟩ := kp_jn_s hF
              have J161 : ∀ (x6_2 : Int), ∀ (H : Heap) (locs : List Loc) (ls : Array Slot), kp_H X kp_lK 58 s σ_12 H locs → lv_has ls 8 [(0, .ref (kp_ad X 0)), (1, kp_iv a1), (2, kp_iv a2), (3, kp_iv x3_0), (6, kp_iv x6_2), (7, kp_iv x7_0)] → j161 x6_2 = some (r, σ') → W p l e (kp_rm 6) s m args below meth c H locs 0 0 (MQ below (kp_Qi X kp_lK 58 σ' r) args s 0 0 (kp_A X 58)) (F0 m 161 ls []) := by
                intro x6_2 H locs ls h hl hF
                rw [ej161] at hF
                refine kp_iload C dX9_moved_161 (lv_at hl 5 rfl) ?_
                refine kp_istore (lv' := fun x5_2 => [(5, kp_iv x5_2), (0, .ref (kp_ad X 0)), (1, kp_iv a1), (2, kp_iv a2), (3, kp_iv x3_0), (6, kp_iv x6_2), (7, kp_iv x7_0)]) C dX9_moved_163 hl (by decide) (fun _ => rfl) hF (fun x5_2 ls hl hF => ?_)
                refine kp_iload C dX9_moved_165 (lv_at hl 5 rfl) ?_
                refine kp_istore (lv' := fun x4_3 => [(4, kp_iv x4_3), (5, kp_iv x5_2), (0, .ref (kp_ad X 0)), (1, kp_iv a1), (2, kp_iv a2), (3, kp_iv x3_0), (6, kp_iv x6_2), (7, kp_iv x7_0)]) C dX9_moved_167 hl (by decide) (fun _ => rfl) hF (fun x4_3 ls hl hF => ?_)
                refine kp_iinc (k := 6) (lv' := fun x6_3 => [(6, kp_iv x6_3), (4, kp_iv x4_3), (5, kp_iv x5_2), (0, .ref (kp_ad X 0)), (1, kp_iv a1), (2, kp_iv a2), (3, kp_iv x3_0), (7, kp_iv x7_0)]) C dX9_moved_169 hl rfl (by decide) (fun _ => rfl) hF (fun x6_3 ls hl hF => ?_)
                refine kp_goto (tgt := 65) C dX9_moved_172 (by decide) ?_
                exact ih _ _ _ _ k _ _ _ h (lv_sub hl [3, 4, 5, 6, 1, 2, 0] rfl) K hF
              clear ej161
              refine kp_if_eq (tgt := 161) C dX9_moved_151 (by decide) hF (fun hF => ?_) (fun hF => ?_)
              · exact J161 _ _ _ _ h (lv_sub hl [1, 2, 3, 4, 7, 0] rfl) hF
              · refine kp_iload C dX9_moved_154 (lv_at hl 0 rfl) ?_
                refine kp_iload C dX9_moved_156 (lv_at hl 6 rfl) ?_
                refine kp_icmp_ge (tgt := 169) C dX9_moved_158 (by decide) hF (fun hF => ?_) (fun hF => ?_)
                · refine kp_iinc (k := 7) (lv' := fun x6_4 => [(6, kp_iv x6_4), (7, kp_iv x7_0), (0, .ref (kp_ad X 0)), (1, kp_iv a1), (2, kp_iv a2), (3, kp_iv x3_0), (4, kp_iv x4_1), (5, kp_iv x5_1)]) C dX9_moved_169 hl rfl (by decide) (fun _ => rfl) hF (fun x6_4 ls hl hF => ?_)
                  refine kp_goto (tgt := 65) C dX9_moved_172 (by decide) ?_
                  exact ih _ _ _ _ k _ _ _ h (lv_sub hl [2, 3, 4, 5, 6, 7, 0] rfl) K hF
                · exact J161 _ _ _ _ h (lv_sub hl [1, 2, 3, 4, 7, 0] rfl) hF
        refine L65 kp_fu _ _ _ _ _ _ _ _ h (lv_sub hl [4, 5, 6, 3, 2, 1, 0] rfl) (fun x4_2 σ_6 H locs ls h hl hF => ?_) hF
        clear L65
        refine kp_aload_n C dX9_moved_175 rfl (lv_at hl 0 rfl) ?_
        refine kp_getr C G h kp_lK0 rfl inWX9 (j := 0) (by decide) q2_14 rfl dX9_moved_176 ?_
        refine kp_getr C G h kp_lK1 rfl inWX1 (j := 3) (by decide) q1_164 rfl dX9_moved_179 ?_
        refine kp_getr C G h kp_lK11 rfl inWX3 (j := 1) (by decide) q1_109 rfl dX9_moved_182 ?_
        refine kp_iload_n C dX9_moved_185 rfl (lv_at hl 1 rfl) ?_
        refine kp_iload_n C dX9_moved_186 rfl (lv_at hl 2 rfl) ?_
        refine kp_iast C G h (n := 10) kp_lK13 (by decide) dX9_moved_187 hF (fun σ_7 H locs h hF => ?_)
        refine kp_aload_n C dX9_moved_188 rfl (lv_at hl 0 rfl) ?_
        refine kp_iconst C dX9_moved_189 ?_
        have hF := kp_ck_i (c := (0 : Int) = 0 ∨ (0 : Int) = 1) (by decide) hF
        refine kp_putz C G h kp_lK0 rfl inWX9 tyX9 tyX9_ok nmX9 (j := 6) (by decide) q2_20 rfl rfl (by decide +kernel) dX9_moved_190 hF (fun σ_8 H locs h hF => ?_)
        refine kp_iload C dX9_moved_193 (lv_at hl 3 rfl) ?_
        exact kp_reti C hr hlk G h dX9_moved_195 hF
      · refine kp_iconst C dX9_moved_37 ?_
        exact kp_reti C hr hlk G h dX9_moved_38 hF
    · refine kp_iconst C dX9_moved_21 ?_
      exact kp_reti C hr hlk G h dX9_moved_22 hF
