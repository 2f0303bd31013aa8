-- by program (wip/whole/gen/drive.py)
def kl_X10_mostFitting_7  : Nat → Int → Int → Int → kp_W → (Int → kp_W → kp_R) → kp_R
  | 0, _, _, _, _, _ => none
  | n + 1, x1_1, x2_1, x3_1, σ_1, k => kp_ls x3_1 (σ_1 1 0) (kp_ck (0 ≤ x3_1 ∧ x3_1 < 32) (kp_bd (kf_X10_fitsOf (1 * 2 ^ (Int.toNat x3_1)) σ_1) (fun r_0 σ_3 => kp_bd (kf_X10_count1 r_0 σ_3) (fun r_1 σ_4 => kp_lt (r_1 : Int) (fun x4_0 => kp_jn (fun (v_0 : Int) => kp_lt (v_0 : Int) (fun x1_3 => kp_ls x2_1 x4_0 (kp_lt (x4_0 : Int) (fun x2_3 => kp_lt (x3_1 + 1) (fun x3_3 => kl_X10_mostFitting_7 n x1_3 x2_3 x3_3 σ_4 k))) (kp_lt (x2_1 : Int) (fun x2_2 => kp_lt (x3_1 + 1) (fun x3_2 => kl_X10_mostFitting_7 n x1_3 x2_2 x3_2 σ_4 k))))) (fun j40 => kp_ls x2_1 x4_0 (j40 x3_1) (j40 x1_1))))))) (k x1_1 σ_1)
def kf_X10_mostFitting   (σ_0 : kp_W) : kp_R :=
  kp_lt ((-5) : Int) (fun x1_0 => kp_lt ((-1) : Int) (fun x2_0 => kp_lt (0 : Int) (fun x3_0 => kl_X10_mostFitting_7 kp_fu x1_0 x2_0 x3_0 σ_0 (fun (x1_2 : Int) (σ_2 : kp_W) => some (x1_2, σ_2)))))
set_option maxRecDepth 100000 in
set_option maxHeartbeats 4000000 in
theorem kc_X10_mostFitting {l : Launch} {X : kp_X}  {σ_0 σ' : kp_W} {r : Int}   (hF : (kf_X10_mostFitting σ_0) = some (r, σ')) : kp_Met l yX10_mostFitting cX10_mostFitting 5 (some .int) 5 X kp_lM 10 σ_0 [.ref (kp_ad X 0)] (kp_Qi X kp_lM 10 σ' r) := by
  refine kp_body pnX10 (Nat.le_of_ble_eq_true rfl) ?_
  intro p e s m args below meth c ls C hr hlk G h hl
  unfold kf_X10_mostFitting at hF
  have hl : lv_has ls 5 [(0, .ref (kp_ad X 0))] := hl
  refine kp_bipush C dX10_mostFitting_0 rfl ?_
  refine kp_istore_n (lv' := fun x1_0 => [(1, kp_iv x1_0), (0, .ref (kp_ad X 0))]) C dX10_mostFitting_2 rfl hl (by decide) (fun _ => rfl) hF (fun x1_0 ls hl hF => ?_)
  refine kp_iconst C dX10_mostFitting_3 ?_
  refine kp_istore_n (lv' := fun x2_0 => [(2, kp_iv x2_0), (1, kp_iv x1_0), (0, .ref (kp_ad X 0))]) C dX10_mostFitting_4 rfl hl (by decide) (fun _ => rfl) hF (fun x2_0 ls hl hF => ?_)
  refine kp_iconst C dX10_mostFitting_5 ?_
  refine kp_istore_n (lv' := fun x3_0 => [(3, kp_iv x3_0), (2, kp_iv x2_0), (1, kp_iv x1_0), (0, .ref (kp_ad X 0))]) C dX10_mostFitting_6 rfl hl (by decide) (fun _ => rfl) hF (fun x3_0 ls hl hF => ?_)
  have L7 : ∀ (n : Nat) (x1_1 : Int) (x2_1 : Int) (x3_1 : Int) (σ_1 : kp_W) (k : Int → kp_W → kp_R) (H : Heap) (locs : List Loc) (ls : Array Slot), kp_H X kp_lM 10 s σ_1 H locs → lv_has ls 5 [(0, .ref (kp_ad X 0)), (1, kp_iv x1_1), (2, kp_iv x2_1), (3, kp_iv x3_1)] → (∀ (x1_2 : Int) (σ_2 : kp_W) (H : Heap) (locs : List Loc) (ls : Array Slot), kp_H X kp_lM 10 s σ_2 H locs → lv_has ls 5 [(1, kp_iv x1_2)] → k x1_2 σ_2 = some (r, σ') → W p l e (kp_rm 5) s m args below meth c H locs 0 0 (MQ below (kp_Qi X kp_lM 10 σ' r) args s 0 0 (kp_A X 10)) (F0 m 60 ls [])) → kl_X10_mostFitting_7 n x1_1 x2_1 x3_1 σ_1 k = some (r, σ') → W p l e (kp_rm 5) s m args below meth c H locs 0 0 (MQ below (kp_Qi X kp_lM 10 σ' r) args s 0 0 (kp_A X 10)) (F0 m 7 ls []) := by
    intro n
    induction n with
    | zero =>
      intro x1_1 x2_1 x3_1 σ_1 k H locs ls h hl K hF
      rw [kl_X10_mostFitting_7] at hF
      cases hF
    | succ n ih =>
      intro x1_1 x2_1 x3_1 σ_1 k H locs ls h hl K hF
      rw [kl_X10_mostFitting_7] at hF
      refine kp_iload_n C dX10_mostFitting_7 rfl (lv_at hl 3 rfl) ?_
      refine kp_aload_n C dX10_mostFitting_8 rfl (lv_at hl 0 rfl) ?_
      refine kp_getr C G h kp_lM0 rfl inWX10 (j := 1) (by decide) q4_45 rfl dX10_mostFitting_9 ?_
      refine kp_iconst C dX10_mostFitting_12 ?_
      refine kp_iald0 C G h (i := 0) (n := 1066) kp_lM1 (by decide) (by decide) dX10_mostFitting_13 ?_
      refine kp_icmp_ge (tgt := 60) C dX10_mostFitting_14 (by decide) hF (fun hF => ?_) (fun hF => ?_)
      · exact K _ _ _ _ _ h (lv_sub hl [1] rfl) hF
      · refine kp_aload_n C dX10_mostFitting_17 rfl (lv_at hl 0 rfl) ?_
        refine kp_iconst C dX10_mostFitting_18 ?_
        refine kp_iload_n C dX10_mostFitting_19 rfl (lv_at hl 3 rfl) ?_
        refine kp_xishl C dX10_mostFitting_20 hF (fun hF => ?_)
        obtain ⟨r_0, σ_3, hc, hF⟩ := kp_bd_s hF
        refine kp_ci h (kp_rV (k := 0) (As := [kp_iv (1 * 2 ^ (Int.toNat x3_1))]) (rest := []) C G h (kc_X10_fitsOf  hc) q5_94 q5_96 q0_4_14 q1_11 q5_97 ⟨rfl, hd_X10_fitsOf⟩ (by decide) kp_lM0 rfl rfl hl.1 rfl (Nat.le_of_ble_eq_true rfl) dX10_mostFitting_21) (fun H locs h => ?_)
        obtain ⟨r_1, σ_4, hc, hF⟩ := kp_bd_s hF
        refine kp_ci h (kp_rS (As := [kp_iv r_0]) (rest := []) C G h (kc_X10_count1  hc) q5_102 q5_103 q1_11 q5_104 hd_X10_count1 (by decide) rfl hl.1 rfl (Nat.le_of_ble_eq_true rfl) dX10_mostFitting_24) (fun H locs h => ?_)
        refine kp_istore (lv' := fun x4_0 => [(4, kp_iv x4_0), (0, .ref (kp_ad X 0)), (1, kp_iv x1_1), (2, kp_iv x2_1), (3, kp_iv x3_1)]) C dX10_mostFitting_27 hl (by decide) (fun _ => rfl) hF (fun x4_0 ls hl hF => ?_)
        refine kp_iload C dX10_mostFitting_29 (lv_at hl 0 rfl) ?_
        refine kp_iload_n C dX10_mostFitting_31 rfl (lv_at hl 3 rfl) ?_
        obtain ⟨j40, ej40, hF⟩ := kp_jn_s hF
        have J40 : ∀ (v_0 : Int), ∀ (H : Heap) (locs : List Loc) (ls : Array Slot), kp_H X kp_lM 10 s σ_4 H locs → lv_has ls 5 [(0, .ref (kp_ad X 0)), (2, kp_iv x2_1), (3, kp_iv x3_1), (4, kp_iv x4_0)] → j40 v_0 = some (r, σ') → W p l e (kp_rm 5) s m args below meth c H locs 0 0 (MQ below (kp_Qi X kp_lM 10 σ' r) args s 0 0 (kp_A X 10)) (F0 m 40 ls [kp_iv v_0]) := by
          intro v_0 H locs ls h hl hF
          rw [ej40] at hF
          refine kp_istore_n (lv' := fun x1_3 => [(1, kp_iv x1_3), (0, .ref (kp_ad X 0)), (2, kp_iv x2_1), (3, kp_iv x3_1), (4, kp_iv x4_0)]) C dX10_mostFitting_40 rfl hl (by decide) (fun _ => rfl) hF (fun x1_3 ls hl hF => ?_)
          refine kp_iload C dX10_mostFitting_41 (lv_at hl 4 rfl) ?_
          refine kp_iload_n C dX10_mostFitting_43 rfl (lv_at hl 2 rfl) ?_
          refine kp_icmp_le (tgt := 52) C dX10_mostFitting_44 (by decide) hF (fun hF => ?_) (fun hF => ?_)
          · refine kp_iload_n C dX10_mostFitting_52 rfl (lv_at hl 2 rfl) ?_
            refine kp_istore_n (lv' := fun x2_2 => [(2, kp_iv x2_2), (1, kp_iv x1_3), (0, .ref (kp_ad X 0)), (3, kp_iv x3_1), (4, kp_iv x4_0)]) C dX10_mostFitting_53 rfl hl (by decide) (fun _ => rfl) hF (fun x2_2 ls hl hF => ?_)
            refine kp_iinc (k := 3) (lv' := fun x3_2 => [(3, kp_iv x3_2), (2, kp_iv x2_2), (1, kp_iv x1_3), (0, .ref (kp_ad X 0)), (4, kp_iv x4_0)]) C dX10_mostFitting_54 hl rfl (by decide) (fun _ => rfl) hF (fun x3_2 ls hl hF => ?_)
            refine kp_goto (tgt := 7) C dX10_mostFitting_57 (by decide) ?_
            exact ih _ _ _ _ k _ _ _ h (lv_sub hl [3, 2, 1, 0] rfl) K hF
          · refine kp_iload C dX10_mostFitting_47 (lv_at hl 4 rfl) ?_
            refine kp_goto (tgt := 53) C dX10_mostFitting_49 (by decide) ?_
            refine kp_istore_n (lv' := fun x2_3 => [(2, kp_iv x2_3), (1, kp_iv x1_3), (0, .ref (kp_ad X 0)), (3, kp_iv x3_1), (4, kp_iv x4_0)]) C dX10_mostFitting_53 rfl hl (by decide) (fun _ => rfl) hF (fun x2_3 ls hl hF => ?_)
            refine kp_iinc (k := 3) (lv' := fun x3_3 => [(3, kp_iv x3_3), (2, kp_iv x2_3), (1, kp_iv x1_3), (0, .ref (kp_ad X 0)), (4, kp_iv x4_0)]) C dX10_mostFitting_54 hl rfl (by decide) (fun _ => rfl) hF (fun x3_3 ls hl hF => ?_)
            refine kp_goto (tgt := 7) C dX10_mostFitting_57 (by decide) ?_
            exact ih _ _ _ _ k _ _ _ h (lv_sub hl [3, 2, 1, 0] rfl) K hF
        clear ej40
        refine kp_icmp_le (tgt := 39) C dX10_mostFitting_32 (by decide) hF (fun hF => ?_) (fun hF => ?_)
        · refine kp_iload_n C dX10_mostFitting_39 rfl (lv_at hl 2 rfl) ?_
          exact J40 _ _ _ _ h (lv_sub hl [1, 3, 4, 0] rfl) hF
        · refine kp_iload_n C dX10_mostFitting_35 rfl (lv_at hl 4 rfl) ?_
          refine kp_goto (tgt := 40) C dX10_mostFitting_36 (by decide) ?_
          exact J40 _ _ _ _ h (lv_sub hl [1, 3, 4, 0] rfl) hF
  refine L7 kp_fu _ _ _ _ _ _ _ _ h (lv_sub hl [3, 2, 1, 0] rfl) (fun x1_2 σ_2 H locs ls h hl hF => ?_) hF
  clear L7
  refine kp_iload_n C dX10_mostFitting_60 rfl (lv_at hl 0 rfl) ?_
  exact kp_reti C hr hlk G h dX10_mostFitting_61 hF
def kl_X10_allFitting_5  : Nat → Int → Int → kp_W → (Int → kp_W → kp_R) → kp_R
  | 0, _, _, _, _ => none
  | n + 1, x1_1, x2_1, σ_1, k => kp_ck (0 ≤ (σ_1 1 0) ∧ (σ_1 1 0) < 32) (kp_ls x2_1 (1 * 2 ^ (Int.toNat (σ_1 1 0))) (kp_jn (fun (x2_2 : Int) (σ_3 : kp_W) => kp_bd (kf_X10_fitsOf x2_2 σ_3) (fun r_0 σ_4 => kp_ck (0 ≤ (σ_4 1 2) ∧ (σ_4 1 2) < 32) (kp_eq r_0 ((1 * 2 ^ (Int.toNat (σ_4 1 2))) - 1) (kp_lt (x2_2 : Int) (fun x1_3 => kp_lt (x2_2 + 1) (fun x2_4 => kl_X10_allFitting_5 n x1_3 x2_4 σ_4 k))) (kp_lt (x2_2 + 1) (fun x2_3 => kl_X10_allFitting_5 n x1_1 x2_3 σ_4 k))))) (fun j34 => kp_eq x1_1 (-5) (j34 x2_1 σ_1) (kp_bd (kf_X10_count1 x2_1 σ_1) (fun r_1 σ_5 => kp_bd (kf_X10_count1 x1_1 σ_5) (fun r_2 σ_6 => kp_ls r_1 r_2 (j34 x2_1 σ_6) (kp_lt (x2_1 + 1) (fun x2_5 => kl_X10_allFitting_5 n x1_1 x2_5 σ_6 k))))))) (k x1_1 σ_1))
def kf_X10_allFitting   (σ_0 : kp_W) : kp_R :=
  kp_lt ((-5) : Int) (fun x1_0 => kp_lt (0 : Int) (fun x2_0 => kl_X10_allFitting_5 kp_fu x1_0 x2_0 σ_0 (fun (x1_2 : Int) (σ_2 : kp_W) => some (x1_2, σ_2))))
set_option maxRecDepth 100000 in
set_option maxHeartbeats 4000000 in
theorem kc_X10_allFitting {l : Launch} {X : kp_X}  {σ_0 σ' : kp_W} {r : Int}   (hF : (kf_X10_allFitting σ_0) = some (r, σ')) : kp_Met l yX10_allFitting cX10_allFitting 3 (some .int) 5 X kp_lM 10 σ_0 [.ref (kp_ad X 0)] (kp_Qi X kp_lM 10 σ' r) := by
  refine kp_body pnX10 (Nat.le_of_ble_eq_true rfl) ?_
  intro p e s m args below meth c ls C hr hlk G h hl
  unfold kf_X10_allFitting at hF
  have hl : lv_has ls 3 [(0, .ref (kp_ad X 0))] := hl
  refine kp_bipush C dX10_allFitting_0 rfl ?_
  refine kp_istore_n (lv' := fun x1_0 => [(1, kp_iv x1_0), (0, .ref (kp_ad X 0))]) C dX10_allFitting_2 rfl hl (by decide) (fun _ => rfl) hF (fun x1_0 ls hl hF => ?_)
  refine kp_iconst C dX10_allFitting_3 ?_
  refine kp_istore_n (lv' := fun x2_0 => [(2, kp_iv x2_0), (1, kp_iv x1_0), (0, .ref (kp_ad X 0))]) C dX10_allFitting_4 rfl hl (by decide) (fun _ => rfl) hF (fun x2_0 ls hl hF => ?_)
  have L5 : ∀ (n : Nat) (x1_1 : Int) (x2_1 : Int) (σ_1 : kp_W) (k : Int → kp_W → kp_R) (H : Heap) (locs : List Loc) (ls : Array Slot), kp_H X kp_lM 10 s σ_1 H locs → lv_has ls 3 [(0, .ref (kp_ad X 0)), (1, kp_iv x1_1), (2, kp_iv x2_1)] → (∀ (x1_2 : Int) (σ_2 : kp_W) (H : Heap) (locs : List Loc) (ls : Array Slot), kp_H X kp_lM 10 s σ_2 H locs → lv_has ls 3 [(1, kp_iv x1_2)] → k x1_2 σ_2 = some (r, σ') → W p l e (kp_rm 5) s m args below meth c H locs 0 0 (MQ below (kp_Qi X kp_lM 10 σ' r) args s 0 0 (kp_A X 10)) (F0 m 60 ls [])) → kl_X10_allFitting_5 n x1_1 x2_1 σ_1 k = some (r, σ') → W p l e (kp_rm 5) s m args below meth c H locs 0 0 (MQ below (kp_Qi X kp_lM 10 σ' r) args s 0 0 (kp_A X 10)) (F0 m 5 ls []) := by
    intro n
    induction n with
    | zero =>
      intro x1_1 x2_1 σ_1 k H locs ls h hl K hF
      rw [kl_X10_allFitting_5] at hF
      cases hF
    | succ n ih =>
      intro x1_1 x2_1 σ_1 k H locs ls h hl K hF
      rw [kl_X10_allFitting_5] at hF
      refine kp_iload_n C dX10_allFitting_5 rfl (lv_at hl 2 rfl) ?_
      refine kp_iconst C dX10_allFitting_6 ?_
      refine kp_aload_n C dX10_allFitting_7 rfl (lv_at hl 0 rfl) ?_
      refine kp_getr C G h kp_lM0 rfl inWX10 (j := 1) (by decide) q4_45 rfl dX10_allFitting_8 ?_
      refine kp_iconst C dX10_allFitting_11 ?_
      refine kp_iald0 C G h (i := 0) (n := 1066) kp_lM1 (by decide) (by decide) dX10_allFitting_12 ?_
      refine kp_xishl C dX10_allFitting_13 hF (fun hF => ?_)
      refine kp_icmp_ge (tgt := 60) C dX10_allFitting_14 (by decide) hF (fun hF => ?_) (fun hF => ?_)
      · exact K _ _ _ _ _ h (lv_sub hl [1] rfl) hF
      · refine kp_iload_n C dX10_allFitting_17 rfl (lv_at hl 1 rfl) ?_
        refine kp_bipush C dX10_allFitting_18 rfl ?_
        obtain ⟨j34, ej34, hF⟩ := kp_jn_s hF
        have J34 : ∀ (x2_2 : Int), ∀ (σ_3 : kp_W), ∀ (H : Heap) (locs : List Loc) (ls : Array Slot), kp_H X kp_lM 10 s σ_3 H locs → lv_has ls 3 [(0, .ref (kp_ad X 0)), (1, kp_iv x1_1), (2, kp_iv x2_2)] → j34 x2_2 σ_3 = some (r, σ') → W p l e (kp_rm 5) s m args below meth c H locs 0 0 (MQ below (kp_Qi X kp_lM 10 σ' r) args s 0 0 (kp_A X 10)) (F0 m 34 ls []) := by
          intro x2_2 σ_3 H locs ls h hl hF
          rw [ej34] at hF
          refine kp_aload_n C dX10_allFitting_34 rfl (lv_at hl 0 rfl) ?_
          refine kp_iload_n C dX10_allFitting_35 rfl (lv_at hl 2 rfl) ?_
          obtain ⟨r_0, σ_4, hc, hF⟩ := kp_bd_s hF
          refine kp_ci h (kp_rV (k := 0) (As := [kp_iv x2_2]) (rest := []) C G h (kc_X10_fitsOf  hc) q5_94 q5_96 q0_4_14 q1_11 q5_97 ⟨rfl, hd_X10_fitsOf⟩ (by decide) kp_lM0 rfl rfl hl.1 rfl (Nat.le_of_ble_eq_true rfl) dX10_allFitting_36) (fun H locs h => ?_)
          refine kp_iconst C dX10_allFitting_39 ?_
          refine kp_aload_n C dX10_allFitting_40 rfl (lv_at hl 0 rfl) ?_
          refine kp_getr C G h kp_lM0 rfl inWX10 (j := 1) (by decide) q4_45 rfl dX10_allFitting_41 ?_
          refine kp_iconst C dX10_allFitting_44 ?_
          refine kp_iald0 C G h (i := 2) (n := 1066) kp_lM1 (by decide) (by decide) dX10_allFitting_45 ?_
          refine kp_xishl C dX10_allFitting_46 hF (fun hF => ?_)
          refine kp_iconst C dX10_allFitting_47 ?_
          refine kp_isub C dX10_allFitting_48 ?_
          refine kp_icmp_ne (tgt := 54) C dX10_allFitting_49 (by decide) hF (fun hF => ?_) (fun hF => ?_)
          · refine kp_iinc (k := 2) (lv' := fun x2_3 => [(2, kp_iv x2_3), (0, .ref (kp_ad X 0)), (1, kp_iv x1_1)]) C dX10_allFitting_54 hl rfl (by decide) (fun _ => rfl) hF (fun x2_3 ls hl hF => ?_)
            refine kp_goto (tgt := 5) C dX10_allFitting_57 (by decide) ?_
            exact ih _ _ _ k _ _ _ h (lv_sub hl [1, 2, 0] rfl) K hF
          · refine kp_iload_n C dX10_allFitting_52 rfl (lv_at hl 2 rfl) ?_
            refine kp_istore_n (lv' := fun x1_3 => [(1, kp_iv x1_3), (0, .ref (kp_ad X 0)), (2, kp_iv x2_2)]) C dX10_allFitting_53 rfl hl (by decide) (fun _ => rfl) hF (fun x1_3 ls hl hF => ?_)
            refine kp_iinc (k := 2) (lv' := fun x2_4 => [(2, kp_iv x2_4), (1, kp_iv x1_3), (0, .ref (kp_ad X 0))]) C dX10_allFitting_54 hl rfl (by decide) (fun _ => rfl) hF (fun x2_4 ls hl hF => ?_)
            refine kp_goto (tgt := 5) C dX10_allFitting_57 (by decide) ?_
            exact ih _ _ _ k _ _ _ h (lv_sub hl [2, 1, 0] rfl) K hF
        clear ej34
        refine kp_icmp_eq (tgt := 34) C dX10_allFitting_20 (by decide) hF (fun hF => ?_) (fun hF => ?_)
        · exact J34 _ _ _ _ _ h (lv_sub hl [0, 1, 2] rfl) hF
        · refine kp_iload_n C dX10_allFitting_23 rfl (lv_at hl 2 rfl) ?_
          obtain ⟨r_1, σ_5, hc, hF⟩ := kp_bd_s hF
          refine kp_ci h (kp_rS (As := [kp_iv x2_1]) (rest := []) C G h (kc_X10_count1  hc) q5_102 q5_103 q1_11 q5_104 hd_X10_count1 (by decide) rfl hl.1 rfl (Nat.le_of_ble_eq_true rfl) dX10_allFitting_24) (fun H locs h => ?_)
          refine kp_iload_n C dX10_allFitting_27 rfl (lv_at hl 1 rfl) ?_
          obtain ⟨r_2, σ_6, hc, hF⟩ := kp_bd_s hF
          refine kp_ci h (kp_rS (As := [kp_iv x1_1]) (rest := [kp_iv r_1]) C G h (kc_X10_count1  hc) q5_102 q5_103 q1_11 q5_104 hd_X10_count1 (by decide) rfl hl.1 rfl (Nat.le_of_ble_eq_true rfl) dX10_allFitting_28) (fun H locs h => ?_)
          refine kp_icmp_ge (tgt := 54) C dX10_allFitting_31 (by decide) hF (fun hF => ?_) (fun hF => ?_)
          · refine kp_iinc (k := 2) (lv' := fun x2_5 => [(2, kp_iv x2_5), (0, .ref (kp_ad X 0)), (1, kp_iv x1_1)]) C dX10_allFitting_54 hl rfl (by decide) (fun _ => rfl) hF (fun x2_5 ls hl hF => ?_)
            refine kp_goto (tgt := 5) C dX10_allFitting_57 (by decide) ?_
            exact ih _ _ _ k _ _ _ h (lv_sub hl [1, 2, 0] rfl) K hF
          · exact J34 _ _ _ _ _ h (lv_sub hl [0, 1, 2] rfl) hF
  refine L5 kp_fu _ _ _ _ _ _ _ h (lv_sub hl [2, 1, 0] rfl) (fun x1_2 σ_2 H locs ls h hl hF => ?_) hF
  clear L5
  refine kp_iload_n C dX10_allFitting_60 rfl (lv_at hl 0 rfl) ?_
  exact kp_reti C hr hlk G h dX10_allFitting_61 hF
def kl_X10_harmOf_4 (a1 : Int) : Nat → Int → Int → kp_W → (Int → kp_W → kp_R) → kp_R
  | 0, _, _, _, _ => none
  | n + 1, x2_1, x3_1, σ_1, k => kp_ls x3_1 40 (kp_bd (kf_X10_isStill a1 σ_1) (fun r_0 σ_3 => kp_eq r_0 0 (kp_ck (0 ≤ ((40 * a1) + x3_1) ∧ ((40 * a1) + x3_1) < 400) (kp_lt ((x2_1 + (σ_3 6 (Int.toNat ((40 * a1) + x3_1)))) : Int) (fun x2_3 => kp_lt (x3_1 + 1) (fun x3_2 => kl_X10_harmOf_4 a1 n x2_3 x3_2 σ_3 k)))) (k x2_1 σ_3))) (k x2_1 σ_1)
def kf_X10_harmOf  (a1 : Int) (σ_0 : kp_W) : kp_R :=
  kp_lt (0 : Int) (fun x2_0 => kp_lt (0 : Int) (fun x3_0 => kl_X10_harmOf_4 a1 kp_fu x2_0 x3_0 σ_0 (fun (x2_2 : Int) (σ_2 : kp_W) => kp_ck (0 ≤ (280 + a1) ∧ (280 + a1) < 1066) (some ((x2_2 * (σ_2 1 (Int.toNat (280 + a1)))), σ_2)))))
set_option maxRecDepth 100000 in
set_option maxHeartbeats 4000000 in
theorem kc_X10_harmOf {l : Launch} {X : kp_X} {a1 : Int}  {σ_0 σ' : kp_W} {r : Int}   (hF : (kf_X10_harmOf a1 σ_0) = some (r, σ')) : kp_Met l yX10_harmOf cX10_harmOf 4 (some .int) 1 X kp_lM 10 σ_0 [.ref (kp_ad X 0), kp_iv a1] (kp_Qi X kp_lM 10 σ' r) := by
  refine kp_body pnX10 (Nat.le_of_ble_eq_true rfl) ?_
  intro p e s m args below meth c ls C hr hlk G h hl
  unfold kf_X10_harmOf at hF
  have hl : lv_has ls 4 [(0, .ref (kp_ad X 0)), (1, kp_iv a1)] := hl
  refine kp_iconst C dX10_harmOf_0 ?_
  refine kp_istore_n (lv' := fun x2_0 => [(2, kp_iv x2_0), (0, .ref (kp_ad X 0)), (1, kp_iv a1)]) C dX10_harmOf_1 rfl hl (by decide) (fun _ => rfl) hF (fun x2_0 ls hl hF => ?_)
  refine kp_iconst C dX10_harmOf_2 ?_
  refine kp_istore_n (lv' := fun x3_0 => [(3, kp_iv x3_0), (2, kp_iv x2_0), (0, .ref (kp_ad X 0)), (1, kp_iv a1)]) C dX10_harmOf_3 rfl hl (by decide) (fun _ => rfl) hF (fun x3_0 ls hl hF => ?_)
  have L4 : ∀ (n : Nat) (x2_1 : Int) (x3_1 : Int) (σ_1 : kp_W) (k : Int → kp_W → kp_R) (H : Heap) (locs : List Loc) (ls : Array Slot), kp_H X kp_lM 10 s σ_1 H locs → lv_has ls 4 [(0, .ref (kp_ad X 0)), (1, kp_iv a1), (2, kp_iv x2_1), (3, kp_iv x3_1)] → (∀ (x2_2 : Int) (σ_2 : kp_W) (H : Heap) (locs : List Loc) (ls : Array Slot), kp_H X kp_lM 10 s σ_2 H locs → lv_has ls 4 [(0, .ref (kp_ad X 0)), (1, kp_iv a1), (2, kp_iv x2_2)] → k x2_2 σ_2 = some (r, σ') → W p l e (kp_rm 1) s m args below meth c H locs 0 0 (MQ below (kp_Qi X kp_lM 10 σ' r) args s 0 0 (kp_A X 10)) (F0 m 38 ls [])) → kl_X10_harmOf_4 a1 n x2_1 x3_1 σ_1 k = some (r, σ') → W p l e (kp_rm 1) s m args below meth c H locs 0 0 (MQ below (kp_Qi X kp_lM 10 σ' r) args s 0 0 (kp_A X 10)) (F0 m 4 ls []) := by
    intro n
    induction n with
    | zero =>
      intro x2_1 x3_1 σ_1 k H locs ls h hl K hF
      rw [kl_X10_harmOf_4] at hF
      cases hF
    | succ n ih =>
      intro x2_1 x3_1 σ_1 k H locs ls h hl K hF
      rw [kl_X10_harmOf_4] at hF
      refine kp_iload_n C dX10_harmOf_4 rfl (lv_at hl 3 rfl) ?_
      refine kp_bipush C dX10_harmOf_5 rfl ?_
      refine kp_icmp_ge (tgt := 38) C dX10_harmOf_7 (by decide) hF (fun hF => ?_) (fun hF => ?_)
      · exact K _ _ _ _ _ h (lv_sub hl [0, 1, 2] rfl) hF
      · refine kp_aload_n C dX10_harmOf_10 rfl (lv_at hl 0 rfl) ?_
        refine kp_iload_n C dX10_harmOf_11 rfl (lv_at hl 1 rfl) ?_
        obtain ⟨r_0, σ_3, hc, hF⟩ := kp_bd_s hF
        refine kp_ci h (kp_rV (k := 0) (As := [kp_iv a1]) (rest := []) C G h (kc_X10_isStill  hc) q5_46 q5_48 q0_4_8 q1_11 q5_49 ⟨rfl, hd_X10_isStill⟩ (by decide) kp_lM0 rfl rfl hl.1 rfl (Nat.le_of_ble_eq_true rfl) dX10_harmOf_12) (fun H locs h => ?_)
        refine kp_if_ne (tgt := 38) C dX10_harmOf_15 (by decide) hF (fun hF => ?_) (fun hF => ?_)
        · exact K _ _ _ _ _ h (lv_sub hl [0, 1, 2] rfl) hF
        · refine kp_iload_n C dX10_harmOf_18 rfl (lv_at hl 2 rfl) ?_
          refine kp_aload_n C dX10_harmOf_19 rfl (lv_at hl 0 rfl) ?_
          refine kp_getr C G h kp_lM0 rfl inWX10 (j := 15) (by decide) q4_59 rfl dX10_harmOf_20 ?_
          refine kp_bipush C dX10_harmOf_23 rfl ?_
          refine kp_iload_n C dX10_harmOf_25 rfl (lv_at hl 1 rfl) ?_
          refine kp_imul C dX10_harmOf_26 ?_
          refine kp_iload_n C dX10_harmOf_27 rfl (lv_at hl 3 rfl) ?_
          refine kp_iadd C dX10_harmOf_28 ?_
          refine kp_iald C G h (n := 400) kp_lM6 (by decide) dX10_harmOf_29 hF (fun hF => ?_)
          refine kp_iadd C dX10_harmOf_30 ?_
          refine kp_istore_n (lv' := fun x2_3 => [(2, kp_iv x2_3), (0, .ref (kp_ad X 0)), (1, kp_iv a1), (3, kp_iv x3_1)]) C dX10_harmOf_31 rfl hl (by decide) (fun _ => rfl) hF (fun x2_3 ls hl hF => ?_)
          refine kp_iinc (k := 3) (lv' := fun x3_2 => [(3, kp_iv x3_2), (2, kp_iv x2_3), (0, .ref (kp_ad X 0)), (1, kp_iv a1)]) C dX10_harmOf_32 hl rfl (by decide) (fun _ => rfl) hF (fun x3_2 ls hl hF => ?_)
          refine kp_goto (tgt := 4) C dX10_harmOf_35 (by decide) ?_
          exact ih _ _ _ k _ _ _ h (lv_sub hl [2, 3, 1, 0] rfl) K hF
  refine L4 kp_fu _ _ _ _ _ _ _ h (lv_sub hl [2, 3, 1, 0] rfl) (fun x2_2 σ_2 H locs ls h hl hF => ?_) hF
  clear L4
  refine kp_iload_n C dX10_harmOf_38 rfl (lv_at hl 2 rfl) ?_
  refine kp_aload_n C dX10_harmOf_39 rfl (lv_at hl 0 rfl) ?_
  refine kp_getr C G h kp_lM0 rfl inWX10 (j := 1) (by decide) q4_45 rfl dX10_harmOf_40 ?_
  refine kp_sipush C dX10_harmOf_43 rfl ?_
  refine kp_iload_n C dX10_harmOf_46 rfl (lv_at hl 1 rfl) ?_
  refine kp_iadd C dX10_harmOf_47 ?_
  refine kp_iald C G h (n := 1066) kp_lM1 (by decide) dX10_harmOf_48 hF (fun hF => ?_)
  refine kp_imul C dX10_harmOf_49 ?_
  exact kp_reti C hr hlk G h dX10_harmOf_50 hF
def kl_X10_worst_7  : Nat → Int → Int → Int → kp_W → (Int → kp_W → kp_R) → kp_R
  | 0, _, _, _, _, _ => none
  | n + 1, x1_1, x2_1, x3_1, σ_1, k => kp_ls x3_1 (σ_1 1 0) (kp_bd (kf_X10_harmOf x3_1 σ_1) (fun r_0 σ_3 => kp_lt (r_0 : Int) (fun x4_0 => kp_jn (fun (v_0 : Int) => kp_lt (v_0 : Int) (fun x1_3 => kp_ls x2_1 x4_0 (kp_lt (x4_0 : Int) (fun x2_3 => kp_lt (x3_1 + 1) (fun x3_3 => kl_X10_worst_7 n x1_3 x2_3 x3_3 σ_3 k))) (kp_lt (x2_1 : Int) (fun x2_2 => kp_lt (x3_1 + 1) (fun x3_2 => kl_X10_worst_7 n x1_3 x2_2 x3_2 σ_3 k))))) (fun j35 => kp_ls x2_1 x4_0 (j35 x3_1) (j35 x1_1))))) (k x1_1 σ_1)
def kf_X10_worst   (σ_0 : kp_W) : kp_R :=
  kp_lt ((-5) : Int) (fun x1_0 => kp_lt ((-1) : Int) (fun x2_0 => kp_lt (0 : Int) (fun x3_0 => kl_X10_worst_7 kp_fu x1_0 x2_0 x3_0 σ_0 (fun (x1_2 : Int) (σ_2 : kp_W) => some (x1_2, σ_2)))))
set_option maxRecDepth 100000 in
set_option maxHeartbeats 4000000 in
theorem kc_X10_worst {l : Launch} {X : kp_X}  {σ_0 σ' : kp_W} {r : Int}   (hF : (kf_X10_worst σ_0) = some (r, σ')) : kp_Met l yX10_worst cX10_worst 5 (some .int) 2 X kp_lM 10 σ_0 [.ref (kp_ad X 0)] (kp_Qi X kp_lM 10 σ' r) := by
  refine kp_body pnX10 (Nat.le_of_ble_eq_true rfl) ?_
  intro p e s m args below meth c ls C hr hlk G h hl
  unfold kf_X10_worst at hF
  have hl : lv_has ls 5 [(0, .ref (kp_ad X 0))] := hl
  refine kp_bipush C dX10_worst_0 rfl ?_
  refine kp_istore_n (lv' := fun x1_0 => [(1, kp_iv x1_0), (0, .ref (kp_ad X 0))]) C dX10_worst_2 rfl hl (by decide) (fun _ => rfl) hF (fun x1_0 ls hl hF => ?_)
  refine kp_iconst C dX10_worst_3 ?_
  refine kp_istore_n (lv' := fun x2_0 => [(2, kp_iv x2_0), (1, kp_iv x1_0), (0, .ref (kp_ad X 0))]) C dX10_worst_4 rfl hl (by decide) (fun _ => rfl) hF (fun x2_0 ls hl hF => ?_)
  refine kp_iconst C dX10_worst_5 ?_
  refine kp_istore_n (lv' := fun x3_0 => [(3, kp_iv x3_0), (2, kp_iv x2_0), (1, kp_iv x1_0), (0, .ref (kp_ad X 0))]) C dX10_worst_6 rfl hl (by decide) (fun _ => rfl) hF (fun x3_0 ls hl hF => ?_)
  have L7 : ∀ (n : Nat) (x1_1 : Int) (x2_1 : Int) (x3_1 : Int) (σ_1 : kp_W) (k : Int → kp_W → kp_R) (H : Heap) (locs : List Loc) (ls : Array Slot), kp_H X kp_lM 10 s σ_1 H locs → lv_has ls 5 [(0, .ref (kp_ad X 0)), (1, kp_iv x1_1), (2, kp_iv x2_1), (3, kp_iv x3_1)] → (∀ (x1_2 : Int) (σ_2 : kp_W) (H : Heap) (locs : List Loc) (ls : Array Slot), kp_H X kp_lM 10 s σ_2 H locs → lv_has ls 5 [(1, kp_iv x1_2)] → k x1_2 σ_2 = some (r, σ') → W p l e (kp_rm 2) s m args below meth c H locs 0 0 (MQ below (kp_Qi X kp_lM 10 σ' r) args s 0 0 (kp_A X 10)) (F0 m 55 ls [])) → kl_X10_worst_7 n x1_1 x2_1 x3_1 σ_1 k = some (r, σ') → W p l e (kp_rm 2) s m args below meth c H locs 0 0 (MQ below (kp_Qi X kp_lM 10 σ' r) args s 0 0 (kp_A X 10)) (F0 m 7 ls []) := by
    intro n
    induction n with
    | zero =>
      intro x1_1 x2_1 x3_1 σ_1 k H locs ls h hl K hF
      rw [kl_X10_worst_7] at hF
      cases hF
    | succ n ih =>
      intro x1_1 x2_1 x3_1 σ_1 k H locs ls h hl K hF
      rw [kl_X10_worst_7] at hF
      refine kp_iload_n C dX10_worst_7 rfl (lv_at hl 3 rfl) ?_
      refine kp_aload_n C dX10_worst_8 rfl (lv_at hl 0 rfl) ?_
      refine kp_getr C G h kp_lM0 rfl inWX10 (j := 1) (by decide) q4_45 rfl dX10_worst_9 ?_
      refine kp_iconst C dX10_worst_12 ?_
      refine kp_iald0 C G h (i := 0) (n := 1066) kp_lM1 (by decide) (by decide) dX10_worst_13 ?_
      refine kp_icmp_ge (tgt := 55) C dX10_worst_14 (by decide) hF (fun hF => ?_) (fun hF => ?_)
      · exact K _ _ _ _ _ h (lv_sub hl [1] rfl) hF
      · refine kp_aload_n C dX10_worst_17 rfl (lv_at hl 0 rfl) ?_
        refine kp_iload_n C dX10_worst_18 rfl (lv_at hl 3 rfl) ?_
        obtain ⟨r_0, σ_3, hc, hF⟩ := kp_bd_s hF
        refine kp_ci h (kp_rV (k := 0) (As := [kp_iv x3_1]) (rest := []) C G h (kc_X10_harmOf  hc) q5_124 q5_126 q0_5_2 q1_11 q5_127 ⟨rfl, hd_X10_harmOf⟩ (by decide) kp_lM0 rfl rfl hl.1 rfl (Nat.le_of_ble_eq_true rfl) dX10_worst_19) (fun H locs h => ?_)
        refine kp_istore (lv' := fun x4_0 => [(4, kp_iv x4_0), (0, .ref (kp_ad X 0)), (1, kp_iv x1_1), (2, kp_iv x2_1), (3, kp_iv x3_1)]) C dX10_worst_22 hl (by decide) (fun _ => rfl) hF (fun x4_0 ls hl hF => ?_)
        refine kp_iload C dX10_worst_24 (lv_at hl 0 rfl) ?_
        refine kp_iload_n C dX10_worst_26 rfl (lv_at hl 3 rfl) ?_
        obtain ⟨j35, ej35, hF⟩ := kp_jn_s hF
        have J35 : ∀ (v_0 : Int), ∀ (H : Heap) (locs : List Loc) (ls : Array Slot), kp_H X kp_lM 10 s σ_3 H locs → lv_has ls 5 [(0, .ref (kp_ad X 0)), (2, kp_iv x2_1), (3, kp_iv x3_1), (4, kp_iv x4_0)] → j35 v_0 = some (r, σ') → W p l e (kp_rm 2) s m args below meth c H locs 0 0 (MQ below (kp_Qi X kp_lM 10 σ' r) args s 0 0 (kp_A X 10)) (F0 m 35 ls [kp_iv v_0]) := by
          intro v_0 H locs ls h hl hF
          rw [ej35] at hF
          refine kp_istore_n (lv' := fun x1_3 => [(1, kp_iv x1_3), (0, .ref (kp_ad X 0)), (2, kp_iv x2_1), (3, kp_iv x3_1), (4, kp_iv x4_0)]) C dX10_worst_35 rfl hl (by decide) (fun _ => rfl) hF (fun x1_3 ls hl hF => ?_)
          refine kp_iload C dX10_worst_36 (lv_at hl 4 rfl) ?_
          refine kp_iload_n C dX10_worst_38 rfl (lv_at hl 2 rfl) ?_
          refine kp_icmp_le (tgt := 47) C dX10_worst_39 (by decide) hF (fun hF => ?_) (fun hF => ?_)
          · refine kp_iload_n C dX10_worst_47 rfl (lv_at hl 2 rfl) ?_
            refine kp_istore_n (lv' := fun x2_2 => [(2, kp_iv x2_2), (1, kp_iv x1_3), (0, .ref (kp_ad X 0)), (3, kp_iv x3_1), (4, kp_iv x4_0)]) C dX10_worst_48 rfl hl (by decide) (fun _ => rfl) hF (fun x2_2 ls hl hF => ?_)
            refine kp_iinc (k := 3) (lv' := fun x3_2 => [(3, kp_iv x3_2), (2, kp_iv x2_2), (1, kp_iv x1_3), (0, .ref (kp_ad X 0)), (4, kp_iv x4_0)]) C dX10_worst_49 hl rfl (by decide) (fun _ => rfl) hF (fun x3_2 ls hl hF => ?_)
            refine kp_goto (tgt := 7) C dX10_worst_52 (by decide) ?_
            exact ih _ _ _ _ k _ _ _ h (lv_sub hl [3, 2, 1, 0] rfl) K hF
          · refine kp_iload C dX10_worst_42 (lv_at hl 4 rfl) ?_
            refine kp_goto (tgt := 48) C dX10_worst_44 (by decide) ?_
            refine kp_istore_n (lv' := fun x2_3 => [(2, kp_iv x2_3), (1, kp_iv x1_3), (0, .ref (kp_ad X 0)), (3, kp_iv x3_1), (4, kp_iv x4_0)]) C dX10_worst_48 rfl hl (by decide) (fun _ => rfl) hF (fun x2_3 ls hl hF => ?_)
            refine kp_iinc (k := 3) (lv' := fun x3_3 => [(3, kp_iv x3_3), (2, kp_iv x2_3), (1, kp_iv x1_3), (0, .ref (kp_ad X 0)), (4, kp_iv x4_0)]) C dX10_worst_49 hl rfl (by decide) (fun _ => rfl) hF (fun x3_3 ls hl hF => ?_)
            refine kp_goto (tgt := 7) C dX10_worst_52 (by decide) ?_
            exact ih _ _ _ _ k _ _ _ h (lv_sub hl [3, 2, 1, 0] rfl) K hF
        clear ej35
        refine kp_icmp_le (tgt := 34) C dX10_worst_27 (by decide) hF (fun hF => ?_) (fun hF => ?_)
        · refine kp_iload_n C dX10_worst_34 rfl (lv_at hl 2 rfl) ?_
          exact J35 _ _ _ _ h (lv_sub hl [1, 3, 4, 0] rfl) hF
        · refine kp_iload_n C dX10_worst_30 rfl (lv_at hl 4 rfl) ?_
          refine kp_goto (tgt := 35) C dX10_worst_31 (by decide) ?_
          exact J35 _ _ _ _ h (lv_sub hl [1, 3, 4, 0] rfl) hF
  refine L7 kp_fu _ _ _ _ _ _ _ _ h (lv_sub hl [3, 2, 1, 0] rfl) (fun x1_2 σ_2 H locs ls h hl hF => ?_) hF
  clear L7
  refine kp_iload_n C dX10_worst_55 rfl (lv_at hl 0 rfl) ?_
  exact kp_reti C hr hlk G h dX10_worst_56 hF
def kf_X10_which  (a1 : Int) (σ_0 : kp_W) : kp_R :=
  kp_bd (kf_X10_in a1 0 2 σ_0) (fun r_0 σ_1 => kp_eq r_0 0 (some ((-1), σ_1)) (kp_bd (kf_X10_goes σ_1) (fun r_1 σ_2 => kp_eq a1 0 (kp_bd (kf_X10_mostFitting σ_2) (fun r_4 σ_5 => some (r_4, σ_5))) (kp_eq a1 1 (kp_bd (kf_X10_allFitting σ_2) (fun r_3 σ_4 => some (r_3, σ_4))) (kp_bd (kf_X10_worst σ_2) (fun r_2 σ_3 => some (r_2, σ_3)))))))
set_option maxRecDepth 100000 in
set_option maxHeartbeats 4000000 in
theorem kc_X10_which {l : Launch} {X : kp_X} {a1 : Int}  {σ_0 σ' : kp_W} {r : Int}   (hF : (kf_X10_which a1 σ_0) = some (r, σ')) : kp_Met l yX10_which cX10_which 2 (some .int) 6 X kp_lM 10 σ_0 [.ref (kp_ad X 0), kp_iv a1] (kp_Qi X kp_lM 10 σ' r) := by
  refine kp_body pnX10 (Nat.le_of_ble_eq_true rfl) ?_
  intro p e s m args below meth c ls C hr hlk G h hl
  unfold kf_X10_which at hF
  have hl : lv_has ls 2 [(0, .ref (kp_ad X 0)), (1, kp_iv a1)] := hl
  refine kp_iload_n C dX10_which_0 rfl (lv_at hl 1 rfl) ?_
  refine kp_iconst C dX10_which_1 ?_
  refine kp_iconst C dX10_which_2 ?_
  obtain ⟨r_0, σ_1, hc, hF⟩ := kp_bd_s hF
  refine kp_ci h (kp_rS (As := [kp_iv a1, kp_iv 0, kp_iv 2]) (rest := []) C G h (kc_X10_in  hc) q4_128 q4_129 q1_11 q4_130 hd_X10_in (by decide) rfl hl.1 rfl (Nat.le_of_ble_eq_true rfl) dX10_which_3) (fun H locs h => ?_)
  refine kp_if_ne (tgt := 11) C dX10_which_6 (by decide) hF (fun hF => ?_) (fun hF => ?_)
  · refine kp_aload_n C dX10_which_11 rfl (lv_at hl 0 rfl) ?_
    obtain ⟨r_1, σ_2, hc, hF⟩ := kp_bd_s hF
    refine kp_cv h (kp_rV (k := 0) (As := []) (rest := []) C G h (kc_X10_goes  hc) q5_11 q5_13 q0_4_0 q1_11 q5_14 ⟨rfl, hd_X10_goes⟩ (by decide) kp_lM0 rfl rfl hl.1 rfl (Nat.le_of_ble_eq_true rfl) dX10_which_12) (fun H locs h => ?_)
    refine kp_iload_n C dX10_which_15 rfl (lv_at hl 1 rfl) ?_
    refine kp_if_ne (tgt := 26) C dX10_which_16 (by decide) hF (fun hF => ?_) (fun hF => ?_)
    · refine kp_iload_n C dX10_which_26 rfl (lv_at hl 1 rfl) ?_
      refine kp_iconst C dX10_which_27 ?_
      refine kp_icmp_ne (tgt := 38) C dX10_which_28 (by decide) hF (fun hF => ?_) (fun hF => ?_)
      · refine kp_aload_n C dX10_which_38 rfl (lv_at hl 0 rfl) ?_
        obtain ⟨r_2, σ_3, hc, hF⟩ := kp_bd_s hF
        refine kp_ci h (kp_rV (k := 0) (As := []) (rest := []) C G h (kc_X10_worst  hc) q5_120 q5_122 q0_5_1 q1_11 q5_123 ⟨rfl, hd_X10_worst⟩ (by decide) kp_lM0 rfl rfl hl.1 rfl (Nat.le_of_ble_eq_true rfl) dX10_which_39) (fun H locs h => ?_)
        exact kp_reti C hr hlk G h dX10_which_42 hF
      · refine kp_aload_n C dX10_which_31 rfl (lv_at hl 0 rfl) ?_
        obtain ⟨r_3, σ_4, hc, hF⟩ := kp_bd_s hF
        refine kp_ci h (kp_rV (k := 0) (As := []) (rest := []) C G h (kc_X10_allFitting  hc) q5_116 q5_118 q0_5_0 q1_11 q5_119 ⟨rfl, hd_X10_allFitting⟩ (by decide) kp_lM0 rfl rfl hl.1 rfl (Nat.le_of_ble_eq_true rfl) dX10_which_32) (fun H locs h => ?_)
        refine kp_goto (tgt := 42) C dX10_which_35 (by decide) ?_
        exact kp_reti C hr hlk G h dX10_which_42 hF
    · refine kp_aload_n C dX10_which_19 rfl (lv_at hl 0 rfl) ?_
      obtain ⟨r_4, σ_5, hc, hF⟩ := kp_bd_s hF
      refine kp_ci h (kp_rV (k := 0) (As := []) (rest := []) C G h (kc_X10_mostFitting  hc) q5_112 q5_114 q0_4_15 q1_11 q5_115 ⟨rfl, hd_X10_mostFitting⟩ (by decide) kp_lM0 rfl rfl hl.1 rfl (Nat.le_of_ble_eq_true rfl) dX10_which_20) (fun H locs h => ?_)
      refine kp_goto (tgt := 42) C dX10_which_23 (by decide) ?_
      exact kp_reti C hr hlk G h dX10_which_42 hF
  · refine kp_iconst C dX10_which_9 ?_
    exact kp_reti C hr hlk G h dX10_which_10 hF
def kl_X10_next_97 (σ_7 : kp_W) (x6_1 : Int) : Nat → Int → Int → (Int → kp_R) → kp_R
  | 0, _, _, _ => none
  | n + 1, x7_1, x8_1, k => kp_ls x8_1 (σ_7 1 0) (kp_ck (0 ≤ x8_1 ∧ x8_1 < 10) (kp_ck (0 ≤ x6_1 ∧ x6_1 < 10) (kp_eq (σ_7 7 (Int.toNat x8_1)) (σ_7 7 (Int.toNat x6_1)) (kp_lt ((x7_1 + 1) : Int) (fun x7_4 => kp_lt (x8_1 + 1) (fun x8_3 => kl_X10_next_97 σ_7 x6_1 n x7_4 x8_3 k))) (kp_lt ((x7_1 + 0) : Int) (fun x7_3 => kp_lt (x8_1 + 1) (fun x8_2 => kl_X10_next_97 σ_7 x6_1 n x7_3 x8_2 k)))))) (k x7_1)
def kl_X10_next_80 (σ_7 : kp_W) : Nat → Int → Int → (Int → kp_R) → kp_R
  | 0, _, _, _ => none
  | n + 1, x5_3, x6_1, k => kp_ls x6_1 (σ_7 1 0) (kp_lt (0 : Int) (fun x7_0 => kp_lt (0 : Int) (fun x8_0 => kl_X10_next_97 σ_7 x6_1 kp_fu x7_0 x8_0 (fun (x7_2 : Int) => kp_ls x5_3 x7_2 (kp_lt (x7_2 : Int) (fun x5_6 => kp_lt (x6_1 + 1) (fun x6_4 => kl_X10_next_80 σ_7 n x5_6 x6_4 k))) (kp_lt (x5_3 : Int) (fun x5_5 => kp_lt (x6_1 + 1) (fun x6_3 => kl_X10_next_80 σ_7 n x5_5 x6_3 k))))))) (k x5_3)
def kl_X10_next_39 (x3_1 : Int) (x4_1 : Int) : Nat → Int → kp_W → (kp_W → kp_R) → kp_R
  | 0, _, _, _ => none
  | n + 1, x5_1, σ_6, k => kp_ls x5_1 (σ_6 1 0) (kp_ck (0 ≤ x5_1 ∧ x5_1 < 32) (kp_bd (kf_X10_heardOf (1 * 2 ^ (Int.toNat x5_1)) x3_1 x4_1 σ_6) (fun r_1 σ_8 => kp_ck (0 ≤ x5_1 ∧ x5_1 < 10) (kp_lt (kp_up σ_8 7 (Int.toNat x5_1) r_1) (fun σ_9 => kp_lt (x5_1 + 1) (fun x5_7 => kl_X10_next_39 x3_1 x4_1 n x5_7 σ_9 k)))))) (k σ_6)
def kl_X10_next_29 (x3_1 : Int) : Nat → Int → Int → Int → kp_W → (Int → Int → kp_W → kp_R) → kp_R
  | 0, _, _, _, _, _ => none
  | n + 1, x1_3, x2_2, x4_1, σ_4, k => kp_ls x4_1 40 (kp_lt (0 : Int) (fun x5_0 => kl_X10_next_39 x3_1 x4_1 kp_fu x5_0 σ_4 (fun (σ_7 : kp_W) => kp_lt (0 : Int) (fun x5_2 => kp_lt (0 : Int) (fun x6_0 => kl_X10_next_80 σ_7 kp_fu x5_2 x6_0 (fun (x5_4 : Int) => kp_jn (fun (v_0 : Int) => kp_lt (v_0 : Int) (fun x6_2 => kp_jn (fun (v_1 : Int) => kp_lt (v_1 : Int) (fun x1_5 => kp_eq x6_2 0 (kp_lt (x2_2 : Int) (fun x2_4 => kp_lt (x4_1 + 1) (fun x4_2 => kl_X10_next_29 x3_1 n x1_5 x2_4 x4_2 σ_7 k))) (kp_lt (x5_4 : Int) (fun x2_5 => kp_lt (x4_1 + 1) (fun x4_3 => kl_X10_next_29 x3_1 n x1_5 x2_5 x4_3 σ_7 k))))) (fun j198 => kp_eq x6_2 0 (j198 x1_3) (j198 ((100 * x3_1) + x4_1))))) (fun j180 => kp_jn (fun (_ : Unit) => j180 1) (fun j175 => kp_eq x1_3 (-5) (j175 ()) (kp_ls x5_4 x2_2 (j175 ()) (j180 0)))))))))) (k x1_3 x2_2 σ_4)
def kl_X10_next_11  : Nat → Int → Int → Int → kp_W → (Int → kp_W → kp_R) → kp_R
  | 0, _, _, _, _, _ => none
  | n + 1, x1_1, x2_1, x3_1, σ_2, k => kp_ls x3_1 10 (kp_ls 0 (σ_2 1 0) (kp_lt (0 : Int) (fun x4_0 => kl_X10_next_29 x3_1 kp_fu x1_1 x2_1 x4_0 σ_2 (fun (x1_4 : Int) (x2_3 : Int) (σ_5 : kp_W) => kp_lt (x3_1 + 1) (fun x3_2 => kl_X10_next_11 n x1_4 x2_3 x3_2 σ_5 k)))) (k x1_1 σ_2)) (k x1_1 σ_2)
def kf_X10_next   (σ_0 : kp_W) : kp_R :=
  kp_bd (kf_X10_goes σ_0) (fun r_0 σ_1 => kp_lt ((-5) : Int) (fun x1_0 => kp_lt (0 : Int) (fun x2_0 => kp_lt (0 : Int) (fun x3_0 => kl_X10_next_11 kp_fu x1_0 x2_0 x3_0 σ_1 (fun (x1_2 : Int) (σ_3 : kp_W) => some (x1_2, σ_3))))))
set_option maxRecDepth 100000 in
set_option maxHeartbeats 4000000 in
theorem kc_X10_next {l : Launch} {X : kp_X}  {σ_0 σ' : kp_W} {r : Int}   (hF : (kf_X10_next σ_0) = some (r, σ')) : kp_Met l yX10_next cX10_next 9 (some .int) 6 X kp_lM 10 σ_0 [.ref (kp_ad X 0)] (kp_Qi X kp_lM 10 σ' r) := by
  refine kp_body pnX10 (Nat.le_of_ble_eq_true rfl) ?_
  intro p e s m args below meth c ls C hr hlk G h hl
  unfold kf_X10_next at hF
  have hl : lv_has ls 9 [(0, .ref (kp_ad X 0))] := hl
  refine kp_aload_n C dX10_next_0 rfl (lv_at hl 0 rfl) ?_
  obtain ⟨r_0, σ_1, hc, hF⟩ := kp_bd_s hF
  refine kp_cv h (kp_rV (k := 0) (As := []) (rest := []) C G h (kc_X10_goes  hc) q5_11 q5_13 q0_4_0 q1_11 q5_14 ⟨rfl, hd_X10_goes⟩ (by decide) kp_lM0 rfl rfl hl.1 rfl (Nat.le_of_ble_eq_true rfl) dX10_next_1) (fun H locs h => ?_)
  refine kp_bipush C dX10_next_4 rfl ?_
  refine kp_istore_n (lv' := fun x1_0 => [(1, kp_iv x1_0), (0, .ref (kp_ad X 0))]) C dX10_next_6 rfl hl (by decide) (fun _ => rfl) hF (fun x1_0 ls hl hF => ?_)
  refine kp_iconst C dX10_next_7 ?_
  refine kp_istore_n (lv' := fun x2_0 => [(2, kp_iv x2_0), (1, kp_iv x1_0), (0, .ref (kp_ad X 0))]) C dX10_next_8 rfl hl (by decide) (fun _ => rfl) hF (fun x2_0 ls hl hF => ?_)
  refine kp_iconst C dX10_next_9 ?_
  refine kp_istore_n (lv' := fun x3_0 => [(3, kp_iv x3_0), (2, kp_iv x2_0), (1, kp_iv x1_0), (0, .ref (kp_ad X 0))]) C dX10_next_10 rfl hl (by decide) (fun _ => rfl) hF (fun x3_0 ls hl hF => ?_)
  have L11 : ∀ (n : Nat) (x1_1 : Int) (x2_1 : Int) (x3_1 : Int) (σ_2 : kp_W) (k : Int → kp_W → kp_R) (H : Heap) (locs : List Loc) (ls : Array Slot), kp_H X kp_lM 10 s σ_2 H locs → lv_has ls 9 [(0, .ref (kp_ad X 0)), (1, kp_iv x1_1), (2, kp_iv x2_1), (3, kp_iv x3_1)] → (∀ (x1_2 : Int) (σ_3 : kp_W) (H : Heap) (locs : List Loc) (ls : Array Slot), kp_H X kp_lM 10 s σ_3 H locs → lv_has ls 9 [(1, kp_iv x1_2)] → k x1_2 σ_3 = some (r, σ') → W p l e (kp_rm 6) s m args below meth c H locs 0 0 (MQ below (kp_Qi X kp_lM 10 σ' r) args s 0 0 (kp_A X 10)) (F0 m 223 ls [])) → kl_X10_next_11 n x1_1 x2_1 x3_1 σ_2 k = some (r, σ') → W p l e (kp_rm 6) s m args below meth c H locs 0 0 (MQ below (kp_Qi X kp_lM 10 σ' r) args s 0 0 (kp_A X 10)) (F0 m 11 ls []) := by
    intro n
    induction n with
    | zero =>
      intro x1_1 x2_1 x3_1 σ_2 k H locs ls h hl K hF
      rw [kl_X10_next_11] at hF
      cases hF
    | succ n ih =>
      intro x1_1 x2_1 x3_1 σ_2 k H locs ls h hl K hF
      rw [kl_X10_next_11] at hF
      refine kp_iload_n C dX10_next_11 rfl (lv_at hl 3 rfl) ?_
      refine kp_bipush C dX10_next_12 rfl ?_
      refine kp_icmp_ge (tgt := 223) C dX10_next_14 (by decide) hF (fun hF => ?_) (fun hF => ?_)
      · exact K _ _ _ _ _ h (lv_sub hl [1] rfl) hF
      · refine kp_aload_n C dX10_next_17 rfl (lv_at hl 0 rfl) ?_
        refine kp_getr C G h kp_lM0 rfl inWX10 (j := 1) (by decide) q4_45 rfl dX10_next_18 ?_
        refine kp_iconst C dX10_next_21 ?_
        refine kp_iald0 C G h (i := 0) (n := 1066) kp_lM1 (by decide) (by decide) dX10_next_22 ?_
        refine kp_if_le (tgt := 223) C dX10_next_23 (by decide) hF (fun hF => ?_) (fun hF => ?_)
        · exact K _ _ _ _ _ h (lv_sub hl [1] rfl) hF
        · refine kp_iconst C dX10_next_26 ?_
          refine kp_istore (lv' := fun x4_0 => [(4, kp_iv x4_0), (0, .ref (kp_ad X 0)), (1, kp_iv x1_1), (2, kp_iv x2_1), (3, kp_iv x3_1)]) C dX10_next_27 hl (by decide) (fun _ => rfl) hF (fun x4_0 ls hl hF => ?_)
          have L29 : ∀ (n : Nat) (x1_3 : Int) (x2_2 : Int) (x4_1 : Int) (σ_4 : kp_W) (k : Int → Int → kp_W → kp_R) (H : Heap) (locs : List Loc) (ls : Array Slot), kp_H X kp_lM 10 s σ_4 H locs → lv_has ls 9 [(0, .ref (kp_ad X 0)), (1, kp_iv x1_3), (2, kp_iv x2_2), (3, kp_iv x3_1), (4, kp_iv x4_1)] → (∀ (x1_4 : Int) (x2_3 : Int) (σ_5 : kp_W) (H : Heap) (locs : List Loc) (ls : Array Slot), kp_H X kp_lM 10 s σ_5 H locs → lv_has ls 9 [(0, .ref (kp_ad X 0)), (1, kp_iv x1_4), (2, kp_iv x2_3), (3, kp_iv x3_1)] → k x1_4 x2_3 σ_5 = some (r, σ') → W p l e (kp_rm 6) s m args below meth c H locs 0 0 (MQ below (kp_Qi X kp_lM 10 σ' r) args s 0 0 (kp_A X 10)) (F0 m 217 ls [])) → kl_X10_next_29 x3_1 n x1_3 x2_2 x4_1 σ_4 k = some (r, σ') → W p l e (kp_rm 6) s m args below meth c H locs 0 0 (MQ below (kp_Qi X kp_lM 10 σ' r) args s 0 0 (kp_A X 10)) (F0 m 29 ls []) := by
            intro n
            induction n with
            | zero =>
              intro x1_3 x2_2 x4_1 σ_4 k H locs ls h hl K hF
              rw [kl_X10_next_29] at hF
              cases hF
            | succ n ih =>
              intro x1_3 x2_2 x4_1 σ_4 k H locs ls h hl K hF
              rw [kl_X10_next_29] at hF
              refine kp_iload C dX10_next_29 (lv_at hl 4 rfl) ?_
              refine kp_bipush C dX10_next_31 rfl ?_
              refine kp_icmp_ge (tgt := 217) C dX10_next_33 (by decide) hF (fun hF => ?_) (fun hF => ?_)
              · exact K _ _ _ _ _ _ h (lv_sub hl [0, 1, 2, 3] rfl) hF
              · refine kp_iconst C dX10_next_36 ?_
                refine kp_istore (lv' := fun x5_0 => [(5, kp_iv x5_0), (0, .ref (kp_ad X 0)), (1, kp_iv x1_3), (2, kp_iv x2_2), (3, kp_iv x3_1), (4, kp_iv x4_1)]) C dX10_next_37 hl (by decide) (fun _ => rfl) hF (fun x5_0 ls hl hF => ?_)
                have L39 : ∀ (n : Nat) (x5_1 : Int) (σ_6 : kp_W) (k : kp_W → kp_R) (H : Heap) (locs : List Loc) (ls : Array Slot), kp_H X kp_lM 10 s σ_6 H locs → lv_has ls 9 [(0, .ref (kp_ad X 0)), (1, kp_iv x1_3), (2, kp_iv x2_2), (3, kp_iv x3_1), (4, kp_iv x4_1), (5, kp_iv x5_1)] → (∀ (σ_7 : kp_W) (H : Heap) (locs : List Loc) (ls : Array Slot), kp_H X kp_lM 10 s σ_7 H locs → lv_has ls 9 [(0, .ref (kp_ad X 0)), (1, kp_iv x1_3), (2, kp_iv x2_2), (3, kp_iv x3_1), (4, kp_iv x4_1)] → k σ_7 = some (r, σ') → W p l e (kp_rm 6) s m args below meth c H locs 0 0 (MQ below (kp_Qi X kp_lM 10 σ' r) args s 0 0 (kp_A X 10)) (F0 m 74 ls [])) → kl_X10_next_39 x3_1 x4_1 n x5_1 σ_6 k = some (r, σ') → W p l e (kp_rm 6) s m args below meth c H locs 0 0 (MQ below (kp_Qi X kp_lM 10 σ' r) args s 0 0 (kp_A X 10)) (F0 m 39 ls []) := by
                  intro n
                  induction n with
                  | zero =>
                    intro x5_1 σ_6 k H locs ls h hl K hF
                    rw [kl_X10_next_39] at hF
                    cases hF
                  | succ n ih =>
                    intro x5_1 σ_6 k H locs ls h hl K hF
                    rw [kl_X10_next_39] at hF
                    refine kp_iload C dX10_next_39 (lv_at hl 5 rfl) ?_
                    refine kp_aload_n C dX10_next_41 rfl (lv_at hl 0 rfl) ?_
                    refine kp_getr C G h kp_lM0 rfl inWX10 (j := 1) (by decide) q4_45 rfl dX10_next_42 ?_
                    refine kp_iconst C dX10_next_45 ?_
                    refine kp_iald0 C G h (i := 0) (n := 1066) kp_lM1 (by decide) (by decide) dX10_next_46 ?_
                    refine kp_icmp_ge (tgt := 74) C dX10_next_47 (by decide) hF (fun hF => ?_) (fun hF => ?_)
                    · exact K _ _ _ _ h (lv_sub hl [0, 1, 2, 3, 4] rfl) hF
                    · refine kp_aload_n C dX10_next_50 rfl (lv_at hl 0 rfl) ?_
                      refine kp_getr C G h kp_lM0 rfl inWX10 (j := 19) (by decide) q4_63 rfl dX10_next_51 ?_
                      refine kp_iload C dX10_next_54 (lv_at hl 5 rfl) ?_
                      refine kp_aload_n C dX10_next_56 rfl (lv_at hl 0 rfl) ?_
                      refine kp_iconst C dX10_next_57 ?_
                      refine kp_iload C dX10_next_58 (lv_at hl 5 rfl) ?_
                      refine kp_xishl C dX10_next_60 hF (fun hF => ?_)
                      refine kp_iload_n C dX10_next_61 rfl (lv_at hl 3 rfl) ?_
                      refine kp_iload C dX10_next_62 (lv_at hl 4 rfl) ?_
                      obtain ⟨r_1, σ_8, hc, hF⟩ := kp_bd_s hF
                      refine kp_ci h (kp_rV (k := 0) (As := [kp_iv (1 * 2 ^ (Int.toNat x5_1)), kp_iv x3_1, kp_iv x4_1]) (rest := [kp_iv x5_1, .ref (kp_ad X 7)]) C G h (kc_X10_heardOf  hc) q5_74 q5_76 q0_4_13 q1_11 q5_77 ⟨rfl, hd_X10_heardOf⟩ (by decide) kp_lM0 rfl rfl hl.1 rfl (Nat.le_of_ble_eq_true rfl) dX10_next_64) (fun H locs h => ?_)
                      refine kp_iast C G h (n := 10) kp_lM7 (by decide) dX10_next_67 hF (fun σ_9 H locs h hF => ?_)
                      refine kp_iinc (k := 5) (lv' := fun x5_7 => [(5, kp_iv x5_7), (0, .ref (kp_ad X 0)), (1, kp_iv x1_3), (2, kp_iv x2_2), (3, kp_iv x3_1), (4, kp_iv x4_1)]) C dX10_next_68 hl rfl (by decide) (fun _ => rfl) hF (fun x5_7 ls hl hF => ?_)
                      refine kp_goto (tgt := 39) C dX10_next_71 (by decide) ?_
                      exact ih _ _ k _ _ _ h (lv_sub hl [1, 2, 3, 4, 5, 0] rfl) K hF
                refine L39 kp_fu _ _ _ _ _ _ h (lv_sub hl [1, 2, 3, 4, 5, 0] rfl) (fun σ_7 H locs ls h hl hF => ?_) hF
                clear L39
                refine kp_iconst C dX10_next_74 ?_
                refine kp_istore (lv' := fun x5_2 => [(5, kp_iv x5_2), (0, .ref (kp_ad X 0)), (1, kp_iv x1_3), (2, kp_iv x2_2), (3, kp_iv x3_1), (4, kp_iv x4_1)]) C dX10_next_75 hl (by decide) (fun _ => rfl) hF (fun x5_2 ls hl hF => ?_)
                refine kp_iconst C dX10_next_77 ?_
                refine kp_istore (lv' := fun x6_0 => [(6, kp_iv x6_0), (5, kp_iv x5_2), (0, .ref (kp_ad X 0)), (1, kp_iv x1_3), (2, kp_iv x2_2), (3, kp_iv x3_1), (4, kp_iv x4_1)]) C dX10_next_78 hl (by decide) (fun _ => rfl) hF (fun x6_0 ls hl hF => ?_)
                have L80 : ∀ (n : Nat) (x5_3 : Int) (x6_1 : Int) (k : Int → kp_R) (H : Heap) (locs : List Loc) (ls : Array Slot), kp_H X kp_lM 10 s σ_7 H locs → lv_has ls 9 [(0, .ref (kp_ad X 0)), (1, kp_iv x1_3), (2, kp_iv x2_2), (3, kp_iv x3_1), (4, kp_iv x4_1), (5, kp_iv x5_3), (6, kp_iv x6_1)] → (∀ (x5_4 : Int) (H : Heap) (locs : List Loc) (ls : Array Slot), kp_H X kp_lM 10 s σ_7 H locs → lv_has ls 9 [(0, .ref (kp_ad X 0)), (1, kp_iv x1_3), (2, kp_iv x2_2), (3, kp_iv x3_1), (4, kp_iv x4_1), (5, kp_iv x5_4)] → k x5_4 = some (r, σ') → W p l e (kp_rm 6) s m args below meth c H locs 0 0 (MQ below (kp_Qi X kp_lM 10 σ' r) args s 0 0 (kp_A X 10)) (F0 m 163 ls [])) → kl_X10_next_80 σ_7 n x5_3 x6_1 k = some (r, σ') → W p l e (kp_rm 6) s m args below meth c H locs 0 0 (MQ below (kp_Qi X kp_lM 10 σ' r) args s 0 0 (kp_A X 10)) (F0 m 80 ls []) := by
                  intro n
                  induction n with
                  | zero =>
                    intro x5_3 x6_1 k H locs ls h hl K hF
                    rw [kl_X10_next_80] at hF
                    cases hF
                  | succ n ih =>
                    intro x5_3 x6_1 k H locs ls h hl K hF
                    rw [kl_X10_next_80] at hF
                    refine kp_iload C dX10_next_80 (lv_at hl 6 rfl) ?_
                    refine kp_aload_n C dX10_next_82 rfl (lv_at hl 0 rfl) ?_
                    refine kp_getr C G h kp_lM0 rfl inWX10 (j := 1) (by decide) q4_45 rfl dX10_next_83 ?_
                    refine kp_iconst C dX10_next_86 ?_
                    refine kp_iald0 C G h (i := 0) (n := 1066) kp_lM1 (by decide) (by decide) dX10_next_87 ?_
                    refine kp_icmp_ge (tgt := 163) C dX10_next_88 (by decide) hF (fun hF => ?_) (fun hF => ?_)
                    · exact K _ _ _ _ h (lv_sub hl [0, 1, 2, 3, 4, 5] rfl) hF
                    · refine kp_iconst C dX10_next_91 ?_
                      refine kp_istore (lv' := fun x7_0 => [(7, kp_iv x7_0), (0, .ref (kp_ad X 0)), (1, kp_iv x1_3), (2, kp_iv x2_2), (3, kp_iv x3_1), (4, kp_iv x4_1), (5, kp_iv x5_3), (6, kp_iv x6_1)]) C dX10_next_92 hl (by decide) (fun _ => rfl) hF (fun x7_0 ls hl hF => ?_)
                      refine kp_iconst C dX10_next_94 ?_
                      refine kp_istore (lv' := fun x8_0 => [(8, kp_iv x8_0), (7, kp_iv x7_0), (0, .ref (kp_ad X 0)), (1, kp_iv x1_3), (2, kp_iv x2_2), (3, kp_iv x3_1), (4, kp_iv x4_1), (5, kp_iv x5_3), (6, kp_iv x6_1)]) C dX10_next_95 hl (by decide) (fun _ => rfl) hF (fun x8_0 ls hl hF => ?_)
                      have L97 : ∀ (n : Nat) (x7_1 : Int) (x8_1 : Int) (k : Int → kp_R) (H : Heap) (locs : List Loc) (ls : Array Slot), kp_H X kp_lM 10 s σ_7 H locs → lv_has ls 9 [(0, .ref (kp_ad X 0)), (1, kp_iv x1_3), (2, kp_iv x2_2), (3, kp_iv x3_1), (4, kp_iv x4_1), (5, kp_iv x5_3), (6, kp_iv x6_1), (7, kp_iv x7_1), (8, kp_iv x8_1)] → (∀ (x7_2 : Int) (H : Heap) (locs : List Loc) (ls : Array Slot), kp_H X kp_lM 10 s σ_7 H locs → lv_has ls 9 [(0, .ref (kp_ad X 0)), (1, kp_iv x1_3), (2, kp_iv x2_2), (3, kp_iv x3_1), (4, kp_iv x4_1), (5, kp_iv x5_3), (6, kp_iv x6_1), (7, kp_iv x7_2)] → k x7_2 = some (r, σ') → W p l e (kp_rm 6) s m args below meth c H locs 0 0 (MQ below (kp_Qi X kp_lM 10 σ' r) args s 0 0 (kp_A X 10)) (F0 m 141 ls [])) → kl_X10_next_97 σ_7 x6_1 n x7_1 x8_1 k = some (r, σ') → W p l e (kp_rm 6) s m args below meth c H locs 0 0 (MQ below (kp_Qi X kp_lM 10 σ' r) args s 0 0 (kp_A X 10)) (F0 m 97 ls []) := by
                        intro n
                        induction n with
                        | zero =>
                          intro x7_1 x8_1 k H locs ls h hl K hF
                          rw [kl_X10_next_97] at hF
                          cases hF
                        | succ n ih =>
                          intro x7_1 x8_1 k H locs ls h hl K hF
                          rw [kl_X10_next_97] at hF
                          refine kp_iload C dX10_next_97 (lv_at hl 8 rfl) ?_
                          refine kp_aload_n C dX10_next_99 rfl (lv_at hl 0 rfl) ?_
                          refine kp_getr C G h kp_lM0 rfl inWX10 (j := 1) (by decide) q4_45 rfl dX10_next_100 ?_
                          refine kp_iconst C dX10_next_103 ?_
                          refine kp_iald0 C G h (i := 0) (n := 1066) kp_lM1 (by decide) (by decide) dX10_next_104 ?_
                          refine kp_icmp_ge (tgt := 141) C dX10_next_105 (by decide) hF (fun hF => ?_) (fun hF => ?_)
                          · exact K _ _ _ _ h (lv_sub hl [0, 1, 2, 3, 4, 5, 6, 7] rfl) hF
                          · refine kp_iload C dX10_next_108 (lv_at hl 7 rfl) ?_
                            refine kp_aload_n C dX10_next_110 rfl (lv_at hl 0 rfl) ?_
                            refine kp_getr C G h kp_lM0 rfl inWX10 (j := 19) (by decide) q4_63 rfl dX10_next_111 ?_
                            refine kp_iload C dX10_next_114 (lv_at hl 8 rfl) ?_
                            refine kp_iald C G h (n := 10) kp_lM7 (by decide) dX10_next_116 hF (fun hF => ?_)
                            refine kp_aload_n C dX10_next_117 rfl (lv_at hl 0 rfl) ?_
                            refine kp_getr C G h kp_lM0 rfl inWX10 (j := 19) (by decide) q4_63 rfl dX10_next_118 ?_
                            refine kp_iload C dX10_next_121 (lv_at hl 6 rfl) ?_
                            refine kp_iald C G h (n := 10) kp_lM7 (by decide) dX10_next_123 hF (fun hF => ?_)
                            refine kp_icmp_ne (tgt := 131) C dX10_next_124 (by decide) hF (fun hF => ?_) (fun hF => ?_)
                            · refine kp_iconst C dX10_next_131 ?_
                              refine kp_iadd C dX10_next_132 ?_
                              refine kp_istore (lv' := fun x7_3 => [(7, kp_iv x7_3), (0, .ref (kp_ad X 0)), (1, kp_iv x1_3), (2, kp_iv x2_2), (3, kp_iv x3_1), (4, kp_iv x4_1), (5, kp_iv x5_3), (6, kp_iv x6_1), (8, kp_iv x8_1)]) C dX10_next_133 hl (by decide) (fun _ => rfl) hF (fun x7_3 ls hl hF => ?_)
                              refine kp_iinc (k := 8) (lv' := fun x8_2 => [(8, kp_iv x8_2), (7, kp_iv x7_3), (0, .ref (kp_ad X 0)), (1, kp_iv x1_3), (2, kp_iv x2_2), (3, kp_iv x3_1), (4, kp_iv x4_1), (5, kp_iv x5_3), (6, kp_iv x6_1)]) C dX10_next_135 hl rfl (by decide) (fun _ => rfl) hF (fun x8_2 ls hl hF => ?_)
                              refine kp_goto (tgt := 97) C dX10_next_138 (by decide) ?_
                              exact ih _ _ k _ _ _ h (lv_sub hl [2, 3, 4, 5, 6, 7, 8, 1, 0] rfl) K hF
                            · refine kp_iconst C dX10_next_127 ?_
                              refine kp_goto (tgt := 132) C dX10_next_128 (by decide) ?_
                              refine kp_iadd C dX10_next_132 ?_
                              refine kp_istore (lv' := fun x7_4 => [(7, kp_iv x7_4), (0, .ref (kp_ad X 0)), (1, kp_iv x1_3), (2, kp_iv x2_2), (3, kp_iv x3_1), (4, kp_iv x4_1), (5, kp_iv x5_3), (6, kp_iv x6_1), (8, kp_iv x8_1)]) C dX10_next_133 hl (by decide) (fun _ => rfl) hF (fun x7_4 ls hl hF => ?_)
                              refine kp_iinc (k := 8) (lv' := fun x8_3 => [(8, kp_iv x8_3), (7, kp_iv x7_4), (0, .ref (kp_ad X 0)), (1, kp_iv x1_3), (2, kp_iv x2_2), (3, kp_iv x3_1), (4, kp_iv x4_1), (5, kp_iv x5_3), (6, kp_iv x6_1)]) C dX10_next_135 hl rfl (by decide) (fun _ => rfl) hF (fun x8_3 ls hl hF => ?_)
                              refine kp_goto (tgt := 97) C dX10_next_138 (by decide) ?_
                              exact ih _ _ k _ _ _ h (lv_sub hl [2, 3, 4, 5, 6, 7, 8, 1, 0] rfl) K hF
                      refine L97 kp_fu _ _ _ _ _ _ h (lv_sub hl [2, 3, 4, 5, 6, 7, 8, 1, 0] rfl) (fun x7_2 H locs ls h hl hF => ?_) hF
                      clear L97
                      refine kp_iload C dX10_next_141 (lv_at hl 7 rfl) ?_
                      refine kp_iload C dX10_next_143 (lv_at hl 5 rfl) ?_
                      refine kp_icmp_le (tgt := 153) C dX10_next_145 (by decide) hF (fun hF => ?_) (fun hF => ?_)
                      · refine kp_iload C dX10_next_153 (lv_at hl 5 rfl) ?_
                        refine kp_istore (lv' := fun x5_5 => [(5, kp_iv x5_5), (0, .ref (kp_ad X 0)), (1, kp_iv x1_3), (2, kp_iv x2_2), (3, kp_iv x3_1), (4, kp_iv x4_1), (6, kp_iv x6_1), (7, kp_iv x7_2)]) C dX10_next_155 hl (by decide) (fun _ => rfl) hF (fun x5_5 ls hl hF => ?_)
                        refine kp_iinc (k := 6) (lv' := fun x6_3 => [(6, kp_iv x6_3), (5, kp_iv x5_5), (0, .ref (kp_ad X 0)), (1, kp_iv x1_3), (2, kp_iv x2_2), (3, kp_iv x3_1), (4, kp_iv x4_1), (7, kp_iv x7_2)]) C dX10_next_157 hl rfl (by decide) (fun _ => rfl) hF (fun x6_3 ls hl hF => ?_)
                        refine kp_goto (tgt := 80) C dX10_next_160 (by decide) ?_
                        exact ih _ _ k _ _ _ h (lv_sub hl [2, 3, 4, 5, 6, 1, 0] rfl) K hF
                      · refine kp_iload C dX10_next_148 (lv_at hl 7 rfl) ?_
                        refine kp_goto (tgt := 155) C dX10_next_150 (by decide) ?_
                        refine kp_istore (lv' := fun x5_6 => [(5, kp_iv x5_6), (0, .ref (kp_ad X 0)), (1, kp_iv x1_3), (2, kp_iv x2_2), (3, kp_iv x3_1), (4, kp_iv x4_1), (6, kp_iv x6_1), (7, kp_iv x7_2)]) C dX10_next_155 hl (by decide) (fun _ => rfl) hF (fun x5_6 ls hl hF => ?_)
                        refine kp_iinc (k := 6) (lv' := fun x6_4 => [(6, kp_iv x6_4), (5, kp_iv x5_6), (0, .ref (kp_ad X 0)), (1, kp_iv x1_3), (2, kp_iv x2_2), (3, kp_iv x3_1), (4, kp_iv x4_1), (7, kp_iv x7_2)]) C dX10_next_157 hl rfl (by decide) (fun _ => rfl) hF (fun x6_4 ls hl hF => ?_)
                        refine kp_goto (tgt := 80) C dX10_next_160 (by decide) ?_
                        exact ih _ _ k _ _ _ h (lv_sub hl [2, 3, 4, 5, 6, 1, 0] rfl) K hF
                refine L80 kp_fu _ _ _ _ _ _ h (lv_sub hl [2, 3, 4, 5, 6, 1, 0] rfl) (fun x5_4 H locs ls h hl hF => ?_) hF
                clear L80
                refine kp_iload_n C dX10_next_163 rfl (lv_at hl 1 rfl) ?_
                refine kp_bipush C dX10_next_164 rfl ?_
                obtain ⟨j180, ej180, hF⟩ := kp_jn_s hF
                have J180 : ∀ (v_0 : Int), ∀ (H : Heap) (locs : List Loc) (ls : Array Slot), kp_H X kp_lM 10 s σ_7 H locs → lv_has ls 9 [(0, .ref (kp_ad X 0)), (1, kp_iv x1_3), (2, kp_iv x2_2), (3, kp_iv x3_1), (4, kp_iv x4_1), (5, kp_iv x5_4)] → j180 v_0 = some (r, σ') → W p l e (kp_rm 6) s m args below meth c H locs 0 0 (MQ below (kp_Qi X kp_lM 10 σ' r) args s 0 0 (kp_A X 10)) (F0 m 180 ls [kp_iv v_0]) := by
                  intro v_0 H locs ls h hl hF
                  rw [ej180] at hF
                  refine kp_istore (lv' := fun x6_2 => [(6, kp_iv x6_2), (0, .ref (kp_ad X 0)), (1, kp_iv x1_3), (2, kp_iv x2_2), (3, kp_iv x3_1), (4, kp_iv x4_1), (5, kp_iv x5_4)]) C dX10_next_180 hl (by decide) (fun _ => rfl) hF (fun x6_2 ls hl hF => ?_)
                  refine kp_iload C dX10_next_182 (lv_at hl 0 rfl) ?_
                  obtain ⟨j198, ej198, hF⟩ := kp_jn_s hF
                  have J198 : ∀ (v_1 : Int), ∀ (H : Heap) (locs : List Loc) (ls : Array Slot), kp_H X kp_lM 10 s σ_7 H locs → lv_has ls 9 [(0, .ref (kp_ad X 0)), (2, kp_iv x2_2), (3, kp_iv x3_1), (4, kp_iv x4_1), (5, kp_iv x5_4), (6, kp_iv x6_2)] → j198 v_1 = some (r, σ') → W p l e (kp_rm 6) s m args below meth c H locs 0 0 (MQ below (kp_Qi X kp_lM 10 σ' r) args s 0 0 (kp_A X 10)) (F0 m 198 ls [kp_iv v_1]) := by
                    intro v_1 H locs ls h hl hF
                    rw [ej198] at hF
                    refine kp_istore_n (lv' := fun x1_5 => [(1, kp_iv x1_5), (0, .ref (kp_ad X 0)), (2, kp_iv x2_2), (3, kp_iv x3_1), (4, kp_iv x4_1), (5, kp_iv x5_4), (6, kp_iv x6_2)]) C dX10_next_198 rfl hl (by decide) (fun _ => rfl) hF (fun x1_5 ls hl hF => ?_)
                    refine kp_iload C dX10_next_199 (lv_at hl 6 rfl) ?_
                    refine kp_if_eq (tgt := 209) C dX10_next_201 (by decide) hF (fun hF => ?_) (fun hF => ?_)
                    · refine kp_iload_n C dX10_next_209 rfl (lv_at hl 2 rfl) ?_
                      refine kp_istore_n (lv' := fun x2_4 => [(2, kp_iv x2_4), (1, kp_iv x1_5), (0, .ref (kp_ad X 0)), (3, kp_iv x3_1), (4, kp_iv x4_1), (5, kp_iv x5_4), (6, kp_iv x6_2)]) C dX10_next_210 rfl hl (by decide) (fun _ => rfl) hF (fun x2_4 ls hl hF => ?_)
                      refine kp_iinc (k := 4) (lv' := fun x4_2 => [(4, kp_iv x4_2), (2, kp_iv x2_4), (1, kp_iv x1_5), (0, .ref (kp_ad X 0)), (3, kp_iv x3_1), (5, kp_iv x5_4), (6, kp_iv x6_2)]) C dX10_next_211 hl rfl (by decide) (fun _ => rfl) hF (fun x4_2 ls hl hF => ?_)
                      refine kp_goto (tgt := 29) C dX10_next_214 (by decide) ?_
                      exact ih _ _ _ _ k _ _ _ h (lv_sub hl [3, 2, 1, 4, 0] rfl) K hF
                    · refine kp_iload C dX10_next_204 (lv_at hl 5 rfl) ?_
                      refine kp_goto (tgt := 210) C dX10_next_206 (by decide) ?_
                      refine kp_istore_n (lv' := fun x2_5 => [(2, kp_iv x2_5), (1, kp_iv x1_5), (0, .ref (kp_ad X 0)), (3, kp_iv x3_1), (4, kp_iv x4_1), (5, kp_iv x5_4), (6, kp_iv x6_2)]) C dX10_next_210 rfl hl (by decide) (fun _ => rfl) hF (fun x2_5 ls hl hF => ?_)
                      refine kp_iinc (k := 4) (lv' := fun x4_3 => [(4, kp_iv x4_3), (2, kp_iv x2_5), (1, kp_iv x1_5), (0, .ref (kp_ad X 0)), (3, kp_iv x3_1), (5, kp_iv x5_4), (6, kp_iv x6_2)]) C dX10_next_211 hl rfl (by decide) (fun _ => rfl) hF (fun x4_3 ls hl hF => ?_)
                      refine kp_goto (tgt := 29) C dX10_next_214 (by decide) ?_
                      exact ih _ _ _ _ k _ _ _ h (lv_sub hl [3, 2, 1, 4, 0] rfl) K hF
                  clear ej198
                  refine kp_if_eq (tgt := 197) C dX10_next_184 (by decide) hF (fun hF => ?_) (fun hF => ?_)
                  · refine kp_iload_n C dX10_next_197 rfl (lv_at hl 2 rfl) ?_
                    exact J198 _ _ _ _ h (lv_sub hl [1, 3, 4, 5, 6, 0] rfl) hF
                  · refine kp_bipush C dX10_next_187 rfl ?_
                    refine kp_iload_n C dX10_next_189 rfl (lv_at hl 4 rfl) ?_
                    refine kp_imul C dX10_next_190 ?_
                    refine kp_iload C dX10_next_191 (lv_at hl 5 rfl) ?_
                    refine kp_iadd C dX10_next_193 ?_
                    refine kp_goto (tgt := 198) C dX10_next_194 (by decide) ?_
                    exact J198 _ _ _ _ h (lv_sub hl [1, 3, 4, 5, 6, 0] rfl) hF
                clear ej180
                obtain ⟨j175, ej175, hF⟩ := kp_jn_s hF
                have J175 : ∀ _ : Unit, ∀ (H : Heap) (locs : List Loc) (ls : Array Slot), kp_H X kp_lM 10 s σ_7 H locs → lv_has ls 9 [(0, .ref (kp_ad X 0)), (1, kp_iv x1_3), (2, kp_iv x2_2), (3, kp_iv x3_1), (4, kp_iv x4_1), (5, kp_iv x5_4)] → j175 () = some (r, σ') → W p l e (kp_rm 6) s m args below meth c H locs 0 0 (MQ below (kp_Qi X kp_lM 10 σ' r) args s 0 0 (kp_A X 10)) (F0 m 175 ls []) := by
                  intro _ H locs ls h hl hF
                  rw [ej175] at hF
                  refine kp_iconst C dX10_next_175 ?_
                  refine kp_goto (tgt := 180) C dX10_next_176 (by decide) ?_
                  exact J180 _ _ _ _ h (lv_sub hl [0, 1, 2, 3, 4, 5] rfl) hF
                clear ej175
                refine kp_icmp_eq (tgt := 175) C dX10_next_166 (by decide) hF (fun hF => ?_) (fun hF => ?_)
                · exact J175 () _ _ _ h (lv_sub hl [0, 1, 2, 3, 4, 5] rfl) hF
                · refine kp_iload C dX10_next_169 (lv_at hl 5 rfl) ?_
                  refine kp_iload_n C dX10_next_171 rfl (lv_at hl 2 rfl) ?_
                  refine kp_icmp_ge (tgt := 179) C dX10_next_172 (by decide) hF (fun hF => ?_) (fun hF => ?_)
                  · refine kp_iconst C dX10_next_179 ?_
                    exact J180 _ _ _ _ h (lv_sub hl [0, 1, 2, 3, 4, 5] rfl) hF
                  · exact J175 () _ _ _ h (lv_sub hl [0, 1, 2, 3, 4, 5] rfl) hF
          refine L29 kp_fu _ _ _ _ _ _ _ _ h (lv_sub hl [1, 2, 3, 4, 0] rfl) (fun x1_4 x2_3 σ_5 H locs ls h hl hF => ?_) hF
          clear L29
          refine kp_iinc (k := 3) (lv' := fun x3_2 => [(3, kp_iv x3_2), (0, .ref (kp_ad X 0)), (1, kp_iv x1_4), (2, kp_iv x2_3)]) C dX10_next_217 hl rfl (by decide) (fun _ => rfl) hF (fun x3_2 ls hl hF => ?_)
          refine kp_goto (tgt := 11) C dX10_next_220 (by decide) ?_
          exact ih _ _ _ _ k _ _ _ h (lv_sub hl [1, 2, 3, 0] rfl) K hF
  refine L11 kp_fu _ _ _ _ _ _ _ _ h (lv_sub hl [3, 2, 1, 0] rfl) (fun x1_2 σ_3 H locs ls h hl hF => ?_) hF
  clear L11
  refine kp_iload_n C dX10_next_223 rfl (lv_at hl 0 rfl) ?_
  exact kp_reti C hr hlk G h dX10_next_224 hF
