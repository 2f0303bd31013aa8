-- by program (wip/whole/gen/drive.py)
def kl_X9_rowsHeard_4  : Nat → Int → Int → kp_W → (Int → kp_W → kp_R) → kp_R
  | 0, _, _, _, _ => none
  | n + 1, x1_1, x2_1, σ_1, k => kp_ls x2_1 (σ_1 16 3) (kp_ck (0 ≤ x2_1 ∧ x2_1 < 12) (kp_ck (0 ≤ x2_1 ∧ x2_1 < 12) (kp_bd (kf_X9_heardAt (σ_1 17 (Int.toNat x2_1)) (σ_1 18 (Int.toNat x2_1)) σ_1) (fun r_0 σ_3 => kp_ck (0 ≤ x2_1 ∧ x2_1 < 12) (kp_eq r_0 (σ_3 19 (Int.toNat x2_1)) (kp_lt (x1_1 + 1) (fun x1_3 => kp_lt (x2_1 + 1) (fun x2_3 => kl_X9_rowsHeard_4 n x1_3 x2_3 σ_3 k))) (kp_lt (x2_1 + 1) (fun x2_2 => kl_X9_rowsHeard_4 n x1_1 x2_2 σ_3 k))))))) (k x1_1 σ_1)
def kf_X9_rowsHeard   (σ_0 : kp_W) : kp_R :=
  kp_lt (0 : Int) (fun x1_0 => kp_lt (0 : Int) (fun x2_0 => kl_X9_rowsHeard_4 kp_fu x1_0 x2_0 σ_0 (fun (x1_2 : Int) (σ_2 : kp_W) => some (x1_2, σ_2))))
set_option maxRecDepth 100000 in
set_option maxHeartbeats 4000000 in
theorem kc_X9_rowsHeard {l : Launch} {X : kp_X}  {σ_0 σ' : kp_W} {r : Int}   (hF : (kf_X9_rowsHeard σ_0) = some (r, σ')) : kp_Met l yX9_rowsHeard cX9_rowsHeard 3 (some .int) 6 X kp_lK 58 σ_0 [.ref (kp_ad X 0)] (kp_Qi X kp_lK 58 σ' r) := by
  refine kp_body pnX9 (Nat.le_of_ble_eq_true rfl) ?_
  intro p e s m args below meth c ls C hr hlk G h hl
  unfold kf_X9_rowsHeard at hF
  have hl : lv_has ls 3 [(0, .ref (kp_ad X 0))] := hl
  refine kp_iconst C dX9_rowsHeard_0 ?_
  refine kp_istore_n (lv' := fun x1_0 => [(1, kp_iv x1_0), (0, .ref (kp_ad X 0))]) C dX9_rowsHeard_1 rfl hl (by decide) (fun _ => rfl) hF (fun x1_0 ls hl hF => ?_)
  refine kp_iconst C dX9_rowsHeard_2 ?_
  refine kp_istore_n (lv' := fun x2_0 => [(2, kp_iv x2_0), (1, kp_iv x1_0), (0, .ref (kp_ad X 0))]) C dX9_rowsHeard_3 rfl hl (by decide) (fun _ => rfl) hF (fun x2_0 ls hl hF => ?_)
  have L4 : ∀ (n : Nat) (x1_1 : Int) (x2_1 : Int) (σ_1 : kp_W) (k : Int → kp_W → kp_R) (H : Heap) (locs : List Loc) (ls : Array Slot), kp_H X kp_lK 58 s σ_1 H locs → lv_has ls 3 [(0, .ref (kp_ad X 0)), (1, kp_iv x1_1), (2, kp_iv x2_1)] → (∀ (x1_2 : Int) (σ_2 : kp_W) (H : Heap) (locs : List Loc) (ls : Array Slot), kp_H X kp_lK 58 s σ_2 H locs → lv_has ls 3 [(1, kp_iv x1_2)] → k x1_2 σ_2 = some (r, σ') → W p l e (kp_rm 6) s m args below meth c H locs 0 0 (MQ below (kp_Qi X kp_lK 58 σ' r) args s 0 0 (kp_A X 58)) (F0 m 70 ls [])) → kl_X9_rowsHeard_4 n x1_1 x2_1 σ_1 k = some (r, σ') → W p l e (kp_rm 6) s m args below meth c H locs 0 0 (MQ below (kp_Qi X kp_lK 58 σ' r) args s 0 0 (kp_A X 58)) (F0 m 4 ls []) := by
    intro n
    induction n with
    | zero =>
      intro x1_1 x2_1 σ_1 k H locs ls h hl K hF
      rw [kl_X9_rowsHeard_4] at hF
      cases hF
    | succ n ih =>
      intro x1_1 x2_1 σ_1 k H locs ls h hl K hF
      rw [kl_X9_rowsHeard_4] at hF
      refine kp_iload_n C dX9_rowsHeard_4 rfl (lv_at hl 2 rfl) ?_
      refine kp_aload_n C dX9_rowsHeard_5 rfl (lv_at hl 0 rfl) ?_
      refine kp_getr C G h kp_lK0 rfl inWX9 (j := 0) (by decide) q2_14 rfl dX9_rowsHeard_6 ?_
      refine kp_getr C G h kp_lK1 rfl inWX1 (j := 4) (by decide) q1_166 rfl dX9_rowsHeard_9 ?_
      refine kp_geti C G h kp_lK16 rfl inWX4 (j := 3) (by decide) q1_147 rfl dX9_rowsHeard_12 ?_
      refine kp_icmp_ge (tgt := 70) C dX9_rowsHeard_15 (by decide) hF (fun hF => ?_) (fun hF => ?_)
      · exact K _ _ _ _ _ h (lv_sub hl [1] rfl) hF
      · refine kp_aload_n C dX9_rowsHeard_18 rfl (lv_at hl 0 rfl) ?_
        refine kp_aload_n C dX9_rowsHeard_19 rfl (lv_at hl 0 rfl) ?_
        refine kp_getr C G h kp_lK0 rfl inWX9 (j := 0) (by decide) q2_14 rfl dX9_rowsHeard_20 ?_
        refine kp_getr C G h kp_lK1 rfl inWX1 (j := 4) (by decide) q1_166 rfl dX9_rowsHeard_23 ?_
        refine kp_getr C G h kp_lK16 rfl inWX4 (j := 0) (by decide) q1_141 rfl dX9_rowsHeard_26 ?_
        refine kp_iload_n C dX9_rowsHeard_29 rfl (lv_at hl 2 rfl) ?_
        refine kp_iald C G h (n := 12) kp_lK17 (by decide) dX9_rowsHeard_30 hF (fun hF => ?_)
        refine kp_aload_n C dX9_rowsHeard_31 rfl (lv_at hl 0 rfl) ?_
        refine kp_getr C G h kp_lK0 rfl inWX9 (j := 0) (by decide) q2_14 rfl dX9_rowsHeard_32 ?_
        refine kp_getr C G h kp_lK1 rfl inWX1 (j := 4) (by decide) q1_166 rfl dX9_rowsHeard_35 ?_
        refine kp_getr C G h kp_lK16 rfl inWX4 (j := 1) (by decide) q1_143 rfl dX9_rowsHeard_38 ?_
        refine kp_iload_n C dX9_rowsHeard_41 rfl (lv_at hl 2 rfl) ?_
        refine kp_iald C G h (n := 12) kp_lK18 (by decide) dX9_rowsHeard_42 hF (fun hF => ?_)
        obtain ⟨r_0, σ_3, hc, hF⟩ := kp_bd_s hF
        refine kp_ci h (kp_rV (k := 0) (As := [kp_iv (σ_1 17 (Int.toNat x2_1)), kp_iv (σ_1 18 (Int.toNat x2_1))]) (rest := []) C G h (kc_X9_heardAt  hc) q3_99 q3_101 q0_2_2 q1_1 q3_102 ⟨rfl, hd_X9_heardAt⟩ (by decide) kp_lK0 rfl rfl hl.1 rfl (Nat.le_of_ble_eq_true rfl) dX9_rowsHeard_43) (fun H locs h => ?_)
        refine kp_aload_n C dX9_rowsHeard_46 rfl (lv_at hl 0 rfl) ?_
        refine kp_getr C G h kp_lK0 rfl inWX9 (j := 0) (by decide) q2_14 rfl dX9_rowsHeard_47 ?_
        refine kp_getr C G h kp_lK1 rfl inWX1 (j := 4) (by decide) q1_166 rfl dX9_rowsHeard_50 ?_
        refine kp_getr C G h kp_lK16 rfl inWX4 (j := 2) (by decide) q1_145 rfl dX9_rowsHeard_53 ?_
        refine kp_iload_n C dX9_rowsHeard_56 rfl (lv_at hl 2 rfl) ?_
        refine kp_iald C G h (n := 12) kp_lK19 (by decide) dX9_rowsHeard_57 hF (fun hF => ?_)
        refine kp_icmp_ne (tgt := 64) C dX9_rowsHeard_58 (by decide) hF (fun hF => ?_) (fun hF => ?_)
        · refine kp_iinc (k := 2) (lv' := fun x2_2 => [(2, kp_iv x2_2), (0, .ref (kp_ad X 0)), (1, kp_iv x1_1)]) C dX9_rowsHeard_64 hl rfl (by decide) (fun _ => rfl) hF (fun x2_2 ls hl hF => ?_)
          refine kp_goto (tgt := 4) C dX9_rowsHeard_67 (by decide) ?_
          exact ih _ _ _ k _ _ _ h (lv_sub hl [1, 2, 0] rfl) K hF
        · refine kp_iinc (k := 1) (lv' := fun x1_3 => [(1, kp_iv x1_3), (0, .ref (kp_ad X 0)), (2, kp_iv x2_1)]) C dX9_rowsHeard_61 hl rfl (by decide) (fun _ => rfl) hF (fun x1_3 ls hl hF => ?_)
          refine kp_iinc (k := 2) (lv' := fun x2_3 => [(2, kp_iv x2_3), (1, kp_iv x1_3), (0, .ref (kp_ad X 0))]) C dX9_rowsHeard_64 hl rfl (by decide) (fun _ => rfl) hF (fun x2_3 ls hl hF => ?_)
          refine kp_goto (tgt := 4) C dX9_rowsHeard_67 (by decide) ?_
          exact ih _ _ _ k _ _ _ h (lv_sub hl [2, 1, 0] rfl) K hF
  refine L4 kp_fu _ _ _ _ _ _ _ h (lv_sub hl [2, 1, 0] rfl) (fun x1_2 σ_2 H locs ls h hl hF => ?_) hF
  clear L4
  refine kp_iload_n C dX9_rowsHeard_70 rfl (lv_at hl 0 rfl) ?_
  exact kp_reti C hr hlk G h dX9_rowsHeard_71 hF
def kl_X9_older_12 (x1_0 : Int) : Nat → Int → kp_W → (Int → kp_W → kp_R) → kp_R
  | 0, _, _, _ => none
  | n + 1, x2_1, σ_3, k => kp_ls 0 x2_1 (kp_ck (0 ≤ x2_1 ∧ x2_1 < 64) (kp_bd (kf_X9_ring (kp_andL ((σ_3 2 0) * 2 ^ (Int.toNat x2_1)) 1099511627775) (σ_3 2 1) (σ_3 2 2) σ_3) (fun r_2 σ_6 => kp_bd (kf_X9_rowsHeard σ_6) (fun r_3 σ_7 => kp_ls r_3 x1_0 (kp_lt (x2_1 + (-1)) (fun x2_3 => kl_X9_older_12 x1_0 n x2_3 σ_7 k)) (k x2_1 σ_7))))) (k x2_1 σ_3)
def kf_X9_older   (σ_0 : kp_W) : kp_R :=
  kp_bd (kf_X9_settle σ_0) (fun r_0 σ_1 => kp_bd (kf_X9_rowsHeard σ_1) (fun r_1 σ_2 => kp_lt (r_1 : Int) (fun x1_0 => kp_lt (40 : Int) (fun x2_0 => kl_X9_older_12 x1_0 kp_fu x2_0 σ_2 (fun (x2_2 : Int) (σ_4 : kp_W) => kp_lt (kp_up σ_4 0 6 0) (fun σ_5 => some (x2_2, σ_5)))))))
set_option maxRecDepth 100000 in
set_option maxHeartbeats 4000000 in
theorem kc_X9_older {l : Launch} {X : kp_X}  {σ_0 σ' : kp_W} {r : Int}   (hF : (kf_X9_older σ_0) = some (r, σ')) : kp_Met l yX9_older cX9_older 3 (some .int) 7 X kp_lK 58 σ_0 [.ref (kp_ad X 0)] (kp_Qi X kp_lK 58 σ' r) := by
  refine kp_body pnX9 (Nat.le_of_ble_eq_true rfl) ?_
  intro p e s m args below meth c ls C hr hlk G h hl
  unfold kf_X9_older at hF
  have hl : lv_has ls 3 [(0, .ref (kp_ad X 0))] := hl
  refine kp_aload_n C dX9_older_0 rfl (lv_at hl 0 rfl) ?_
  obtain ⟨r_0, σ_1, hc, hF⟩ := kp_bd_s hF
  refine kp_cv h (kp_rV (k := 0) (As := []) (rest := []) C G h (kc_X9_settle  hc) q2_194 q2_196 q0_1_11 q1_1 q2_197 ⟨rfl, hd_X9_settle⟩ (by decide) kp_lK0 rfl rfl hl.1 rfl (Nat.le_of_ble_eq_true rfl) dX9_older_1) (fun H locs h => ?_)
  refine kp_aload_n C dX9_older_4 rfl (lv_at hl 0 rfl) ?_
  obtain ⟨r_1, σ_2, hc, hF⟩ := kp_bd_s hF
  refine kp_ci h (kp_rV (k := 0) (As := []) (rest := []) C G h (kc_X9_rowsHeard  hc) q3_226 q3_228 q0_2_15 q1_1 q3_229 ⟨rfl, hd_X9_rowsHeard⟩ (by decide) kp_lK0 rfl rfl hl.1 rfl (Nat.le_of_ble_eq_true rfl) dX9_older_5) (fun H locs h => ?_)
  refine kp_istore_n (lv' := fun x1_0 => [(1, kp_iv x1_0), (0, .ref (kp_ad X 0))]) C dX9_older_8 rfl hl (by decide) (fun _ => rfl) hF (fun x1_0 ls hl hF => ?_)
  refine kp_bipush C dX9_older_9 rfl ?_
  refine kp_istore_n (lv' := fun x2_0 => [(2, kp_iv x2_0), (1, kp_iv x1_0), (0, .ref (kp_ad X 0))]) C dX9_older_11 rfl hl (by decide) (fun _ => rfl) hF (fun x2_0 ls hl hF => ?_)
  have L12 : ∀ (n : Nat) (x2_1 : Int) (σ_3 : kp_W) (k : Int → kp_W → kp_R) (H : Heap) (locs : List Loc) (ls : Array Slot), kp_H X kp_lK 58 s σ_3 H locs → lv_has ls 3 [(0, .ref (kp_ad X 0)), (1, kp_iv x1_0), (2, kp_iv x2_1)] → (∀ (x2_2 : Int) (σ_4 : kp_W) (H : Heap) (locs : List Loc) (ls : Array Slot), kp_H X kp_lK 58 s σ_4 H locs → lv_has ls 3 [(0, .ref (kp_ad X 0)), (2, kp_iv x2_2)] → k x2_2 σ_4 = some (r, σ') → W p l e (kp_rm 7) s m args below meth c H locs 0 0 (MQ below (kp_Qi X kp_lK 58 σ' r) args s 0 0 (kp_A X 58)) (F0 m 70 ls [])) → kl_X9_older_12 x1_0 n x2_1 σ_3 k = some (r, σ') → W p l e (kp_rm 7) s m args below meth c H locs 0 0 (MQ below (kp_Qi X kp_lK 58 σ' r) args s 0 0 (kp_A X 58)) (F0 m 12 ls []) := by
    intro n
    induction n with
    | zero =>
      intro x2_1 σ_3 k H locs ls h hl K hF
      rw [kl_X9_older_12] at hF
      cases hF
    | succ n ih =>
      intro x2_1 σ_3 k H locs ls h hl K hF
      rw [kl_X9_older_12] at hF
      refine kp_iload_n C dX9_older_12 rfl (lv_at hl 2 rfl) ?_
      refine kp_if_le (tgt := 70) C dX9_older_13 (by decide) hF (fun hF => ?_) (fun hF => ?_)
      · exact K _ _ _ _ _ h (lv_sub hl [0, 2] rfl) hF
      · refine kp_aload_n C dX9_older_16 rfl (lv_at hl 0 rfl) ?_
        refine kp_aload_n C dX9_older_17 rfl (lv_at hl 0 rfl) ?_
        refine kp_getr C G h kp_lK0 rfl inWX9 (j := 0) (by decide) q2_14 rfl dX9_older_18 ?_
        refine kp_getr C G h kp_lK1 rfl inWX1 (j := 0) (by decide) q1_158 rfl dX9_older_21 ?_
        refine kp_iconst C dX9_older_24 ?_
        refine kp_lald0 C G h (i := 0) (n := 3) kp_lK2 (by decide) (by decide) dX9_older_25 ?_
        refine kp_iload_n C dX9_older_26 rfl (lv_at hl 2 rfl) ?_
        refine kp_xlshl C dX9_older_27 hF (fun hF => ?_)
        refine kp_ldc2 (n := 1099511627775) C q2_43 rfl dX9_older_28 ?_
        refine kp_xland C dX9_older_31 ?_
        refine kp_aload_n C dX9_older_32 rfl (lv_at hl 0 rfl) ?_
        refine kp_getr C G h kp_lK0 rfl inWX9 (j := 0) (by decide) q2_14 rfl dX9_older_33 ?_
        refine kp_getr C G h kp_lK1 rfl inWX1 (j := 0) (by decide) q1_158 rfl dX9_older_36 ?_
        refine kp_iconst C dX9_older_39 ?_
        refine kp_lald0 C G h (i := 1) (n := 3) kp_lK2 (by decide) (by decide) dX9_older_40 ?_
        refine kp_aload_n C dX9_older_41 rfl (lv_at hl 0 rfl) ?_
        refine kp_getr C G h kp_lK0 rfl inWX9 (j := 0) (by decide) q2_14 rfl dX9_older_42 ?_
        refine kp_getr C G h kp_lK1 rfl inWX1 (j := 0) (by decide) q1_158 rfl dX9_older_45 ?_
        refine kp_iconst C dX9_older_48 ?_
        refine kp_lald0 C G h (i := 2) (n := 3) kp_lK2 (by decide) (by decide) dX9_older_49 ?_
        obtain ⟨r_2, σ_6, hc, hF⟩ := kp_bd_s hF
        refine kp_cv h (kp_rV (k := 0) (As := [kp_jv (kp_andL ((σ_3 2 0) * 2 ^ (Int.toNat x2_1)) 1099511627775), kp_jv (σ_3 2 1), kp_jv (σ_3 2 2)]) (rest := []) C G h (kc_X9_ring  hc) q2_234 q2_236 q0_1_13 q1_1 q2_237 ⟨rfl, hd_X9_ring⟩ (by decide) kp_lK0 rfl rfl hl.1 rfl (Nat.le_of_ble_eq_true rfl) dX9_older_50) (fun H locs h => ?_)
        refine kp_aload_n C dX9_older_53 rfl (lv_at hl 0 rfl) ?_
        obtain ⟨r_3, σ_7, hc, hF⟩ := kp_bd_s hF
        refine kp_ci h (kp_rV (k := 0) (As := []) (rest := []) C G h (kc_X9_rowsHeard  hc) q3_226 q3_228 q0_2_15 q1_1 q3_229 ⟨rfl, hd_X9_rowsHeard⟩ (by decide) kp_lK0 rfl rfl hl.1 rfl (Nat.le_of_ble_eq_true rfl) dX9_older_54) (fun H locs h => ?_)
        refine kp_iload_n C dX9_older_57 rfl (lv_at hl 1 rfl) ?_
        refine kp_icmp_lt (tgt := 64) C dX9_older_58 (by decide) hF (fun hF => ?_) (fun hF => ?_)
        · refine kp_iinc (k := 2) (lv' := fun x2_3 => [(2, kp_iv x2_3), (0, .ref (kp_ad X 0)), (1, kp_iv x1_0)]) C dX9_older_64 hl rfl (by decide) (fun _ => rfl) hF (fun x2_3 ls hl hF => ?_)
          refine kp_goto (tgt := 12) C dX9_older_67 (by decide) ?_
          exact ih _ _ k _ _ _ h (lv_sub hl [1, 2, 0] rfl) K hF
        · refine kp_goto (tgt := 70) C dX9_older_61 (by decide) ?_
          exact K _ _ _ _ _ h (lv_sub hl [0, 2] rfl) hF
  refine L12 kp_fu _ _ _ _ _ _ h (lv_sub hl [2, 1, 0] rfl) (fun x2_2 σ_4 H locs ls h hl hF => ?_) hF
  clear L12
  refine kp_aload_n C dX9_older_70 rfl (lv_at hl 0 rfl) ?_
  refine kp_iconst C dX9_older_71 ?_
  have hF := kp_ck_i (c := (0 : Int) = 0 ∨ (0 : Int) = 1) (by decide) hF
  refine kp_putz C G h kp_lK0 rfl inWX9 tyX9 tyX9_ok nmX9 (j := 6) (by decide) q2_20 rfl rfl (by decide +kernel) dX9_older_72 hF (fun σ_5 H locs h hF => ?_)
  refine kp_iload_n C dX9_older_75 rfl (lv_at hl 1 rfl) ?_
  exact kp_reti C hr hlk G h dX9_older_76 hF
def kf_X9_harm  (a1 : Int) (σ_0 : kp_W) : kp_R :=
  kp_bd (kf_X3_has a1 σ_0) (fun r_0 σ_1 => kp_eq r_0 0 (some ((-1), σ_1)) (kp_bd (kf_X9_settle σ_1) (fun r_1 σ_2 => kp_bd (kf_X9_harmOf a1 σ_2) (fun r_2 σ_3 => some (r_2, σ_3)))))
set_option maxRecDepth 100000 in
set_option maxHeartbeats 4000000 in
theorem kc_X9_harm {l : Launch} {X : kp_X} {a1 : Int}  {σ_0 σ' : kp_W} {r : Int}   (hF : (kf_X9_harm a1 σ_0) = some (r, σ')) : kp_Met l yX9_harm cX9_harm 2 (some .int) 6 X kp_lK 58 σ_0 [.ref (kp_ad X 0), kp_iv a1] (kp_Qi X kp_lK 58 σ' r) := by
  refine kp_body pnX9 (Nat.le_of_ble_eq_true rfl) ?_
  intro p e s m args below meth c ls C hr hlk G h hl
  unfold kf_X9_harm at hF
  have hl : lv_has ls 2 [(0, .ref (kp_ad X 0)), (1, kp_iv a1)] := hl
  refine kp_aload_n C dX9_harm_0 rfl (lv_at hl 0 rfl) ?_
  refine kp_getr C G h kp_lK0 rfl inWX9 (j := 0) (by decide) q2_14 rfl dX9_harm_1 ?_
  refine kp_getr C G h kp_lK1 rfl inWX1 (j := 3) (by decide) q1_164 rfl dX9_harm_4 ?_
  refine kp_iload_n C dX9_harm_7 rfl (lv_at hl 1 rfl) ?_
  obtain ⟨r_0, σ_1, hc, hF⟩ := kp_bd_s hF
  refine kp_ci h (kp_rV (k := 11) (As := [kp_iv a1]) (rest := []) C G h (kc_X3_has  hc) q3_53 q3_54 q3_55 q1_6 q3_56 ⟨rfl, hd_X3_has⟩ (by decide) kp_lK11 rfl rfl hl.1 rfl (Nat.le_of_ble_eq_true rfl) dX9_harm_8) (fun H locs h => ?_)
  refine kp_if_ne (tgt := 16) C dX9_harm_11 (by decide) hF (fun hF => ?_) (fun hF => ?_)
  · refine kp_aload_n C dX9_harm_16 rfl (lv_at hl 0 rfl) ?_
    obtain ⟨r_1, σ_2, hc, hF⟩ := kp_bd_s hF
    refine kp_cv h (kp_rV (k := 0) (As := []) (rest := []) C G h (kc_X9_settle  hc) q2_194 q2_196 q0_1_11 q1_1 q2_197 ⟨rfl, hd_X9_settle⟩ (by decide) kp_lK0 rfl rfl hl.1 rfl (Nat.le_of_ble_eq_true rfl) dX9_harm_17) (fun H locs h => ?_)
    refine kp_aload_n C dX9_harm_20 rfl (lv_at hl 0 rfl) ?_
    refine kp_iload_n C dX9_harm_21 rfl (lv_at hl 1 rfl) ?_
    obtain ⟨r_2, σ_3, hc, hF⟩ := kp_bd_s hF
    refine kp_ci h (kp_rV (k := 0) (As := [kp_iv a1]) (rest := []) C G h (kc_X9_harmOf  hc) q3_176 q3_178 q0_2_12 q1_1 q3_179 ⟨rfl, hd_X9_harmOf⟩ (by decide) kp_lK0 rfl rfl hl.1 rfl (Nat.le_of_ble_eq_true rfl) dX9_harm_22) (fun H locs h => ?_)
    exact kp_reti C hr hlk G h dX9_harm_25 hF
  · refine kp_iconst C dX9_harm_14 ?_
    exact kp_reti C hr hlk G h dX9_harm_15 hF
def kf_X9_act  (a1 : Int) (a2 : Int) (a3 : Int) (σ_0 : kp_W) : kp_R :=
  kp_lt (kp_up σ_0 55 1 0) (fun σ_1 => kp_bd (kf_X3_has a1 σ_1) (fun r_0 σ_2 => kp_eq r_0 0 (some (0, σ_2)) (kp_ls a2 0 (some (0, σ_2)) (kp_ls a2 3 (kp_bd (kf_X0_start a1 a2 a3 σ_2) (fun r_1 σ_3 => some (r_1, σ_3))) (some (0, σ_2))))))
set_option maxRecDepth 100000 in
set_option maxHeartbeats 4000000 in
theorem kc_X9_act {l : Launch} {X : kp_X} {a1 : Int} {a2 : Int} {a3 : Int}  {σ_0 σ' : kp_W} {r : Int}   (hF : (kf_X9_act a1 a2 a3 σ_0) = some (r, σ')) : kp_Met l yX9_act cX9_act 4 (some .int) 126 X kp_lK 58 σ_0 [.ref (kp_ad X 0), kp_iv a1, kp_iv a2, kp_iv a3] (kp_Qi X kp_lK 58 σ' r) := by
  refine kp_body pnX9 (Nat.le_of_ble_eq_true rfl) ?_
  intro p e s m args below meth c ls C hr hlk G h hl
  unfold kf_X9_act at hF
  have hl : lv_has ls 4 [(0, .ref (kp_ad X 0)), (1, kp_iv a1), (2, kp_iv a2), (3, kp_iv a3)] := hl
  refine kp_aload_n C dX9_act_0 rfl (lv_at hl 0 rfl) ?_
  refine kp_getr C G h kp_lK0 rfl inWX9 (j := 5) (by decide) q2_19 rfl dX9_act_1 ?_
  refine kp_iconst C dX9_act_4 ?_
  refine kp_puti C G h kp_lK55 rfl inWX0 tyX0 tyX0_ok nmX0 (j := 1) (by decide) q1_239 rfl rfl (by decide +kernel) dX9_act_5 hF (fun σ_1 H locs h hF => ?_)
  refine kp_aload_n C dX9_act_8 rfl (lv_at hl 0 rfl) ?_
  refine kp_getr C G h kp_lK0 rfl inWX9 (j := 0) (by decide) q2_14 rfl dX9_act_9 ?_
  refine kp_getr C G h kp_lK1 rfl inWX1 (j := 3) (by decide) q1_164 rfl dX9_act_12 ?_
  refine kp_iload_n C dX9_act_15 rfl (lv_at hl 1 rfl) ?_
  obtain ⟨r_0, σ_2, hc, hF⟩ := kp_bd_s hF
  refine kp_ci h (kp_rV (k := 11) (As := [kp_iv a1]) (rest := []) C G h (kc_X3_has  hc) q3_53 q3_54 q3_55 q1_6 q3_56 ⟨rfl, hd_X3_has⟩ (by decide) kp_lK11 rfl rfl hl.1 rfl (Nat.le_of_ble_eq_true rfl) dX9_act_16) (fun H locs h => ?_)
  refine kp_if_eq (tgt := 31) C dX9_act_19 (by decide) hF (fun hF => ?_) (fun hF => ?_)
  · refine kp_iconst C dX9_act_31 ?_
    exact kp_reti C hr hlk G h dX9_act_32 hF
  · refine kp_iload_n C dX9_act_22 rfl (lv_at hl 2 rfl) ?_
    refine kp_if_lt (tgt := 31) C dX9_act_23 (by decide) hF (fun hF => ?_) (fun hF => ?_)
    · refine kp_iconst C dX9_act_31 ?_
      exact kp_reti C hr hlk G h dX9_act_32 hF
    · refine kp_iload_n C dX9_act_26 rfl (lv_at hl 2 rfl) ?_
      refine kp_iconst C dX9_act_27 ?_
      refine kp_icmp_lt (tgt := 33) C dX9_act_28 (by decide) hF (fun hF => ?_) (fun hF => ?_)
      · refine kp_aload_n C dX9_act_33 rfl (lv_at hl 0 rfl) ?_
        refine kp_getr C G h kp_lK0 rfl inWX9 (j := 5) (by decide) q2_19 rfl dX9_act_34 ?_
        refine kp_aload_n C dX9_act_37 rfl (lv_at hl 0 rfl) ?_
        refine kp_getr C G h kp_lK0 rfl inWX9 (j := 0) (by decide) q2_14 rfl dX9_act_38 ?_
        refine kp_getr C G h kp_lK1 rfl inWX1 (j := 3) (by decide) q1_164 rfl dX9_act_41 ?_
        refine kp_iload_n C dX9_act_44 rfl (lv_at hl 1 rfl) ?_
        refine kp_iload_n C dX9_act_45 rfl (lv_at hl 2 rfl) ?_
        refine kp_iload_n C dX9_act_46 rfl (lv_at hl 3 rfl) ?_
        obtain ⟨r_1, σ_3, hc, hF⟩ := kp_bd_s hF
        refine kp_ci h (kp_rV (k := 55) (As := [.ref (kp_ad X 11), kp_iv a1, kp_iv a2, kp_iv a3]) (rest := []) C G h (kc_X0_start  hc) q3_238 q3_239 q4_0 q1_10 q4_1 ⟨rfl, hd_X0_start⟩ (by decide) kp_lK55 rfl rfl hl.1 rfl (Nat.le_of_ble_eq_true rfl) dX9_act_47) (fun H locs h => ?_)
        exact kp_reti C hr hlk G h dX9_act_50 hF
      · refine kp_iconst C dX9_act_31 ?_
        exact kp_reti C hr hlk G h dX9_act_32 hF
def kf_X9_trace  (a1 : Int) (σ_0 : kp_W) : kp_R :=
  kp_ls a1 0 (some ((-1), σ_0)) (kp_ls a1 (σ_0 55 1) (kp_ls a1 20 (kp_ck (0 ≤ a1 ∧ a1 < 20) (some ((σ_0 56 (Int.toNat a1)), σ_0))) (some ((-1), σ_0))) (some ((-1), σ_0)))
set_option maxRecDepth 100000 in
set_option maxHeartbeats 4000000 in
theorem kc_X9_trace {l : Launch} {X : kp_X} {a1 : Int}  {σ_0 σ' : kp_W} {r : Int}   (hF : (kf_X9_trace a1 σ_0) = some (r, σ')) : kp_Met l yX9_trace cX9_trace 2 (some .int) 0 X kp_lK 58 σ_0 [.ref (kp_ad X 0), kp_iv a1] (kp_Qi X kp_lK 58 σ' r) := by
  refine kp_body pnX9 (Nat.le_of_ble_eq_true rfl) ?_
  intro p e s m args below meth c ls C hr hlk G h hl
  unfold kf_X9_trace at hF
  have hl : lv_has ls 2 [(0, .ref (kp_ad X 0)), (1, kp_iv a1)] := hl
  refine kp_iload_n C dX9_trace_0 rfl (lv_at hl 1 rfl) ?_
  refine kp_if_lt (tgt := 27) C dX9_trace_1 (by decide) hF (fun hF => ?_) (fun hF => ?_)
  · refine kp_iconst C dX9_trace_27 ?_
    exact kp_reti C hr hlk G h dX9_trace_28 hF
  · refine kp_iload_n C dX9_trace_4 rfl (lv_at hl 1 rfl) ?_
    refine kp_aload_n C dX9_trace_5 rfl (lv_at hl 0 rfl) ?_
    refine kp_getr C G h kp_lK0 rfl inWX9 (j := 5) (by decide) q2_19 rfl dX9_trace_6 ?_
    refine kp_geti C G h kp_lK55 rfl inWX0 (j := 1) (by decide) q1_239 rfl dX9_trace_9 ?_
    refine kp_icmp_ge (tgt := 27) C dX9_trace_12 (by decide) hF (fun hF => ?_) (fun hF => ?_)
    · refine kp_iconst C dX9_trace_27 ?_
      exact kp_reti C hr hlk G h dX9_trace_28 hF
    · refine kp_iload_n C dX9_trace_15 rfl (lv_at hl 1 rfl) ?_
      refine kp_aload_n C dX9_trace_16 rfl (lv_at hl 0 rfl) ?_
      refine kp_getr C G h kp_lK0 rfl inWX9 (j := 5) (by decide) q2_19 rfl dX9_trace_17 ?_
      refine kp_getr C G h kp_lK55 rfl inWX0 (j := 0) (by decide) q1_237 rfl dX9_trace_20 ?_
      refine kp_alen C G h (n := 20) kp_lK56 (by decide) dX9_trace_23 ?_
      refine kp_icmp_lt (tgt := 29) C dX9_trace_24 (by decide) hF (fun hF => ?_) (fun hF => ?_)
      · refine kp_aload_n C dX9_trace_29 rfl (lv_at hl 0 rfl) ?_
        refine kp_getr C G h kp_lK0 rfl inWX9 (j := 5) (by decide) q2_19 rfl dX9_trace_30 ?_
        refine kp_getr C G h kp_lK55 rfl inWX0 (j := 0) (by decide) q1_237 rfl dX9_trace_33 ?_
        refine kp_iload_n C dX9_trace_36 rfl (lv_at hl 1 rfl) ?_
        refine kp_iald C G h (n := 20) kp_lK56 (by decide) dX9_trace_37 hF (fun hF => ?_)
        exact kp_reti C hr hlk G h dX9_trace_38 hF
      · refine kp_iconst C dX9_trace_27 ?_
        exact kp_reti C hr hlk G h dX9_trace_28 hF
def kf_X9_as  (a1 : Int) (a2 : Int) (σ_0 : kp_W) : kp_R :=
  kp_bd (kf_X3_has a1 σ_0) (fun r_0 σ_1 => kp_eq r_0 0 (some ((-1), σ_1)) (kp_bd (kf_X9_isKind a2 σ_1) (fun r_1 σ_2 => kp_eq r_1 0 (some ((-1), σ_2)) (kp_ck (0 ≤ a1 ∧ a1 < 10) (kp_bd (kf_X9_isUnder (σ_2 12 (Int.toNat a1)) a2 σ_2) (fun r_2 σ_3 => kp_eq r_2 0 (some ((-6), σ_3)) (kp_ck (0 ≤ a1 ∧ a1 < 10) (some ((σ_3 14 (Int.toNat a1)), σ_3)))))))))
set_option maxRecDepth 100000 in
set_option maxHeartbeats 4000000 in
theorem kc_X9_as {l : Launch} {X : kp_X} {a1 : Int} {a2 : Int}  {σ_0 σ' : kp_W} {r : Int}   (hF : (kf_X9_as a1 a2 σ_0) = some (r, σ')) : kp_Met l yX9_as cX9_as 3 (some .int) 2 X kp_lK 58 σ_0 [.ref (kp_ad X 0), kp_iv a1, kp_iv a2] (kp_Qi X kp_lK 58 σ' r) := by
  refine kp_body pnX9 (Nat.le_of_ble_eq_true rfl) ?_
  intro p e s m args below meth c ls C hr hlk G h hl
  unfold kf_X9_as at hF
  have hl : lv_has ls 3 [(0, .ref (kp_ad X 0)), (1, kp_iv a1), (2, kp_iv a2)] := hl
  refine kp_aload_n C dX9_as_0 rfl (lv_at hl 0 rfl) ?_
  refine kp_getr C G h kp_lK0 rfl inWX9 (j := 0) (by decide) q2_14 rfl dX9_as_1 ?_
  refine kp_getr C G h kp_lK1 rfl inWX1 (j := 3) (by decide) q1_164 rfl dX9_as_4 ?_
  refine kp_iload_n C dX9_as_7 rfl (lv_at hl 1 rfl) ?_
  obtain ⟨r_0, σ_1, hc, hF⟩ := kp_bd_s hF
  refine kp_ci h (kp_rV (k := 11) (As := [kp_iv a1]) (rest := []) C G h (kc_X3_has  hc) q3_53 q3_54 q3_55 q1_6 q3_56 ⟨rfl, hd_X3_has⟩ (by decide) kp_lK11 rfl rfl hl.1 rfl (Nat.le_of_ble_eq_true rfl) dX9_as_8) (fun H locs h => ?_)
  refine kp_if_eq (tgt := 21) C dX9_as_11 (by decide) hF (fun hF => ?_) (fun hF => ?_)
  · refine kp_iconst C dX9_as_21 ?_
    exact kp_reti C hr hlk G h dX9_as_22 hF
  · refine kp_iload_n C dX9_as_14 rfl (lv_at hl 2 rfl) ?_
    obtain ⟨r_1, σ_2, hc, hF⟩ := kp_bd_s hF
    refine kp_ci h (kp_rS (As := [kp_iv a2]) (rest := []) C G h (kc_X9_isKind  hc) q3_39 q3_40 q1_1 q3_41 hd_X9_isKind (by decide) rfl hl.1 rfl (Nat.le_of_ble_eq_true rfl) dX9_as_15) (fun H locs h => ?_)
    refine kp_if_ne (tgt := 23) C dX9_as_18 (by decide) hF (fun hF => ?_) (fun hF => ?_)
    · refine kp_aload_n C dX9_as_23 rfl (lv_at hl 0 rfl) ?_
      refine kp_getr C G h kp_lK0 rfl inWX9 (j := 0) (by decide) q2_14 rfl dX9_as_24 ?_
      refine kp_getr C G h kp_lK1 rfl inWX1 (j := 3) (by decide) q1_164 rfl dX9_as_27 ?_
      refine kp_getr C G h kp_lK11 rfl inWX3 (j := 0) (by decide) q1_106 rfl dX9_as_30 ?_
      refine kp_iload_n C dX9_as_33 rfl (lv_at hl 1 rfl) ?_
      refine kp_iald C G h (n := 10) kp_lK12 (by decide) dX9_as_34 hF (fun hF => ?_)
      refine kp_iload_n C dX9_as_35 rfl (lv_at hl 2 rfl) ?_
      obtain ⟨r_2, σ_3, hc, hF⟩ := kp_bd_s hF
      refine kp_ci h (kp_rS (As := [kp_iv (σ_2 12 (Int.toNat a1)), kp_iv a2]) (rest := []) C G h (kc_X9_isUnder  hc) q3_85 q3_86 q1_1 q3_87 hd_X9_isUnder (by decide) rfl hl.1 rfl (Nat.le_of_ble_eq_true rfl) dX9_as_36) (fun H locs h => ?_)
      refine kp_if_eq (tgt := 57) C dX9_as_39 (by decide) hF (fun hF => ?_) (fun hF => ?_)
      · refine kp_bipush C dX9_as_57 rfl ?_
        exact kp_reti C hr hlk G h dX9_as_59 hF
      · refine kp_aload_n C dX9_as_42 rfl (lv_at hl 0 rfl) ?_
        refine kp_getr C G h kp_lK0 rfl inWX9 (j := 0) (by decide) q2_14 rfl dX9_as_43 ?_
        refine kp_getr C G h kp_lK1 rfl inWX1 (j := 3) (by decide) q1_164 rfl dX9_as_46 ?_
        refine kp_getr C G h kp_lK11 rfl inWX3 (j := 2) (by decide) q1_113 rfl dX9_as_49 ?_
        refine kp_iload_n C dX9_as_52 rfl (lv_at hl 1 rfl) ?_
        refine kp_iald C G h (n := 10) kp_lK14 (by decide) dX9_as_53 hF (fun hF => ?_)
        refine kp_goto (tgt := 59) C dX9_as_54 (by decide) ?_
        exact kp_reti C hr hlk G h dX9_as_59 hF
    · refine kp_iconst C dX9_as_21 ?_
      exact kp_reti C hr hlk G h dX9_as_22 hF
def kf_X9_image   (σ_0 : kp_W) : kp_R :=
  kp_bd (kf_X1_copy_20_1 σ_0) (fun r_0 σ_1 => kp_lt (kp_up σ_1 0 2 1) (fun σ_2 => some ((σ_2 11 5), σ_2)))
set_option maxRecDepth 100000 in
set_option maxHeartbeats 4000000 in
theorem kc_X9_image {l : Launch} {X : kp_X}  {σ_0 σ' : kp_W} {r : Int}   (hF : (kf_X9_image σ_0) = some (r, σ')) : kp_Met l yX9_image cX9_image 1 (some .int) 3 X kp_lK 58 σ_0 [.ref (kp_ad X 0)] (kp_Qi X kp_lK 58 σ' r) := by
  refine kp_body pnX9 (Nat.le_of_ble_eq_true rfl) ?_
  intro p e s m args below meth c ls C hr hlk G h hl
  unfold kf_X9_image at hF
  have hl : lv_has ls 1 [(0, .ref (kp_ad X 0))] := hl
  refine kp_aload_n C dX9_image_0 rfl (lv_at hl 0 rfl) ?_
  refine kp_getr C G h kp_lK0 rfl inWX9 (j := 1) (by decide) q2_15 rfl dX9_image_1 ?_
  refine kp_aload_n C dX9_image_4 rfl (lv_at hl 0 rfl) ?_
  refine kp_getr C G h kp_lK0 rfl inWX9 (j := 0) (by decide) q2_14 rfl dX9_image_5 ?_
  obtain ⟨r_0, σ_1, hc, hF⟩ := kp_bd_s hF
  refine kp_cv h (kp_rV (k := 20) (As := [.ref (kp_ad X 1)]) (rest := []) C G h (kc_X1_copy_20_1  hc) q4_27 q4_28 q4_29 q1_2 q4_30 ⟨rfl, hd_X1_copy⟩ (by decide) kp_lK20 rfl rfl hl.1 rfl (Nat.le_of_ble_eq_true rfl) dX9_image_8) (fun H locs h => ?_)
  refine kp_aload_n C dX9_image_11 rfl (lv_at hl 0 rfl) ?_
  refine kp_iconst C dX9_image_12 ?_
  have hF := kp_ck_i (c := (1 : Int) = 0 ∨ (1 : Int) = 1) (by decide) hF
  refine kp_putz C G h kp_lK0 rfl inWX9 tyX9 tyX9_ok nmX9 (j := 2) (by decide) q2_16 rfl rfl (by decide +kernel) dX9_image_13 hF (fun σ_2 H locs h hF => ?_)
  refine kp_aload_n C dX9_image_16 rfl (lv_at hl 0 rfl) ?_
  refine kp_getr C G h kp_lK0 rfl inWX9 (j := 0) (by decide) q2_14 rfl dX9_image_17 ?_
  refine kp_getr C G h kp_lK1 rfl inWX1 (j := 3) (by decide) q1_164 rfl dX9_image_20 ?_
  refine kp_geti C G h kp_lK11 rfl inWX3 (j := 5) (by decide) q1_120 rfl dX9_image_23 ?_
  exact kp_reti C hr hlk G h dX9_image_26 hF
def kf_X9_undo   (σ_0 : kp_W) : kp_R :=
  kp_eq (σ_0 0 2) 0 (some ((-3), σ_0)) (kp_bd (kf_X1_copy_1_20 σ_0) (fun r_0 σ_1 => kp_lt (kp_up σ_1 0 6 0) (fun σ_2 => some ((σ_2 11 5), σ_2))))
set_option maxRecDepth 100000 in
set_option maxHeartbeats 4000000 in
theorem kc_X9_undo {l : Launch} {X : kp_X}  {σ_0 σ' : kp_W} {r : Int}   (hF : (kf_X9_undo σ_0) = some (r, σ')) : kp_Met l yX9_undo cX9_undo 1 (some .int) 3 X kp_lK 58 σ_0 [.ref (kp_ad X 0)] (kp_Qi X kp_lK 58 σ' r) := by
  refine kp_body pnX9 (Nat.le_of_ble_eq_true rfl) ?_
  intro p e s m args below meth c ls C hr hlk G h hl
  unfold kf_X9_undo at hF
  have hl : lv_has ls 1 [(0, .ref (kp_ad X 0))] := hl
  refine kp_aload_n C dX9_undo_0 rfl (lv_at hl 0 rfl) ?_
  refine kp_geti C G h kp_lK0 rfl inWX9 (j := 2) (by decide) q2_16 rfl dX9_undo_1 ?_
  refine kp_if_ne (tgt := 10) C dX9_undo_4 (by decide) hF (fun hF => ?_) (fun hF => ?_)
  · refine kp_aload_n C dX9_undo_10 rfl (lv_at hl 0 rfl) ?_
    refine kp_getr C G h kp_lK0 rfl inWX9 (j := 0) (by decide) q2_14 rfl dX9_undo_11 ?_
    refine kp_aload_n C dX9_undo_14 rfl (lv_at hl 0 rfl) ?_
    refine kp_getr C G h kp_lK0 rfl inWX9 (j := 1) (by decide) q2_15 rfl dX9_undo_15 ?_
    obtain ⟨r_0, σ_1, hc, hF⟩ := kp_bd_s hF
    refine kp_cv h (kp_rV (k := 1) (As := [.ref (kp_ad X 20)]) (rest := []) C G h (kc_X1_copy_1_20  hc) q4_27 q4_28 q4_29 q1_2 q4_30 ⟨rfl, hd_X1_copy⟩ (by decide) kp_lK1 rfl rfl hl.1 rfl (Nat.le_of_ble_eq_true rfl) dX9_undo_18) (fun H locs h => ?_)
    refine kp_aload_n C dX9_undo_21 rfl (lv_at hl 0 rfl) ?_
    refine kp_iconst C dX9_undo_22 ?_
    have hF := kp_ck_i (c := (0 : Int) = 0 ∨ (0 : Int) = 1) (by decide) hF
    refine kp_putz C G h kp_lK0 rfl inWX9 tyX9 tyX9_ok nmX9 (j := 6) (by decide) q2_20 rfl rfl (by decide +kernel) dX9_undo_23 hF (fun σ_2 H locs h hF => ?_)
    refine kp_aload_n C dX9_undo_26 rfl (lv_at hl 0 rfl) ?_
    refine kp_getr C G h kp_lK0 rfl inWX9 (j := 0) (by decide) q2_14 rfl dX9_undo_27 ?_
    refine kp_getr C G h kp_lK1 rfl inWX1 (j := 3) (by decide) q1_164 rfl dX9_undo_30 ?_
    refine kp_geti C G h kp_lK11 rfl inWX3 (j := 5) (by decide) q1_120 rfl dX9_undo_33 ?_
    exact kp_reti C hr hlk G h dX9_undo_36 hF
  · refine kp_bipush C dX9_undo_7 rfl ?_
    exact kp_reti C hr hlk G h dX9_undo_9 hF
def kf_X9_count  (a1 : Int) (σ_0 : kp_W) : kp_R :=
  kp_eq a1 0 (some ((σ_0 11 5), σ_0)) (kp_eq a1 1 (some ((σ_0 1 5), σ_0)) (kp_eq a1 2 (some ((σ_0 16 3), σ_0)) (kp_eq a1 3 (some ((σ_0 3 1), σ_0)) (kp_eq a1 4 (some ((σ_0 55 1), σ_0)) (some ((-1), σ_0))))))
set_option maxRecDepth 100000 in
set_option maxHeartbeats 4000000 in
theorem kc_X9_count {l : Launch} {X : kp_X} {a1 : Int}  {σ_0 σ' : kp_W} {r : Int}   (hF : (kf_X9_count a1 σ_0) = some (r, σ')) : kp_Met l yX9_count cX9_count 2 (some .int) 0 X kp_lK 58 σ_0 [.ref (kp_ad X 0), kp_iv a1] (kp_Qi X kp_lK 58 σ' r) := by
  refine kp_body pnX9 (Nat.le_of_ble_eq_true rfl) ?_
  intro p e s m args below meth c ls C hr hlk G h hl
  unfold kf_X9_count at hF
  have hl : lv_has ls 2 [(0, .ref (kp_ad X 0)), (1, kp_iv a1)] := hl
  refine kp_iload_n C dX9_count_0 rfl (lv_at hl 1 rfl) ?_
  obtain ⟨hx, -, ha, hb⟩ := kp_eq_s hF
  by_cases q0 : a1 = 0
  · have hF := ha q0
    clear ha hb
    refine kp_tabIn (v := 0) (tgt := 36) C dX9_count_1 q0 (by decide) rfl (by decide) ?_
    refine kp_aload_n C dX9_count_36 rfl (lv_at hl 0 rfl) ?_
    refine kp_getr C G h kp_lK0 rfl inWX9 (j := 0) (by decide) q2_14 rfl dX9_count_37 ?_
    refine kp_getr C G h kp_lK1 rfl inWX1 (j := 3) (by decide) q1_164 rfl dX9_count_40 ?_
    refine kp_geti C G h kp_lK11 rfl inWX3 (j := 5) (by decide) q1_120 rfl dX9_count_43 ?_
    exact kp_reti C hr hlk G h dX9_count_46 hF
  · have hF := hb q0
    clear ha hb
    obtain ⟨hx, -, ha, hb⟩ := kp_eq_s hF
    by_cases q1 : a1 = 1
    · have hF := ha q1
      clear ha hb
      refine kp_tabIn (v := 1) (tgt := 47) C dX9_count_1 q1 (by decide) rfl (by decide) ?_
      refine kp_aload_n C dX9_count_47 rfl (lv_at hl 0 rfl) ?_
      refine kp_getr C G h kp_lK0 rfl inWX9 (j := 0) (by decide) q2_14 rfl dX9_count_48 ?_
      refine kp_geti C G h kp_lK1 rfl inWX1 (j := 5) (by decide) q1_168 rfl dX9_count_51 ?_
      exact kp_reti C hr hlk G h dX9_count_54 hF
    · have hF := hb q1
      clear ha hb
      obtain ⟨hx, -, ha, hb⟩ := kp_eq_s hF
      by_cases q2 : a1 = 2
      · have hF := ha q2
        clear ha hb
        refine kp_tabIn (v := 2) (tgt := 55) C dX9_count_1 q2 (by decide) rfl (by decide) ?_
        refine kp_aload_n C dX9_count_55 rfl (lv_at hl 0 rfl) ?_
        refine kp_getr C G h kp_lK0 rfl inWX9 (j := 0) (by decide) q2_14 rfl dX9_count_56 ?_
        refine kp_getr C G h kp_lK1 rfl inWX1 (j := 4) (by decide) q1_166 rfl dX9_count_59 ?_
        refine kp_geti C G h kp_lK16 rfl inWX4 (j := 3) (by decide) q1_147 rfl dX9_count_62 ?_
        exact kp_reti C hr hlk G h dX9_count_65 hF
      · have hF := hb q2
        clear ha hb
        obtain ⟨hx, -, ha, hb⟩ := kp_eq_s hF
        by_cases q3 : a1 = 3
        · have hF := ha q3
          clear ha hb
          refine kp_tabIn (v := 3) (tgt := 66) C dX9_count_1 q3 (by decide) rfl (by decide) ?_
          refine kp_aload_n C dX9_count_66 rfl (lv_at hl 0 rfl) ?_
          refine kp_getr C G h kp_lK0 rfl inWX9 (j := 0) (by decide) q2_14 rfl dX9_count_67 ?_
          refine kp_getr C G h kp_lK1 rfl inWX1 (j := 1) (by decide) q1_160 rfl dX9_count_70 ?_
          refine kp_geti C G h kp_lK3 rfl inWX7 (j := 1) (by decide) q1_44 rfl dX9_count_73 ?_
          exact kp_reti C hr hlk G h dX9_count_76 hF
        · have hF := hb q3
          clear ha hb
          obtain ⟨hx, -, ha, hb⟩ := kp_eq_s hF
          by_cases q4 : a1 = 4
          · have hF := ha q4
            clear ha hb
            refine kp_tabIn (v := 4) (tgt := 77) C dX9_count_1 q4 (by decide) rfl (by decide) ?_
            refine kp_aload_n C dX9_count_77 rfl (lv_at hl 0 rfl) ?_
            refine kp_getr C G h kp_lK0 rfl inWX9 (j := 5) (by decide) q2_19 rfl dX9_count_78 ?_
            refine kp_geti C G h kp_lK55 rfl inWX0 (j := 1) (by decide) q1_239 rfl dX9_count_81 ?_
            exact kp_reti C hr hlk G h dX9_count_84 hF
          · have hF := hb q4
            clear ha hb
            refine kp_tabOut (tgt := 85) C dX9_count_1 hx (by omega) (by decide) ?_
            refine kp_iconst C dX9_count_85 ?_
            exact kp_reti C hr hlk G h dX9_count_86 hF
def kf_X10_in  (a1 : Int) (a2 : Int) (a3 : Int) (σ_0 : kp_W) : kp_R :=
  kp_ls a1 a2 (some (0, σ_0)) (kp_ls a3 a1 (some (0, σ_0)) (some (1, σ_0)))
set_option maxRecDepth 100000 in
set_option maxHeartbeats 4000000 in
theorem kc_X10_in {l : Launch} {X : kp_X} {a1 : Int} {a2 : Int} {a3 : Int}  {σ_0 σ' : kp_W} {r : Int}   (hF : (kf_X10_in a1 a2 a3 σ_0) = some (r, σ')) : kp_Met l yX10_in cX10_in 3 (some .boolean) 0 X kp_lM 10 σ_0 [kp_iv a1, kp_iv a2, kp_iv a3] (kp_Qi X kp_lM 10 σ' r) := by
  refine kp_body pnX10 (Nat.le_of_ble_eq_true rfl) ?_
  intro p e s m args below meth c ls C hr hlk G h hl
  unfold kf_X10_in at hF
  have hl : lv_has ls 3 [(0, kp_iv a1), (1, kp_iv a2), (2, kp_iv a3)] := hl
  refine kp_iload_n C dX10_in_0 rfl (lv_at hl 0 rfl) ?_
  refine kp_iload_n C dX10_in_1 rfl (lv_at hl 1 rfl) ?_
  refine kp_icmp_lt (tgt := 14) C dX10_in_2 (by decide) hF (fun hF => ?_) (fun hF => ?_)
  · refine kp_iconst C dX10_in_14 ?_
    exact kp_retz C hr hlk G h dX10_in_15 (kp_ck_i (by decide) hF)
  · refine kp_iload_n C dX10_in_5 rfl (lv_at hl 0 rfl) ?_
    refine kp_iload_n C dX10_in_6 rfl (lv_at hl 2 rfl) ?_
    refine kp_icmp_gt (tgt := 14) C dX10_in_7 (by decide) hF (fun hF => ?_) (fun hF => ?_)
    · refine kp_iconst C dX10_in_14 ?_
      exact kp_retz C hr hlk G h dX10_in_15 (kp_ck_i (by decide) hF)
    · refine kp_iconst C dX10_in_10 ?_
      refine kp_goto (tgt := 15) C dX10_in_11 (by decide) ?_
      exact kp_retz C hr hlk G h dX10_in_15 (kp_ck_i (by decide) hF)
def kf_X10_size  (a1 : Int) (σ_0 : kp_W) : kp_R :=
  kp_ls a1 0 (some ((-a1), σ_0)) (some (a1, σ_0))
set_option maxRecDepth 100000 in
set_option maxHeartbeats 4000000 in
theorem kc_X10_size {l : Launch} {X : kp_X} {a1 : Int}  {σ_0 σ' : kp_W} {r : Int}   (hF : (kf_X10_size a1 σ_0) = some (r, σ')) : kp_Met l yX10_size cX10_size 1 (some .int) 0 X kp_lM 10 σ_0 [kp_iv a1] (kp_Qi X kp_lM 10 σ' r) := by
  refine kp_body pnX10 (Nat.le_of_ble_eq_true rfl) ?_
  intro p e s m args below meth c ls C hr hlk G h hl
  unfold kf_X10_size at hF
  have hl : lv_has ls 1 [(0, kp_iv a1)] := hl
  refine kp_iload_n C dX10_size_0 rfl (lv_at hl 0 rfl) ?_
  refine kp_if_ge (tgt := 9) C dX10_size_1 (by decide) hF (fun hF => ?_) (fun hF => ?_)
  · refine kp_iload_n C dX10_size_9 rfl (lv_at hl 0 rfl) ?_
    exact kp_reti C hr hlk G h dX10_size_10 hF
  · refine kp_iload_n C dX10_size_4 rfl (lv_at hl 0 rfl) ?_
    refine kp_ineg C dX10_size_5 ?_
    refine kp_goto (tgt := 10) C dX10_size_6 (by decide) ?_
    exact kp_reti C hr hlk G h dX10_size_10 hF
def kf_X10_isNoise  (a1 : Int) (σ_0 : kp_W) : kp_R :=
  kp_bd (kf_X10_in a1 0 ((σ_0 1 0) - 1) σ_0) (fun r_0 σ_1 => kp_ck (r_0 = 0 ∨ r_0 = 1) (some (r_0, σ_1)))
set_option maxRecDepth 100000 in
set_option maxHeartbeats 4000000 in
theorem kc_X10_isNoise {l : Launch} {X : kp_X} {a1 : Int}  {σ_0 σ' : kp_W} {r : Int}   (hF : (kf_X10_isNoise a1 σ_0) = some (r, σ')) : kp_Met l yX10_isNoise cX10_isNoise 2 (some .boolean) 1 X kp_lM 10 σ_0 [.ref (kp_ad X 0), kp_iv a1] (kp_Qi X kp_lM 10 σ' r) := by
  refine kp_body pnX10 (Nat.le_of_ble_eq_true rfl) ?_
  intro p e s m args below meth c ls C hr hlk G h hl
  unfold kf_X10_isNoise at hF
  have hl : lv_has ls 2 [(0, .ref (kp_ad X 0)), (1, kp_iv a1)] := hl
  refine kp_iload_n C dX10_isNoise_0 rfl (lv_at hl 1 rfl) ?_
  refine kp_iconst C dX10_isNoise_1 ?_
  refine kp_aload_n C dX10_isNoise_2 rfl (lv_at hl 0 rfl) ?_
  refine kp_getr C G h kp_lM0 rfl inWX10 (j := 1) (by decide) q4_58 rfl dX10_isNoise_3 ?_
  refine kp_iconst C dX10_isNoise_6 ?_
  refine kp_iald0 C G h (i := 0) (n := 1066) kp_lM1 (by decide) (by decide) dX10_isNoise_7 ?_
  refine kp_iconst C dX10_isNoise_8 ?_
  refine kp_isub C dX10_isNoise_9 ?_
  obtain ⟨r_0, σ_1, hc, hF⟩ := kp_bd_s hF
  refine kp_ci h (kp_rS (As := [kp_iv a1, kp_iv 0, kp_iv ((σ_0 1 0) - 1)]) (rest := []) C G h (kc_X10_in  hc) q4_140 q4_141 q1_11 q4_142 hd_X10_in (by decide) rfl hl.1 rfl (Nat.le_of_ble_eq_true rfl) dX10_isNoise_10) (fun H locs h => ?_)
  exact kp_retz C hr hlk G h dX10_isNoise_13 hF
def kf_X10_isPlace  (a1 : Int) (σ_0 : kp_W) : kp_R :=
  kp_bd (kf_X10_in a1 0 9 σ_0) (fun r_0 σ_1 => kp_ck (r_0 = 0 ∨ r_0 = 1) (some (r_0, σ_1)))
set_option maxRecDepth 100000 in
set_option maxHeartbeats 4000000 in
theorem kc_X10_isPlace {l : Launch} {X : kp_X} {a1 : Int}  {σ_0 σ' : kp_W} {r : Int}   (hF : (kf_X10_isPlace a1 σ_0) = some (r, σ')) : kp_Met l yX10_isPlace cX10_isPlace 1 (some .boolean) 1 X kp_lM 10 σ_0 [kp_iv a1] (kp_Qi X kp_lM 10 σ' r) := by
  refine kp_body pnX10 (Nat.le_of_ble_eq_true rfl) ?_
  intro p e s m args below meth c ls C hr hlk G h hl
  unfold kf_X10_isPlace at hF
  have hl : lv_has ls 1 [(0, kp_iv a1)] := hl
  refine kp_iload_n C dX10_isPlace_0 rfl (lv_at hl 0 rfl) ?_
  refine kp_iconst C dX10_isPlace_1 ?_
  refine kp_bipush C dX10_isPlace_2 rfl ?_
  obtain ⟨r_0, σ_1, hc, hF⟩ := kp_bd_s hF
  refine kp_ci h (kp_rS (As := [kp_iv a1, kp_iv 0, kp_iv 9]) (rest := []) C G h (kc_X10_in  hc) q4_140 q4_141 q1_11 q4_142 hd_X10_in (by decide) rfl hl.1 rfl (Nat.le_of_ble_eq_true rfl) dX10_isPlace_4) (fun H locs h => ?_)
  exact kp_retz C hr hlk G h dX10_isPlace_7 hF
def kf_X10_isMinute  (a1 : Int) (σ_0 : kp_W) : kp_R :=
  kp_bd (kf_X10_in a1 0 39 σ_0) (fun r_0 σ_1 => kp_ck (r_0 = 0 ∨ r_0 = 1) (some (r_0, σ_1)))
set_option maxRecDepth 100000 in
set_option maxHeartbeats 4000000 in
theorem kc_X10_isMinute {l : Launch} {X : kp_X} {a1 : Int}  {σ_0 σ' : kp_W} {r : Int}   (hF : (kf_X10_isMinute a1 σ_0) = some (r, σ')) : kp_Met l yX10_isMinute cX10_isMinute 1 (some .boolean) 1 X kp_lM 10 σ_0 [kp_iv a1] (kp_Qi X kp_lM 10 σ' r) := by
  refine kp_body pnX10 (Nat.le_of_ble_eq_true rfl) ?_
  intro p e s m args below meth c ls C hr hlk G h hl
  unfold kf_X10_isMinute at hF
  have hl : lv_has ls 1 [(0, kp_iv a1)] := hl
  refine kp_iload_n C dX10_isMinute_0 rfl (lv_at hl 0 rfl) ?_
  refine kp_iconst C dX10_isMinute_1 ?_
  refine kp_bipush C dX10_isMinute_2 rfl ?_
  obtain ⟨r_0, σ_1, hc, hF⟩ := kp_bd_s hF
  refine kp_ci h (kp_rS (As := [kp_iv a1, kp_iv 0, kp_iv 39]) (rest := []) C G h (kc_X10_in  hc) q4_140 q4_141 q1_11 q4_142 hd_X10_in (by decide) rfl hl.1 rfl (Nat.le_of_ble_eq_true rfl) dX10_isMinute_4) (fun H locs h => ?_)
  exact kp_retz C hr hlk G h dX10_isMinute_7 hF
def kl_X10_day_34 (a1 : Int) (a2 : Int) : Nat → Int → Int → kp_W → (Int → kp_W → kp_R) → kp_R
  | 0, _, _, _, _ => none
  | n + 1, x4_1, x5_1, σ_2, k => kp_ls x5_1 40 (kp_lt (((130 + (40 * a1)) + x5_1) : Int) (fun x6_0 => kp_ck (0 ≤ x6_0 ∧ x6_0 < 1066) (kp_lt ((x4_1 + (σ_2 1 (Int.toNat x6_0))) : Int) (fun x4_3 => kp_ck (kp_inL a2 ∧ 0 ≤ x5_1 ∧ x5_1 < 64) (kp_ck (0 ≤ x6_0 ∧ x6_0 < 1066) (kp_lt (kp_up σ_2 1 (Int.toNat x6_0) (kp_andL (a2 / 2 ^ (Int.toNat x5_1)) 1)) (fun σ_4 => kp_lt (x5_1 + 1) (fun x5_2 => kl_X10_day_34 a1 a2 n x4_3 x5_2 σ_4 k)))))))) (k x4_1 σ_2)
def kf_X10_day  (a1 : Int) (a2 : Int) (σ_0 : kp_W) : kp_R :=
  kp_bd (kf_X10_in a1 0 2 σ_0) (fun r_0 σ_1 => kp_eq r_0 0 (some ((-1), σ_1)) (kp_ck (kp_inL a2 ∧ kp_inL 0) (kp_ls (kp_cmp a2 0) 0 (some ((-2), σ_1)) (kp_ck (kp_inL a2 ∧ kp_inL 1099511627776) (kp_ls (kp_cmp a2 1099511627776) 0 (kp_lt (0 : Int) (fun x4_0 => kp_lt (0 : Int) (fun x5_0 => kl_X10_day_34 a1 a2 kp_fu x4_0 x5_0 σ_1 (fun (x4_2 : Int) (σ_3 : kp_W) => some (x4_2, σ_3))))) (some ((-2), σ_1)))))))
set_option maxRecDepth 100000 in
set_option maxHeartbeats 4000000 in
theorem kc_X10_day {l : Launch} {X : kp_X} {a1 : Int} {a2 : Int}  {σ_0 σ' : kp_W} {r : Int}   (hF : (kf_X10_day a1 a2 σ_0) = some (r, σ')) : kp_Met l yX10_day cX10_day 7 (some .int) 1 X kp_lM 10 σ_0 [.ref (kp_ad X 0), kp_iv a1, kp_jv a2] (kp_Qi X kp_lM 10 σ' r) := by
  refine kp_body pnX10 (Nat.le_of_ble_eq_true rfl) ?_
  intro p e s m args below meth c ls C hr hlk G h hl
  unfold kf_X10_day at hF
  have hl : lv_has ls 7 [(0, .ref (kp_ad X 0)), (1, kp_iv a1), (2, kp_jv a2)] := hl
  refine kp_iload_n C dX10_day_0 rfl (lv_at hl 1 rfl) ?_
  refine kp_iconst C dX10_day_1 ?_
  refine kp_iconst C dX10_day_2 ?_
  obtain ⟨r_0, σ_1, hc, hF⟩ := kp_bd_s hF
  refine kp_ci h (kp_rS (As := [kp_iv a1, kp_iv 0, kp_iv 2]) (rest := []) C G h (kc_X10_in  hc) q4_140 q4_141 q1_11 q4_142 hd_X10_in (by decide) rfl hl.1 rfl (Nat.le_of_ble_eq_true rfl) dX10_day_3) (fun H locs h => ?_)
  refine kp_if_ne (tgt := 11) C dX10_day_6 (by decide) hF (fun hF => ?_) (fun hF => ?_)
  · refine kp_lload_n C dX10_day_11 rfl (lv_at hl 2 rfl) ?_
    refine kp_lconst (v := 0) C dX10_day_12 rfl ?_
    refine kp_xlcmp C dX10_day_13 hF (fun hF => ?_)
    refine kp_if_lt (tgt := 25) C dX10_day_14 (by decide) hF (fun hF => ?_) (fun hF => ?_)
    · refine kp_bipush C dX10_day_25 rfl ?_
      exact kp_reti C hr hlk G h dX10_day_27 hF
    · refine kp_lload_n C dX10_day_17 rfl (lv_at hl 2 rfl) ?_
      refine kp_ldc2 (n := 1099511627776) C q4_143 rfl dX10_day_18 ?_
      refine kp_xlcmp C dX10_day_21 hF (fun hF => ?_)
      refine kp_if_lt (tgt := 28) C dX10_day_22 (by decide) hF (fun hF => ?_) (fun hF => ?_)
      · refine kp_iconst C dX10_day_28 ?_
        refine kp_istore (lv' := fun x4_0 => [(4, kp_iv x4_0), (0, .ref (kp_ad X 0)), (1, kp_iv a1), (2, kp_jv a2)]) C dX10_day_29 hl (by decide) (fun _ => rfl) hF (fun x4_0 ls hl hF => ?_)
        refine kp_iconst C dX10_day_31 ?_
        refine kp_istore (lv' := fun x5_0 => [(5, kp_iv x5_0), (4, kp_iv x4_0), (0, .ref (kp_ad X 0)), (1, kp_iv a1), (2, kp_jv a2)]) C dX10_day_32 hl (by decide) (fun _ => rfl) hF (fun x5_0 ls hl hF => ?_)
        have L34 : ∀ (n : Nat) (x4_1 : Int) (x5_1 : Int) (σ_2 : kp_W) (k : Int → kp_W → kp_R) (H : Heap) (locs : List Loc) (ls : Array Slot), kp_H X kp_lM 10 s σ_2 H locs → lv_has ls 7 [(0, .ref (kp_ad X 0)), (1, kp_iv a1), (2, kp_jv a2), (4, kp_iv x4_1), (5, kp_iv x5_1)] → (∀ (x4_2 : Int) (σ_3 : kp_W) (H : Heap) (locs : List Loc) (ls : Array Slot), kp_H X kp_lM 10 s σ_3 H locs → lv_has ls 7 [(4, kp_iv x4_2)] → k x4_2 σ_3 = some (r, σ') → W p l e (kp_rm 1) s m args below meth c H locs 0 0 (MQ below (kp_Qi X kp_lM 10 σ' r) args s 0 0 (kp_A X 10)) (F0 m 86 ls [])) → kl_X10_day_34 a1 a2 n x4_1 x5_1 σ_2 k = some (r, σ') → W p l e (kp_rm 1) s m args below meth c H locs 0 0 (MQ below (kp_Qi X kp_lM 10 σ' r) args s 0 0 (kp_A X 10)) (F0 m 34 ls []) := by
          intro n
          induction n with
          | zero =>
            intro x4_1 x5_1 σ_2 k H locs ls h hl K hF
            rw [kl_X10_day_34] at hF
            cases hF
          | succ n ih =>
            intro x4_1 x5_1 σ_2 k H locs ls h hl K hF
            rw [kl_X10_day_34] at hF
            refine kp_iload C dX10_day_34 (lv_at hl 4 rfl) ?_
            refine kp_bipush C dX10_day_36 rfl ?_
            refine kp_icmp_ge (tgt := 86) C dX10_day_38 (by decide) hF (fun hF => ?_) (fun hF => ?_)
            · exact K _ _ _ _ _ h (lv_sub hl [3] rfl) hF
            · refine kp_sipush C dX10_day_41 rfl ?_
              refine kp_bipush C dX10_day_44 rfl ?_
              refine kp_iload_n C dX10_day_46 rfl (lv_at hl 1 rfl) ?_
              refine kp_imul C dX10_day_47 ?_
              refine kp_iadd C dX10_day_48 ?_
              refine kp_iload C dX10_day_49 (lv_at hl 4 rfl) ?_
              refine kp_iadd C dX10_day_51 ?_
              refine kp_istore (lv' := fun x6_0 => [(6, kp_iv x6_0), (0, .ref (kp_ad X 0)), (1, kp_iv a1), (2, kp_jv a2), (4, kp_iv x4_1), (5, kp_iv x5_1)]) C dX10_day_52 hl (by decide) (fun _ => rfl) hF (fun x6_0 ls hl hF => ?_)
              refine kp_iload C dX10_day_54 (lv_at hl 4 rfl) ?_
              refine kp_aload_n C dX10_day_56 rfl (lv_at hl 1 rfl) ?_
              refine kp_getr C G h kp_lM0 rfl inWX10 (j := 1) (by decide) q4_58 rfl dX10_day_57 ?_
              refine kp_iload C dX10_day_60 (lv_at hl 0 rfl) ?_
              refine kp_iald C G h (n := 1066) kp_lM1 (by decide) dX10_day_62 hF (fun hF => ?_)
              refine kp_iadd C dX10_day_63 ?_
              refine kp_istore (lv' := fun x4_3 => [(4, kp_iv x4_3), (6, kp_iv x6_0), (0, .ref (kp_ad X 0)), (1, kp_iv a1), (2, kp_jv a2), (5, kp_iv x5_1)]) C dX10_day_64 hl (by decide) (fun _ => rfl) hF (fun x4_3 ls hl hF => ?_)
              refine kp_aload_n C dX10_day_66 rfl (lv_at hl 2 rfl) ?_
              refine kp_getr C G h kp_lM0 rfl inWX10 (j := 1) (by decide) q4_58 rfl dX10_day_67 ?_
              refine kp_iload C dX10_day_70 (lv_at hl 1 rfl) ?_
              refine kp_lload_n C dX10_day_72 rfl (lv_at hl 4 rfl) ?_
              refine kp_iload C dX10_day_73 (lv_at hl 5 rfl) ?_
              refine kp_xlshr C dX10_day_75 hF (fun hF => ?_)
              refine kp_lconst (v := 1) C dX10_day_76 rfl ?_
              refine kp_xland C dX10_day_77 ?_
              refine kp_xl2i C dX10_day_78 ?_
              refine kp_iast C G h (n := 1066) kp_lM1 (by decide) dX10_day_79 hF (fun σ_4 H locs h hF => ?_)
              refine kp_iinc (k := 5) (lv' := fun x5_2 => [(5, kp_iv x5_2), (4, kp_iv x4_3), (6, kp_iv x6_0), (0, .ref (kp_ad X 0)), (1, kp_iv a1), (2, kp_jv a2)]) C dX10_day_80 hl rfl (by decide) (fun _ => rfl) hF (fun x5_2 ls hl hF => ?_)
              refine kp_goto (tgt := 34) C dX10_day_83 (by decide) ?_
              exact ih _ _ _ k _ _ _ h (lv_sub hl [3, 4, 5, 1, 0] rfl) K hF
        refine L34 kp_fu _ _ _ _ _ _ _ h (lv_sub hl [2, 3, 4, 1, 0] rfl) (fun x4_2 σ_3 H locs ls h hl hF => ?_) hF
        clear L34
        refine kp_iload C dX10_day_86 (lv_at hl 0 rfl) ?_
        exact kp_reti C hr hlk G h dX10_day_88 hF
      · refine kp_bipush C dX10_day_25 rfl ?_
        exact kp_reti C hr hlk G h dX10_day_27 hF
  · refine kp_iconst C dX10_day_9 ?_
    exact kp_reti C hr hlk G h dX10_day_10 hF
def kl_X10_feed_34 (a1 : Int) : Nat → Int → kp_W → (kp_W → kp_R) → kp_R
  | 0, _, _, _ => none
  | n + 1, x4_1, σ_2, k => kp_ls x4_1 0 (k σ_2) (kp_ck (kp_inL a1 ∧ 0 ≤ (8 * x4_1) ∧ (8 * x4_1) < 64) (kp_ck (0 ≤ (10 + (σ_2 1 3)) ∧ (10 + (σ_2 1 3)) < 1066) (kp_lt (kp_up σ_2 1 (Int.toNat (10 + (σ_2 1 3))) (kp_andL (a1 / 2 ^ (Int.toNat (8 * x4_1))) 255)) (fun σ_4 => kp_lt (kp_up σ_4 1 3 ((σ_4 1 3) + 1)) (fun σ_5 => kp_lt (x4_1 + (-1)) (fun x4_2 => kl_X10_feed_34 a1 n x4_2 σ_5 k))))))
def kf_X10_feed  (a1 : Int) (a2 : Int) (σ_0 : kp_W) : kp_R :=
  kp_bd (kf_X10_in a2 1 8 σ_0) (fun r_0 σ_1 => kp_eq r_0 0 (some ((-2), σ_1)) (kp_ls 120 ((σ_1 1 3) + a2) (some ((-4), σ_1)) (kp_lt ((a2 - 1) : Int) (fun x4_0 => kl_X10_feed_34 a1 kp_fu x4_0 σ_1 (fun (σ_3 : kp_W) => some ((σ_3 1 3), σ_3))))))
set_option maxRecDepth 100000 in
set_option maxHeartbeats 4000000 in
theorem kc_X10_feed {l : Launch} {X : kp_X} {a1 : Int} {a2 : Int}  {σ_0 σ' : kp_W} {r : Int}   (hF : (kf_X10_feed a1 a2 σ_0) = some (r, σ')) : kp_Met l yX10_feed cX10_feed 5 (some .int) 1 X kp_lM 10 σ_0 [.ref (kp_ad X 0), kp_jv a1, kp_iv a2] (kp_Qi X kp_lM 10 σ' r) := by
  refine kp_body pnX10 (Nat.le_of_ble_eq_true rfl) ?_
  intro p e s m args below meth c ls C hr hlk G h hl
  unfold kf_X10_feed at hF
  have hl : lv_has ls 5 [(0, .ref (kp_ad X 0)), (1, kp_jv a1), (3, kp_iv a2)] := hl
  refine kp_iload_n C dX10_feed_0 rfl (lv_at hl 2 rfl) ?_
  refine kp_iconst C dX10_feed_1 ?_
  refine kp_bipush C dX10_feed_2 rfl ?_
  obtain ⟨r_0, σ_1, hc, hF⟩ := kp_bd_s hF
  refine kp_ci h (kp_rS (As := [kp_iv a2, kp_iv 1, kp_iv 8]) (rest := []) C G h (kc_X10_in  hc) q4_140 q4_141 q1_11 q4_142 hd_X10_in (by decide) rfl hl.1 rfl (Nat.le_of_ble_eq_true rfl) dX10_feed_4) (fun H locs h => ?_)
  refine kp_if_ne (tgt := 13) C dX10_feed_7 (by decide) hF (fun hF => ?_) (fun hF => ?_)
  · refine kp_aload_n C dX10_feed_13 rfl (lv_at hl 0 rfl) ?_
    refine kp_getr C G h kp_lM0 rfl inWX10 (j := 1) (by decide) q4_58 rfl dX10_feed_14 ?_
    refine kp_iconst C dX10_feed_17 ?_
    refine kp_iald0 C G h (i := 3) (n := 1066) kp_lM1 (by decide) (by decide) dX10_feed_18 ?_
    refine kp_iload_n C dX10_feed_19 rfl (lv_at hl 2 rfl) ?_
    refine kp_iadd C dX10_feed_20 ?_
    refine kp_bipush C dX10_feed_21 rfl ?_
    refine kp_icmp_le (tgt := 29) C dX10_feed_23 (by decide) hF (fun hF => ?_) (fun hF => ?_)
    · refine kp_iload_n C dX10_feed_29 rfl (lv_at hl 2 rfl) ?_
      refine kp_iconst C dX10_feed_30 ?_
      refine kp_isub C dX10_feed_31 ?_
      refine kp_istore (lv' := fun x4_0 => [(4, kp_iv x4_0), (0, .ref (kp_ad X 0)), (1, kp_jv a1), (3, kp_iv a2)]) C dX10_feed_32 hl (by decide) (fun _ => rfl) hF (fun x4_0 ls hl hF => ?_)
      have L34 : ∀ (n : Nat) (x4_1 : Int) (σ_2 : kp_W) (k : kp_W → kp_R) (H : Heap) (locs : List Loc) (ls : Array Slot), kp_H X kp_lM 10 s σ_2 H locs → lv_has ls 5 [(0, .ref (kp_ad X 0)), (1, kp_jv a1), (4, kp_iv x4_1)] → (∀ (σ_3 : kp_W) (H : Heap) (locs : List Loc) (ls : Array Slot), kp_H X kp_lM 10 s σ_3 H locs → lv_has ls 5 [(0, .ref (kp_ad X 0))] → k σ_3 = some (r, σ') → W p l e (kp_rm 1) s m args below meth c H locs 0 0 (MQ below (kp_Qi X kp_lM 10 σ' r) args s 0 0 (kp_A X 10)) (F0 m 81 ls [])) → kl_X10_feed_34 a1 n x4_1 σ_2 k = some (r, σ') → W p l e (kp_rm 1) s m args below meth c H locs 0 0 (MQ below (kp_Qi X kp_lM 10 σ' r) args s 0 0 (kp_A X 10)) (F0 m 34 ls []) := by
        intro n
        induction n with
        | zero =>
          intro x4_1 σ_2 k H locs ls h hl K hF
          rw [kl_X10_feed_34] at hF
          cases hF
        | succ n ih =>
          intro x4_1 σ_2 k H locs ls h hl K hF
          rw [kl_X10_feed_34] at hF
          refine kp_iload C dX10_feed_34 (lv_at hl 2 rfl) ?_
          refine kp_if_lt (tgt := 81) C dX10_feed_36 (by decide) hF (fun hF => ?_) (fun hF => ?_)
          · exact K _ _ _ _ h (lv_sub hl [0] rfl) hF
          · refine kp_aload_n C dX10_feed_39 rfl (lv_at hl 0 rfl) ?_
            refine kp_getr C G h kp_lM0 rfl inWX10 (j := 1) (by decide) q4_58 rfl dX10_feed_40 ?_
            refine kp_bipush C dX10_feed_43 rfl ?_
            refine kp_aload_n C dX10_feed_45 rfl (lv_at hl 0 rfl) ?_
            refine kp_getr C G h kp_lM0 rfl inWX10 (j := 1) (by decide) q4_58 rfl dX10_feed_46 ?_
            refine kp_iconst C dX10_feed_49 ?_
            refine kp_iald0 C G h (i := 3) (n := 1066) kp_lM1 (by decide) (by decide) dX10_feed_50 ?_
            refine kp_iadd C dX10_feed_51 ?_
            refine kp_lload_n C dX10_feed_52 rfl (lv_at hl 1 rfl) ?_
            refine kp_bipush C dX10_feed_53 rfl ?_
            refine kp_iload C dX10_feed_55 (lv_at hl 2 rfl) ?_
            refine kp_imul C dX10_feed_57 ?_
            refine kp_xlshr C dX10_feed_58 hF (fun hF => ?_)
            refine kp_ldc2 (n := 255) C q4_148 rfl dX10_feed_59 ?_
            refine kp_xland C dX10_feed_62 ?_
            refine kp_xl2i C dX10_feed_63 ?_
            refine kp_iast C G h (n := 1066) kp_lM1 (by decide) dX10_feed_64 hF (fun σ_4 H locs h hF => ?_)
            refine kp_aload_n C dX10_feed_65 rfl (lv_at hl 0 rfl) ?_
            refine kp_getr C G h kp_lM0 rfl inWX10 (j := 1) (by decide) q4_58 rfl dX10_feed_66 ?_
            refine kp_iconst C dX10_feed_69 ?_
            refine kp_dup2 C dX10_feed_70 rfl rfl ?_
            refine kp_iald0 C G h (i := 3) (n := 1066) kp_lM1 (by decide) (by decide) dX10_feed_71 ?_
            refine kp_iconst C dX10_feed_72 ?_
            refine kp_iadd C dX10_feed_73 ?_
            have hF := kp_ck_i (c := 0 ≤ (3 : Int) ∧ (3 : Int) < 1066) (by decide) hF
            refine kp_iast C G h (n := 1066) kp_lM1 (by decide) dX10_feed_74 hF (fun σ_5 H locs h hF => ?_)
            refine kp_iinc (k := 2) (lv' := fun x4_2 => [(4, kp_iv x4_2), (0, .ref (kp_ad X 0)), (1, kp_jv a1)]) C dX10_feed_75 hl rfl (by decide) (fun _ => rfl) hF (fun x4_2 ls hl hF => ?_)
            refine kp_goto (tgt := 34) C dX10_feed_78 (by decide) ?_
            exact ih _ _ k _ _ _ h (lv_sub hl [1, 2, 0] rfl) K hF
      refine L34 kp_fu _ _ _ _ _ _ h (lv_sub hl [1, 2, 0] rfl) (fun σ_3 H locs ls h hl hF => ?_) hF
      clear L34
      refine kp_aload_n C dX10_feed_81 rfl (lv_at hl 0 rfl) ?_
      refine kp_getr C G h kp_lM0 rfl inWX10 (j := 1) (by decide) q4_58 rfl dX10_feed_82 ?_
      refine kp_iconst C dX10_feed_85 ?_
      refine kp_iald0 C G h (i := 3) (n := 1066) kp_lM1 (by decide) (by decide) dX10_feed_86 ?_
      exact kp_reti C hr hlk G h dX10_feed_87 hF
    · refine kp_bipush C dX10_feed_26 rfl ?_
      exact kp_reti C hr hlk G h dX10_feed_28 hF
  · refine kp_bipush C dX10_feed_10 rfl ?_
    exact kp_reti C hr hlk G h dX10_feed_12 hF
def kf_X10_here   (σ_0 : kp_W) : kp_R :=
  kp_ls (σ_0 0 5) (σ_0 0 6) (kp_ck (0 ≤ (10 + (σ_0 0 5)) ∧ (10 + (σ_0 0 5)) < 1066) (some ((σ_0 1 (Int.toNat (10 + (σ_0 0 5)))), σ_0))) (some ((-1), σ_0))
set_option maxRecDepth 100000 in
set_option maxHeartbeats 4000000 in
theorem kc_X10_here {l : Launch} {X : kp_X}  {σ_0 σ' : kp_W} {r : Int}   (hF : (kf_X10_here σ_0) = some (r, σ')) : kp_Met l yX10_here cX10_here 1 (some .int) 0 X kp_lM 10 σ_0 [.ref (kp_ad X 0)] (kp_Qi X kp_lM 10 σ' r) := by
  refine kp_body pnX10 (Nat.le_of_ble_eq_true rfl) ?_
  intro p e s m args below meth c ls C hr hlk G h hl
  unfold kf_X10_here at hF
  have hl : lv_has ls 1 [(0, .ref (kp_ad X 0))] := hl
  refine kp_aload_n C dX10_here_0 rfl (lv_at hl 0 rfl) ?_
  refine kp_geti C G h kp_lM0 rfl inWX10 (j := 5) (by decide) q4_62 rfl dX10_here_1 ?_
  refine kp_aload_n C dX10_here_4 rfl (lv_at hl 0 rfl) ?_
  refine kp_geti C G h kp_lM0 rfl inWX10 (j := 6) (by decide) q4_63 rfl dX10_here_5 ?_
  refine kp_icmp_ge (tgt := 26) C dX10_here_8 (by decide) hF (fun hF => ?_) (fun hF => ?_)
  · refine kp_iconst C dX10_here_26 ?_
    exact kp_reti C hr hlk G h dX10_here_27 hF
  · refine kp_aload_n C dX10_here_11 rfl (lv_at hl 0 rfl) ?_
    refine kp_getr C G h kp_lM0 rfl inWX10 (j := 1) (by decide) q4_58 rfl dX10_here_12 ?_
    refine kp_bipush C dX10_here_15 rfl ?_
    refine kp_aload_n C dX10_here_17 rfl (lv_at hl 0 rfl) ?_
    refine kp_geti C G h kp_lM0 rfl inWX10 (j := 5) (by decide) q4_62 rfl dX10_here_18 ?_
    refine kp_iadd C dX10_here_21 ?_
    refine kp_iald C G h (n := 1066) kp_lM1 (by decide) dX10_here_22 hF (fun hF => ?_)
    refine kp_goto (tgt := 27) C dX10_here_23 (by decide) ?_
    exact kp_reti C hr hlk G h dX10_here_27 hF
def kf_X10_must  (a1 : Int) (σ_0 : kp_W) : kp_R :=
  kp_jn (fun (v_0 : Int) (σ_1 : kp_W) => kp_ck (v_0 = 0 ∨ v_0 = 1) (kp_lt (kp_up σ_1 0 7 v_0) (fun σ_2 => kp_eq (σ_2 0 7) 0 (kp_lt (kp_up σ_2 0 5 ((σ_2 0 5) + 1)) (fun σ_3 => some (0, σ_3))) (kp_lt (kp_up σ_2 0 5 ((σ_2 0 5) + 0)) (fun σ_4 => some (0, σ_4)))))) (fun j21 => kp_jn (fun (σ_5 : kp_W) => j21 1 σ_5) (fun j16 => kp_eq (σ_0 0 7) 0 (kp_bd (kf_X10_here σ_0) (fun r_0 σ_6 => kp_eq r_0 a1 (j21 0 σ_6) (j16 σ_6))) (j16 σ_0)))
set_option maxRecDepth 100000 in
set_option maxHeartbeats 4000000 in
theorem kc_X10_must {l : Launch} {X : kp_X} {a1 : Int}  {σ_0 σ' : kp_W} {r : Int}   (hF : (kf_X10_must a1 σ_0) = some (r, σ')) : kp_Met l yX10_must cX10_must 2 none 1 X kp_lM 10 σ_0 [.ref (kp_ad X 0), kp_iv a1] (kp_Qv X kp_lM 10 σ') := by
  refine kp_body pnX10 (Nat.le_of_ble_eq_true rfl) ?_
  intro p e s m args below meth c ls C hr hlk G h hl
  unfold kf_X10_must at hF
  have hl : lv_has ls 2 [(0, .ref (kp_ad X 0)), (1, kp_iv a1)] := hl
  refine kp_aload_n C dX10_must_0 rfl (lv_at hl 0 rfl) ?_
  refine kp_aload_n C dX10_must_1 rfl (lv_at hl 0 rfl) ?_
  refine kp_geti C G h kp_lM0 rfl inWX10 (j := 7) (by decide) q4_64 rfl dX10_must_2 ?_
  obtain ⟨j21, ej21, hF⟩ := kp_jn_s hF
  have J21 : ∀ (v_0 : Int), ∀ (σ_1 : kp_W), ∀ (H : Heap) (locs : List Loc) (ls : Array Slot), kp_H X kp_lM 10 s σ_1 H locs → lv_has ls 2 [(0, .ref (kp_ad X 0))] → j21 v_0 σ_1 = some (r, σ') → W p l e (kp_rm 1) s m args below meth c H locs 0 0 (MQ below (kp_Qv X kp_lM 10 σ') args s 0 0 (kp_A X 10)) (F0 m 21 ls [kp_iv v_0, .ref (kp_ad X 0)]) := by
    intro v_0 σ_1 H locs ls h hl hF
    rw [ej21] at hF
    refine kp_putz C G h kp_lM0 rfl inWX10 tyX10 tyX10_ok nmX10 (j := 7) (by decide) q4_64 rfl rfl (by decide +kernel) dX10_must_21 hF (fun σ_2 H locs h hF => ?_)
    refine kp_aload_n C dX10_must_24 rfl (lv_at hl 0 rfl) ?_
    refine kp_dup C dX10_must_25 rfl ?_
    refine kp_geti C G h kp_lM0 rfl inWX10 (j := 5) (by decide) q4_62 rfl dX10_must_26 ?_
    refine kp_aload_n C dX10_must_29 rfl (lv_at hl 0 rfl) ?_
    refine kp_geti C G h kp_lM0 rfl inWX10 (j := 7) (by decide) q4_64 rfl dX10_must_30 ?_
    refine kp_if_eq (tgt := 40) C dX10_must_33 (by decide) hF (fun hF => ?_) (fun hF => ?_)
    · refine kp_iconst C dX10_must_40 ?_
      refine kp_iadd C dX10_must_41 ?_
      refine kp_puti C G h kp_lM0 rfl inWX10 tyX10 tyX10_ok nmX10 (j := 5) (by decide) q4_62 rfl rfl (by decide +kernel) dX10_must_42 hF (fun σ_3 H locs h hF => ?_)
      exact kp_retv (v := 0) C hr hlk G h dX10_must_45 hF
    · refine kp_iconst C dX10_must_36 ?_
      refine kp_goto (tgt := 41) C dX10_must_37 (by decide) ?_
      refine kp_iadd C dX10_must_41 ?_
      refine kp_puti C G h kp_lM0 rfl inWX10 tyX10 tyX10_ok nmX10 (j := 5) (by decide) q4_62 rfl rfl (by decide +kernel) dX10_must_42 hF (fun σ_4 H locs h hF => ?_)
      exact kp_retv (v := 0) C hr hlk G h dX10_must_45 hF
  clear ej21
  obtain ⟨j16, ej16, hF⟩ := kp_jn_s hF
  have J16 : ∀ (σ_5 : kp_W), ∀ (H : Heap) (locs : List Loc) (ls : Array Slot), kp_H X kp_lM 10 s σ_5 H locs → lv_has ls 2 [(0, .ref (kp_ad X 0))] → j16 σ_5 = some (r, σ') → W p l e (kp_rm 1) s m args below meth c H locs 0 0 (MQ below (kp_Qv X kp_lM 10 σ') args s 0 0 (kp_A X 10)) (F0 m 16 ls [.ref (kp_ad X 0)]) := by
    intro σ_5 H locs ls h hl hF
    rw [ej16] at hF
    refine kp_iconst C dX10_must_16 ?_
    refine kp_goto (tgt := 21) C dX10_must_17 (by decide) ?_
    exact J21 _ _ _ _ _ h (lv_sub hl [0] rfl) hF
  clear ej16
  refine kp_if_ne (tgt := 16) C dX10_must_5 (by decide) hF (fun hF => ?_) (fun hF => ?_)
  · exact J16 _ _ _ _ h (lv_sub hl [0] rfl) hF
  · refine kp_aload_n C dX10_must_8 rfl (lv_at hl 0 rfl) ?_
    obtain ⟨r_0, σ_6, hc, hF⟩ := kp_bd_s hF
    refine kp_ci h (kp_rV (k := 0) (As := []) (rest := [.ref (kp_ad X 0)]) C G h (kc_X10_here  hc) q4_157 q4_159 q0_3_3 q1_11 q4_160 ⟨rfl, hd_X10_here⟩ (by decide) kp_lM0 rfl rfl hl.1 rfl (Nat.le_of_ble_eq_true rfl) dX10_must_9) (fun H locs h => ?_)
    refine kp_iload_n C dX10_must_12 rfl (lv_at hl 1 rfl) ?_
    refine kp_icmp_eq (tgt := 20) C dX10_must_13 (by decide) hF (fun hF => ?_) (fun hF => ?_)
    · refine kp_iconst C dX10_must_20 ?_
      exact J21 _ _ _ _ _ h (lv_sub hl [0] rfl) hF
    · exact J16 _ _ _ _ h (lv_sub hl [0] rfl) hF
def kl_X10_spells_2 (a1 : Nat) : Nat → Int → kp_W → (kp_W → kp_R) → kp_R
  | 0, _, _, _ => none
  | n + 1, x2_1, σ_1, k => kp_ls x2_1 (kp_slen a1) (kp_ck (0 ≤ x2_1 ∧ x2_1 < kp_slen a1) (kp_bd (kf_X10_must (kp_sch a1 x2_1) σ_1) (fun r_0 σ_3 => kp_lt (x2_1 + 1) (fun x2_2 => kl_X10_spells_2 a1 n x2_2 σ_3 k)))) (k σ_1)
def kf_X10_spells  (a1 : Nat) (σ_0 : kp_W) : kp_R :=
  kp_lt (0 : Int) (fun x2_0 => kl_X10_spells_2 a1 kp_fu x2_0 σ_0 (fun (σ_2 : kp_W) => some (0, σ_2)))
set_option maxRecDepth 100000 in
set_option maxHeartbeats 4000000 in
theorem kc_X10_spells {l : Launch} {X : kp_X} {a1 : Nat}  {σ_0 σ' : kp_W} {r : Int} (h1 : a1 < 10)  (hF : (kf_X10_spells a1 σ_0) = some (r, σ')) : kp_Met l yX10_spells cX10_spells 3 none 5 X kp_lM 10 σ_0 [.ref (kp_ad X 0), .ref (kp_sK X a1)] (kp_Qv X kp_lM 10 σ') := by
  refine kp_body pnX10 (Nat.le_of_ble_eq_true rfl) ?_
  intro p e s m args below meth c ls C hr hlk G h hl
  unfold kf_X10_spells at hF
  have hl : lv_has ls 3 [(0, .ref (kp_ad X 0)), (1, .ref (kp_sK X a1))] := hl
  refine kp_iconst C dX10_spells_0 ?_
  refine kp_istore_n (lv' := fun x2_0 => [(2, kp_iv x2_0), (0, .ref (kp_ad X 0)), (1, .ref (kp_sK X a1))]) C dX10_spells_1 rfl hl (by decide) (fun _ => rfl) hF (fun x2_0 ls hl hF => ?_)
  have L2 : ∀ (n : Nat) (x2_1 : Int) (σ_1 : kp_W) (k : kp_W → kp_R) (H : Heap) (locs : List Loc) (ls : Array Slot), kp_H X kp_lM 10 s σ_1 H locs → lv_has ls 3 [(0, .ref (kp_ad X 0)), (1, .ref (kp_sK X a1)), (2, kp_iv x2_1)] → (∀ (σ_2 : kp_W) (H : Heap) (locs : List Loc) (ls : Array Slot), kp_H X kp_lM 10 s σ_2 H locs → lv_has ls 3 [] → k σ_2 = some (r, σ') → W p l e (kp_rm 5) s m args below meth c H locs 0 0 (MQ below (kp_Qv X kp_lM 10 σ') args s 0 0 (kp_A X 10)) (F0 m 25 ls [])) → kl_X10_spells_2 a1 n x2_1 σ_1 k = some (r, σ') → W p l e (kp_rm 5) s m args below meth c H locs 0 0 (MQ below (kp_Qv X kp_lM 10 σ') args s 0 0 (kp_A X 10)) (F0 m 2 ls []) := by
    intro n
    induction n with
    | zero =>
      intro x2_1 σ_1 k H locs ls h hl K hF
      rw [kl_X10_spells_2] at hF
      cases hF
    | succ n ih =>
      intro x2_1 σ_1 k H locs ls h hl K hF
      rw [kl_X10_spells_2] at hF
      refine kp_iload_n C dX10_spells_2 rfl (lv_at hl 2 rfl) ?_
      refine kp_aload_n C dX10_spells_3 rfl (lv_at hl 1 rfl) ?_
      refine kp_ci h (kp_rT (i := a1) (As := []) (rest := [kp_iv x2_1]) C G h h1 (kc_length h1) q4_170 q2_159 q2_160 q1_13 q2_161 hd_J0_length_8abf5 (by decide) rfl hl.1 rfl (Nat.le_of_ble_eq_true rfl) dX10_spells_4) (fun H locs h => ?_)
      refine kp_icmp_ge (tgt := 25) C dX10_spells_7 (by decide) hF (fun hF => ?_) (fun hF => ?_)
      · exact K _ _ _ _ h (lv_sub hl [] rfl) hF
      · refine kp_aload_n C dX10_spells_10 rfl (lv_at hl 0 rfl) ?_
        refine kp_aload_n C dX10_spells_11 rfl (lv_at hl 1 rfl) ?_
        refine kp_iload_n C dX10_spells_12 rfl (lv_at hl 2 rfl) ?_
        obtain ⟨hcc, hF⟩ := kp_ck_s hF
        refine kp_ci h (kp_rT (i := a1) (As := [kp_iv x2_1]) (rest := [.ref (kp_ad X 0)]) C G h h1 (kc_charAt h1 hcc) q4_171 q2_82 q2_83 q1_13 q2_84 hd_J0_charAt_5068e (by decide) rfl hl.1 rfl (Nat.le_of_ble_eq_true rfl) dX10_spells_13) (fun H locs h => ?_)
        obtain ⟨r_0, σ_3, hc, hF⟩ := kp_bd_s hF
        refine kp_cv h (kp_rV (k := 0) (As := [kp_iv (kp_sch a1 x2_1)]) (rest := []) C G h (kc_X10_must  hc) q4_172 q4_174 q0_3_6 q1_11 q4_175 ⟨rfl, hd_X10_must⟩ (by decide) kp_lM0 rfl rfl hl.1 rfl (Nat.le_of_ble_eq_true rfl) dX10_spells_16) (fun H locs h => ?_)
        refine kp_iinc (k := 2) (lv' := fun x2_2 => [(2, kp_iv x2_2), (0, .ref (kp_ad X 0)), (1, .ref (kp_sK X a1))]) C dX10_spells_19 hl rfl (by decide) (fun _ => rfl) hF (fun x2_2 ls hl hF => ?_)
        refine kp_goto (tgt := 2) C dX10_spells_22 (by decide) ?_
        exact ih _ _ k _ _ _ h (lv_sub hl [1, 2, 0] rfl) K hF
  refine L2 kp_fu _ _ _ _ _ _ h (lv_sub hl [1, 2, 0] rfl) (fun σ_2 H locs ls h hl hF => ?_) hF
  clear L2
  exact kp_retv (v := 0) C hr hlk G h dX10_spells_25 hF
