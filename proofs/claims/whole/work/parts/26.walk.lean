-- by program (wip/whole/gen/drive.py)
def kf_X9_note  (a1 : Int) (a2 : Int) (a3 : Int) (σ_0 : kp_W) : kp_R :=
  kp_bd (kf_X9_isPlace a1 σ_0) (fun r_0 σ_1 => kp_eq r_0 0 (some ((-1), σ_1)) (kp_bd (kf_X9_isMinute a2 σ_1) (fun r_1 σ_2 => kp_eq r_1 0 (some ((-1), σ_2)) (kp_ls a3 0 (some ((-2), σ_2)) (kp_ls 99 a3 (some ((-2), σ_2)) (kp_ls (σ_2 16 3) 12 (kp_bd (kf_X4_add a1 a2 a3 σ_2) (fun r_2 σ_3 => some (r_2, σ_3))) (some ((-4), σ_2))))))))
set_option maxRecDepth 100000 in
set_option maxHeartbeats 4000000 in
theorem kc_X9_note {l : Launch} {X : kp_X} {a1 : Int} {a2 : Int} {a3 : Int}  {σ_0 σ' : kp_W} {r : Int}   (hF : (kf_X9_note a1 a2 a3 σ_0) = some (r, σ')) : kp_Met l yX9_note cX9_note 4 (some .int) 1 X kp_lK 55 σ_0 [.ref (kp_ad X 0), kp_iv a1, kp_iv a2, kp_iv a3] (kp_Qi X kp_lK 55 σ' r) := by
  refine kp_body pnX9 (Nat.le_of_ble_eq_true rfl) ?_
  intro p e s m args below meth c ls C hr hlk G h hl
  unfold kf_X9_note at hF
  have hl : lv_has ls 4 [(0, .ref (kp_ad X 0)), (1, kp_iv a1), (2, kp_iv a2), (3, kp_iv a3)] := hl
  refine kp_iload_n C dX9_note_0 rfl (lv_at hl 1 rfl) ?_
  obtain ⟨r_0, σ_1, hc, hF⟩ := kp_bd_s hF
  refine kp_ci h (kp_rS (As := [kp_iv a1]) (rest := []) C G h (kc_X9_isPlace  hc) q3_33 q3_34 q1_1 q3_35 hd_X9_isPlace (by decide) rfl hl.1 rfl (Nat.le_of_ble_eq_true rfl) dX9_note_1) (fun H locs h => ?_)
  refine kp_if_eq (tgt := 14) C dX9_note_4 (by decide) hF (fun hF => ?_) (fun hF => ?_)
  · refine kp_iconst C dX9_note_14 ?_
    exact kp_reti C hr hlk G h dX9_note_15 hF
  · refine kp_iload_n C dX9_note_7 rfl (lv_at hl 2 rfl) ?_
    obtain ⟨r_1, σ_2, hc, hF⟩ := kp_bd_s hF
    refine kp_ci h (kp_rS (As := [kp_iv a2]) (rest := []) C G h (kc_X9_isMinute  hc) q2_181 q2_182 q1_1 q2_183 hd_X9_isMinute (by decide) rfl hl.1 rfl (Nat.le_of_ble_eq_true rfl) dX9_note_8) (fun H locs h => ?_)
    refine kp_if_ne (tgt := 16) C dX9_note_11 (by decide) hF (fun hF => ?_) (fun hF => ?_)
    · refine kp_iload_n C dX9_note_16 rfl (lv_at hl 3 rfl) ?_
      refine kp_if_lt (tgt := 26) C dX9_note_17 (by decide) hF (fun hF => ?_) (fun hF => ?_)
      · refine kp_bipush C dX9_note_26 rfl ?_
        exact kp_reti C hr hlk G h dX9_note_28 hF
      · refine kp_iload_n C dX9_note_20 rfl (lv_at hl 3 rfl) ?_
        refine kp_bipush C dX9_note_21 rfl ?_
        refine kp_icmp_le (tgt := 29) C dX9_note_23 (by decide) hF (fun hF => ?_) (fun hF => ?_)
        · refine kp_aload_n C dX9_note_29 rfl (lv_at hl 0 rfl) ?_
          refine kp_getr C G h kp_lK0 rfl inWX9 (j := 0) (by decide) q2_12 rfl dX9_note_30 ?_
          refine kp_getr C G h kp_lK1 rfl inWX1 (j := 4) (by decide) q1_164 rfl dX9_note_33 ?_
          refine kp_geti C G h kp_lK16 rfl inWX4 (j := 3) (by decide) q1_145 rfl dX9_note_36 ?_
          refine kp_bipush C dX9_note_39 rfl ?_
          refine kp_icmp_lt (tgt := 47) C dX9_note_41 (by decide) hF (fun hF => ?_) (fun hF => ?_)
          · refine kp_aload_n C dX9_note_47 rfl (lv_at hl 0 rfl) ?_
            refine kp_getr C G h kp_lK0 rfl inWX9 (j := 0) (by decide) q2_12 rfl dX9_note_48 ?_
            refine kp_getr C G h kp_lK1 rfl inWX1 (j := 4) (by decide) q1_164 rfl dX9_note_51 ?_
            refine kp_iload_n C dX9_note_54 rfl (lv_at hl 1 rfl) ?_
            refine kp_iload_n C dX9_note_55 rfl (lv_at hl 2 rfl) ?_
            refine kp_iload_n C dX9_note_56 rfl (lv_at hl 3 rfl) ?_
            obtain ⟨r_2, σ_3, hc, hF⟩ := kp_bd_s hF
            refine kp_ci h (kp_rV (k := 16) (As := [kp_iv a1, kp_iv a2, kp_iv a3]) (rest := []) C G h (kc_X4_add  hc) q3_110 q3_111 q3_112 q1_7 q3_113 ⟨rfl, hd_X4_add⟩ (by decide) kp_lK16 rfl rfl hl.1 rfl (Nat.le_of_ble_eq_true rfl) dX9_note_57) (fun H locs h => ?_)
            exact kp_reti C hr hlk G h dX9_note_60 hF
          · refine kp_bipush C dX9_note_44 rfl ?_
            exact kp_reti C hr hlk G h dX9_note_46 hF
        · refine kp_bipush C dX9_note_26 rfl ?_
          exact kp_reti C hr hlk G h dX9_note_28 hF
    · refine kp_iconst C dX9_note_14 ?_
      exact kp_reti C hr hlk G h dX9_note_15 hF
def kf_X9_clear   (σ_0 : kp_W) : kp_R :=
  kp_lt ((σ_0 16 3) : Int) (fun x1_0 => kp_lt (kp_up σ_0 16 3 0) (fun σ_1 => some (x1_0, σ_1)))
set_option maxRecDepth 100000 in
set_option maxHeartbeats 4000000 in
theorem kc_X9_clear {l : Launch} {X : kp_X}  {σ_0 σ' : kp_W} {r : Int}   (hF : (kf_X9_clear σ_0) = some (r, σ')) : kp_Met l yX9_clear cX9_clear 2 (some .int) 0 X kp_lK 55 σ_0 [.ref (kp_ad X 0)] (kp_Qi X kp_lK 55 σ' r) := by
  refine kp_body pnX9 (Nat.le_of_ble_eq_true rfl) ?_
  intro p e s m args below meth c ls C hr hlk G h hl
  unfold kf_X9_clear at hF
  have hl : lv_has ls 2 [(0, .ref (kp_ad X 0))] := hl
  refine kp_aload_n C dX9_clear_0 rfl (lv_at hl 0 rfl) ?_
  refine kp_getr C G h kp_lK0 rfl inWX9 (j := 0) (by decide) q2_12 rfl dX9_clear_1 ?_
  refine kp_getr C G h kp_lK1 rfl inWX1 (j := 4) (by decide) q1_164 rfl dX9_clear_4 ?_
  refine kp_geti C G h kp_lK16 rfl inWX4 (j := 3) (by decide) q1_145 rfl dX9_clear_7 ?_
  refine kp_istore_n (lv' := fun x1_0 => [(1, kp_iv x1_0), (0, .ref (kp_ad X 0))]) C dX9_clear_10 rfl hl (by decide) (fun _ => rfl) hF (fun x1_0 ls hl hF => ?_)
  refine kp_aload_n C dX9_clear_11 rfl (lv_at hl 1 rfl) ?_
  refine kp_getr C G h kp_lK0 rfl inWX9 (j := 0) (by decide) q2_12 rfl dX9_clear_12 ?_
  refine kp_getr C G h kp_lK1 rfl inWX1 (j := 4) (by decide) q1_164 rfl dX9_clear_15 ?_
  refine kp_iconst C dX9_clear_18 ?_
  refine kp_puti C G h kp_lK16 rfl inWX4 tyX4 tyX4_ok nmX4 (j := 3) (by decide) q1_145 rfl rfl (by decide +kernel) dX9_clear_19 hF (fun σ_1 H locs h hF => ?_)
  refine kp_iload_n C dX9_clear_22 rfl (lv_at hl 0 rfl) ?_
  exact kp_reti C hr hlk G h dX9_clear_23 hF
def kl_X9_fittingRows_4 (a1 : Int) : Nat → Int → Int → kp_W → (Int → kp_W → kp_R) → kp_R
  | 0, _, _, _, _ => none
  | n + 1, x2_1, x3_1, σ_1, k => kp_ls x3_1 (σ_1 16 3) (kp_ck (0 ≤ x3_1 ∧ x3_1 < 12) (kp_ck (0 ≤ x3_1 ∧ x3_1 < 12) (kp_bd (kf_X9_heardAlone a1 (σ_1 17 (Int.toNat x3_1)) (σ_1 18 (Int.toNat x3_1)) σ_1) (fun r_0 σ_3 => kp_ck (0 ≤ x3_1 ∧ x3_1 < 12) (kp_eq r_0 (σ_3 19 (Int.toNat x3_1)) (kp_ck (0 ≤ x3_1 ∧ x3_1 < 32) (kp_lt ((kp_or x2_1 (1 * 2 ^ (Int.toNat x3_1))) : Int) (fun x2_3 => kp_lt (x3_1 + 1) (fun x3_3 => kl_X9_fittingRows_4 a1 n x2_3 x3_3 σ_3 k)))) (kp_lt (x3_1 + 1) (fun x3_2 => kl_X9_fittingRows_4 a1 n x2_1 x3_2 σ_3 k))))))) (k x2_1 σ_1)
def kf_X9_fittingRows  (a1 : Int) (σ_0 : kp_W) : kp_R :=
  kp_lt (0 : Int) (fun x2_0 => kp_lt (0 : Int) (fun x3_0 => kl_X9_fittingRows_4 a1 kp_fu x2_0 x3_0 σ_0 (fun (x2_2 : Int) (σ_2 : kp_W) => some (x2_2, σ_2))))
set_option maxRecDepth 100000 in
set_option maxHeartbeats 4000000 in
theorem kc_X9_fittingRows {l : Launch} {X : kp_X} {a1 : Int}  {σ_0 σ' : kp_W} {r : Int}   (hF : (kf_X9_fittingRows a1 σ_0) = some (r, σ')) : kp_Met l yX9_fittingRows cX9_fittingRows 4 (some .int) 4 X kp_lK 55 σ_0 [.ref (kp_ad X 0), kp_iv a1] (kp_Qi X kp_lK 55 σ' r) := by
  refine kp_body pnX9 (Nat.le_of_ble_eq_true rfl) ?_
  intro p e s m args below meth c ls C hr hlk G h hl
  unfold kf_X9_fittingRows at hF
  have hl : lv_has ls 4 [(0, .ref (kp_ad X 0)), (1, kp_iv a1)] := hl
  refine kp_iconst C dX9_fittingRows_0 ?_
  refine kp_istore_n (lv' := fun x2_0 => [(2, kp_iv x2_0), (0, .ref (kp_ad X 0)), (1, kp_iv a1)]) C dX9_fittingRows_1 rfl hl (by decide) (fun _ => rfl) hF (fun x2_0 ls hl hF => ?_)
  refine kp_iconst C dX9_fittingRows_2 ?_
  refine kp_istore_n (lv' := fun x3_0 => [(3, kp_iv x3_0), (2, kp_iv x2_0), (0, .ref (kp_ad X 0)), (1, kp_iv a1)]) C dX9_fittingRows_3 rfl hl (by decide) (fun _ => rfl) hF (fun x3_0 ls hl hF => ?_)
  have L4 : ∀ (n : Nat) (x2_1 : Int) (x3_1 : Int) (σ_1 : kp_W) (k : Int → kp_W → kp_R) (H : Heap) (locs : List Loc) (ls : Array Slot), kp_H X kp_lK 55 s σ_1 H locs → lv_has ls 4 [(0, .ref (kp_ad X 0)), (1, kp_iv a1), (2, kp_iv x2_1), (3, kp_iv x3_1)] → (∀ (x2_2 : Int) (σ_2 : kp_W) (H : Heap) (locs : List Loc) (ls : Array Slot), kp_H X kp_lK 55 s σ_2 H locs → lv_has ls 4 [(2, kp_iv x2_2)] → k x2_2 σ_2 = some (r, σ') → W p l e (kp_rm 4) s m args below meth c H locs 0 0 (MQ below (kp_Qi X kp_lK 55 σ' r) args s 0 0 (kp_A X 55)) (F0 m 74 ls [])) → kl_X9_fittingRows_4 a1 n x2_1 x3_1 σ_1 k = some (r, σ') → W p l e (kp_rm 4) s m args below meth c H locs 0 0 (MQ below (kp_Qi X kp_lK 55 σ' r) args s 0 0 (kp_A X 55)) (F0 m 4 ls []) := by
    intro n
    induction n with
    | zero =>
      intro x2_1 x3_1 σ_1 k H locs ls h hl K hF
      rw [kl_X9_fittingRows_4] at hF
      cases hF
    | succ n ih =>
      intro x2_1 x3_1 σ_1 k H locs ls h hl K hF
      rw [kl_X9_fittingRows_4] at hF
      refine kp_iload_n C dX9_fittingRows_4 rfl (lv_at hl 3 rfl) ?_
      refine kp_aload_n C dX9_fittingRows_5 rfl (lv_at hl 0 rfl) ?_
      refine kp_getr C G h kp_lK0 rfl inWX9 (j := 0) (by decide) q2_12 rfl dX9_fittingRows_6 ?_
      refine kp_getr C G h kp_lK1 rfl inWX1 (j := 4) (by decide) q1_164 rfl dX9_fittingRows_9 ?_
      refine kp_geti C G h kp_lK16 rfl inWX4 (j := 3) (by decide) q1_145 rfl dX9_fittingRows_12 ?_
      refine kp_icmp_ge (tgt := 74) C dX9_fittingRows_15 (by decide) hF (fun hF => ?_) (fun hF => ?_)
      · exact K _ _ _ _ _ h (lv_sub hl [2] rfl) hF
      · refine kp_aload_n C dX9_fittingRows_18 rfl (lv_at hl 0 rfl) ?_
        refine kp_iload_n C dX9_fittingRows_19 rfl (lv_at hl 1 rfl) ?_
        refine kp_aload_n C dX9_fittingRows_20 rfl (lv_at hl 0 rfl) ?_
        refine kp_getr C G h kp_lK0 rfl inWX9 (j := 0) (by decide) q2_12 rfl dX9_fittingRows_21 ?_
        refine kp_getr C G h kp_lK1 rfl inWX1 (j := 4) (by decide) q1_164 rfl dX9_fittingRows_24 ?_
        refine kp_getr C G h kp_lK16 rfl inWX4 (j := 0) (by decide) q1_139 rfl dX9_fittingRows_27 ?_
        refine kp_iload_n C dX9_fittingRows_30 rfl (lv_at hl 3 rfl) ?_
        refine kp_iald C G h (n := 12) kp_lK17 (by decide) dX9_fittingRows_31 hF (fun hF => ?_)
        refine kp_aload_n C dX9_fittingRows_32 rfl (lv_at hl 0 rfl) ?_
        refine kp_getr C G h kp_lK0 rfl inWX9 (j := 0) (by decide) q2_12 rfl dX9_fittingRows_33 ?_
        refine kp_getr C G h kp_lK1 rfl inWX1 (j := 4) (by decide) q1_164 rfl dX9_fittingRows_36 ?_
        refine kp_getr C G h kp_lK16 rfl inWX4 (j := 1) (by decide) q1_141 rfl dX9_fittingRows_39 ?_
        refine kp_iload_n C dX9_fittingRows_42 rfl (lv_at hl 3 rfl) ?_
        refine kp_iald C G h (n := 12) kp_lK18 (by decide) dX9_fittingRows_43 hF (fun hF => ?_)
        obtain ⟨r_0, σ_3, hc, hF⟩ := kp_bd_s hF
        refine kp_ci h (kp_rV (k := 0) (As := [kp_iv a1, kp_iv (σ_1 17 (Int.toNat x3_1)), kp_iv (σ_1 18 (Int.toNat x3_1))]) (rest := []) C G h (kc_X9_heardAlone  hc) q3_94 q3_96 q0_2_1 q1_1 q3_97 ⟨rfl, hd_X9_heardAlone⟩ (by decide) kp_lK0 rfl rfl hl.1 rfl (Nat.le_of_ble_eq_true rfl) dX9_fittingRows_44) (fun H locs h => ?_)
        refine kp_aload_n C dX9_fittingRows_47 rfl (lv_at hl 0 rfl) ?_
        refine kp_getr C G h kp_lK0 rfl inWX9 (j := 0) (by decide) q2_12 rfl dX9_fittingRows_48 ?_
        refine kp_getr C G h kp_lK1 rfl inWX1 (j := 4) (by decide) q1_164 rfl dX9_fittingRows_51 ?_
        refine kp_getr C G h kp_lK16 rfl inWX4 (j := 2) (by decide) q1_143 rfl dX9_fittingRows_54 ?_
        refine kp_iload_n C dX9_fittingRows_57 rfl (lv_at hl 3 rfl) ?_
        refine kp_iald C G h (n := 12) kp_lK19 (by decide) dX9_fittingRows_58 hF (fun hF => ?_)
        refine kp_icmp_ne (tgt := 68) C dX9_fittingRows_59 (by decide) hF (fun hF => ?_) (fun hF => ?_)
        · refine kp_iinc (k := 3) (lv' := fun x3_2 => [(3, kp_iv x3_2), (0, .ref (kp_ad X 0)), (1, kp_iv a1), (2, kp_iv x2_1)]) C dX9_fittingRows_68 hl rfl (by decide) (fun _ => rfl) hF (fun x3_2 ls hl hF => ?_)
          refine kp_goto (tgt := 4) C dX9_fittingRows_71 (by decide) ?_
          exact ih _ _ _ k _ _ _ h (lv_sub hl [1, 2, 3, 0] rfl) K hF
        · refine kp_iload_n C dX9_fittingRows_62 rfl (lv_at hl 2 rfl) ?_
          refine kp_iconst C dX9_fittingRows_63 ?_
          refine kp_iload_n C dX9_fittingRows_64 rfl (lv_at hl 3 rfl) ?_
          refine kp_xishl C dX9_fittingRows_65 hF (fun hF => ?_)
          refine kp_xior C dX9_fittingRows_66 ?_
          refine kp_istore_n (lv' := fun x2_3 => [(2, kp_iv x2_3), (0, .ref (kp_ad X 0)), (1, kp_iv a1), (3, kp_iv x3_1)]) C dX9_fittingRows_67 rfl hl (by decide) (fun _ => rfl) hF (fun x2_3 ls hl hF => ?_)
          refine kp_iinc (k := 3) (lv' := fun x3_3 => [(3, kp_iv x3_3), (2, kp_iv x2_3), (0, .ref (kp_ad X 0)), (1, kp_iv a1)]) C dX9_fittingRows_68 hl rfl (by decide) (fun _ => rfl) hF (fun x3_3 ls hl hF => ?_)
          refine kp_goto (tgt := 4) C dX9_fittingRows_71 (by decide) ?_
          exact ih _ _ _ k _ _ _ h (lv_sub hl [2, 3, 1, 0] rfl) K hF
  refine L4 kp_fu _ _ _ _ _ _ _ h (lv_sub hl [2, 3, 1, 0] rfl) (fun x2_2 σ_2 H locs ls h hl hF => ?_) hF
  clear L4
  refine kp_iload_n C dX9_fittingRows_74 rfl (lv_at hl 0 rfl) ?_
  exact kp_reti C hr hlk G h dX9_fittingRows_75 hF
def kf_X9_fits  (a1 : Int) (σ_0 : kp_W) : kp_R :=
  kp_bd (kf_X3_has a1 σ_0) (fun r_0 σ_1 => kp_eq r_0 0 (some ((-1), σ_1)) (kp_bd (kf_X9_settle σ_1) (fun r_1 σ_2 => kp_bd (kf_X9_fittingRows a1 σ_2) (fun r_2 σ_3 => some (r_2, σ_3)))))
set_option maxRecDepth 100000 in
set_option maxHeartbeats 4000000 in
theorem kc_X9_fits {l : Launch} {X : kp_X} {a1 : Int}  {σ_0 σ' : kp_W} {r : Int}   (hF : (kf_X9_fits a1 σ_0) = some (r, σ')) : kp_Met l yX9_fits cX9_fits 2 (some .int) 6 X kp_lK 55 σ_0 [.ref (kp_ad X 0), kp_iv a1] (kp_Qi X kp_lK 55 σ' r) := by
  refine kp_body pnX9 (Nat.le_of_ble_eq_true rfl) ?_
  intro p e s m args below meth c ls C hr hlk G h hl
  unfold kf_X9_fits at hF
  have hl : lv_has ls 2 [(0, .ref (kp_ad X 0)), (1, kp_iv a1)] := hl
  refine kp_aload_n C dX9_fits_0 rfl (lv_at hl 0 rfl) ?_
  refine kp_getr C G h kp_lK0 rfl inWX9 (j := 0) (by decide) q2_12 rfl dX9_fits_1 ?_
  refine kp_getr C G h kp_lK1 rfl inWX1 (j := 3) (by decide) q1_162 rfl dX9_fits_4 ?_
  refine kp_iload_n C dX9_fits_7 rfl (lv_at hl 1 rfl) ?_
  obtain ⟨r_0, σ_1, hc, hF⟩ := kp_bd_s hF
  refine kp_ci h (kp_rV (k := 11) (As := [kp_iv a1]) (rest := []) C G h (kc_X3_has  hc) q3_44 q3_45 q3_46 q1_6 q3_47 ⟨rfl, hd_X3_has⟩ (by decide) kp_lK11 rfl rfl hl.1 rfl (Nat.le_of_ble_eq_true rfl) dX9_fits_8) (fun H locs h => ?_)
  refine kp_if_ne (tgt := 16) C dX9_fits_11 (by decide) hF (fun hF => ?_) (fun hF => ?_)
  · refine kp_aload_n C dX9_fits_16 rfl (lv_at hl 0 rfl) ?_
    obtain ⟨r_1, σ_2, hc, hF⟩ := kp_bd_s hF
    refine kp_cv h (kp_rV (k := 0) (As := []) (rest := []) C G h (kc_X9_settle  hc) q2_184 q2_186 q0_1_9 q1_1 q2_187 ⟨rfl, hd_X9_settle⟩ (by decide) kp_lK0 rfl rfl hl.1 rfl (Nat.le_of_ble_eq_true rfl) dX9_fits_17) (fun H locs h => ?_)
    refine kp_aload_n C dX9_fits_20 rfl (lv_at hl 0 rfl) ?_
    refine kp_iload_n C dX9_fits_21 rfl (lv_at hl 1 rfl) ?_
    obtain ⟨r_2, σ_3, hc, hF⟩ := kp_bd_s hF
    refine kp_ci h (kp_rV (k := 0) (As := [kp_iv a1]) (rest := []) C G h (kc_X9_fittingRows  hc) q3_122 q3_124 q0_2_3 q1_1 q3_125 ⟨rfl, hd_X9_fittingRows⟩ (by decide) kp_lK0 rfl rfl hl.1 rfl (Nat.le_of_ble_eq_true rfl) dX9_fits_22) (fun H locs h => ?_)
    exact kp_reti C hr hlk G h dX9_fits_25 hF
  · refine kp_iconst C dX9_fits_14 ?_
    exact kp_reti C hr hlk G h dX9_fits_15 hF
def kl_X9_greatestShared_7  : Nat → Int → Int → Int → (Int → kp_R) → kp_R
  | 0, _, _, _, _ => none
  | n + 1, x2_1, x3_1, x4_1, k => kp_ls x4_1 100 (kp_eq x3_1 0 (k x2_1) (kp_ck (0 ≤ x2_1 ∧ x2_1 ≤ 2147483647 ∧ 0 < x3_1 ∧ x3_1 ≤ 2147483647) (kp_lt ((x2_1 % x3_1) : Int) (fun x5_0 => kp_lt (x3_1 : Int) (fun x2_3 => kp_lt (x5_0 : Int) (fun x3_2 => kp_lt (x4_1 + 1) (fun x4_2 => kl_X9_greatestShared_7 n x2_3 x3_2 x4_2 k))))))) (k x2_1)
def kf_X9_greatestShared  (a1 : Int) (a2 : Int) (σ_0 : kp_W) : kp_R :=
  kp_lt (a1 : Int) (fun x2_0 => kp_lt (a2 : Int) (fun x3_0 => kp_lt (0 : Int) (fun x4_0 => kl_X9_greatestShared_7 kp_fu x2_0 x3_0 x4_0 (fun (x2_2 : Int) => some (x2_2, σ_0)))))
set_option maxRecDepth 100000 in
set_option maxHeartbeats 4000000 in
theorem kc_X9_greatestShared {l : Launch} {X : kp_X} {a1 : Int} {a2 : Int}  {σ_0 σ' : kp_W} {r : Int}   (hF : (kf_X9_greatestShared a1 a2 σ_0) = some (r, σ')) : kp_Met l yX9_greatestShared cX9_greatestShared 6 (some .int) 0 X kp_lK 55 σ_0 [kp_iv a1, kp_iv a2] (kp_Qi X kp_lK 55 σ' r) := by
  refine kp_body pnX9 (Nat.le_of_ble_eq_true rfl) ?_
  intro p e s m args below meth c ls C hr hlk G h hl
  unfold kf_X9_greatestShared at hF
  have hl : lv_has ls 6 [(0, kp_iv a1), (1, kp_iv a2)] := hl
  refine kp_iload_n C dX9_greatestShared_0 rfl (lv_at hl 0 rfl) ?_
  refine kp_istore_n (lv' := fun x2_0 => [(2, kp_iv x2_0), (0, kp_iv a1), (1, kp_iv a2)]) C dX9_greatestShared_1 rfl hl (by decide) (fun _ => rfl) hF (fun x2_0 ls hl hF => ?_)
  refine kp_iload_n C dX9_greatestShared_2 rfl (lv_at hl 2 rfl) ?_
  refine kp_istore_n (lv' := fun x3_0 => [(3, kp_iv x3_0), (2, kp_iv x2_0), (0, kp_iv a1), (1, kp_iv a2)]) C dX9_greatestShared_3 rfl hl (by decide) (fun _ => rfl) hF (fun x3_0 ls hl hF => ?_)
  refine kp_iconst C dX9_greatestShared_4 ?_
  refine kp_istore (lv' := fun x4_0 => [(4, kp_iv x4_0), (3, kp_iv x3_0), (2, kp_iv x2_0), (0, kp_iv a1), (1, kp_iv a2)]) C dX9_greatestShared_5 hl (by decide) (fun _ => rfl) hF (fun x4_0 ls hl hF => ?_)
  have L7 : ∀ (n : Nat) (x2_1 : Int) (x3_1 : Int) (x4_1 : Int) (k : Int → kp_R) (H : Heap) (locs : List Loc) (ls : Array Slot), kp_H X kp_lK 55 s σ_0 H locs → lv_has ls 6 [(2, kp_iv x2_1), (3, kp_iv x3_1), (4, kp_iv x4_1)] → (∀ (x2_2 : Int) (H : Heap) (locs : List Loc) (ls : Array Slot), kp_H X kp_lK 55 s σ_0 H locs → lv_has ls 6 [(2, kp_iv x2_2)] → k x2_2 = some (r, σ') → W p l e (kp_rm 0) s m args below meth c H locs 0 0 (MQ below (kp_Qi X kp_lK 55 σ' r) args s 0 0 (kp_A X 55)) (F0 m 34 ls [])) → kl_X9_greatestShared_7 n x2_1 x3_1 x4_1 k = some (r, σ') → W p l e (kp_rm 0) s m args below meth c H locs 0 0 (MQ below (kp_Qi X kp_lK 55 σ' r) args s 0 0 (kp_A X 55)) (F0 m 7 ls []) := by
    intro n
    induction n with
    | zero =>
      intro x2_1 x3_1 x4_1 k H locs ls h hl K hF
      rw [kl_X9_greatestShared_7] at hF
      cases hF
    | succ n ih =>
      intro x2_1 x3_1 x4_1 k H locs ls h hl K hF
      rw [kl_X9_greatestShared_7] at hF
      refine kp_iload C dX9_greatestShared_7 (lv_at hl 2 rfl) ?_
      refine kp_bipush C dX9_greatestShared_9 rfl ?_
      refine kp_icmp_ge (tgt := 34) C dX9_greatestShared_11 (by decide) hF (fun hF => ?_) (fun hF => ?_)
      · exact K _ _ _ _ h (lv_sub hl [0] rfl) hF
      · refine kp_iload_n C dX9_greatestShared_14 rfl (lv_at hl 1 rfl) ?_
        refine kp_if_eq (tgt := 34) C dX9_greatestShared_15 (by decide) hF (fun hF => ?_) (fun hF => ?_)
        · exact K _ _ _ _ h (lv_sub hl [0] rfl) hF
        · refine kp_iload_n C dX9_greatestShared_18 rfl (lv_at hl 0 rfl) ?_
          refine kp_iload_n C dX9_greatestShared_19 rfl (lv_at hl 1 rfl) ?_
          refine kp_irem C dX9_greatestShared_20 hF (fun hF => ?_)
          refine kp_istore (lv' := fun x5_0 => [(5, kp_iv x5_0), (2, kp_iv x2_1), (3, kp_iv x3_1), (4, kp_iv x4_1)]) C dX9_greatestShared_21 hl (by decide) (fun _ => rfl) hF (fun x5_0 ls hl hF => ?_)
          refine kp_iload_n C dX9_greatestShared_23 rfl (lv_at hl 2 rfl) ?_
          refine kp_istore_n (lv' := fun x2_3 => [(2, kp_iv x2_3), (5, kp_iv x5_0), (3, kp_iv x3_1), (4, kp_iv x4_1)]) C dX9_greatestShared_24 rfl hl (by decide) (fun _ => rfl) hF (fun x2_3 ls hl hF => ?_)
          refine kp_iload C dX9_greatestShared_25 (lv_at hl 1 rfl) ?_
          refine kp_istore_n (lv' := fun x3_2 => [(3, kp_iv x3_2), (2, kp_iv x2_3), (5, kp_iv x5_0), (4, kp_iv x4_1)]) C dX9_greatestShared_27 rfl hl (by decide) (fun _ => rfl) hF (fun x3_2 ls hl hF => ?_)
          refine kp_iinc (k := 3) (lv' := fun x4_2 => [(4, kp_iv x4_2), (3, kp_iv x3_2), (2, kp_iv x2_3), (5, kp_iv x5_0)]) C dX9_greatestShared_28 hl rfl (by decide) (fun _ => rfl) hF (fun x4_2 ls hl hF => ?_)
          refine kp_goto (tgt := 7) C dX9_greatestShared_31 (by decide) ?_
          exact ih _ _ _ k _ _ _ h (lv_sub hl [2, 1, 0] rfl) K hF
  refine L7 kp_fu _ _ _ _ _ _ _ h (lv_sub hl [2, 1, 0] rfl) (fun x2_2 H locs ls h hl hF => ?_) hF
  clear L7
  refine kp_iload_n C dX9_greatestShared_34 rfl (lv_at hl 0 rfl) ?_
  exact kp_reti C hr hlk G h dX9_greatestShared_35 hF
def kl_X9_odds_34  : Nat → Int → Int → kp_W → (Int → kp_W → kp_R) → kp_R
  | 0, _, _, _, _ => none
  | n + 1, x3_1, x4_1, σ_3, k => kp_ls x4_1 (σ_3 11 5) (kp_bd (kf_X9_fittingRows x4_1 σ_3) (fun r_4 σ_7 => kp_lt ((x3_1 + (kp_bc r_4)) : Int) (fun x3_3 => kp_lt (x4_1 + 1) (fun x4_3 => kl_X9_odds_34 n x3_3 x4_3 σ_7 k)))) (k x3_1 σ_3)
def kf_X9_odds  (a1 : Int) (a2 : Int) (σ_0 : kp_W) : kp_R :=
  kp_bd (kf_X3_has a1 σ_0) (fun r_0 σ_1 => kp_eq r_0 0 (some ((-1), σ_1)) (kp_ls a2 0 (some ((-1), σ_1)) (kp_ls 1 a2 (some ((-1), σ_1)) (kp_bd (kf_X9_settle σ_1) (fun r_1 σ_2 => kp_lt (0 : Int) (fun x3_0 => kp_lt (0 : Int) (fun x4_0 => kl_X9_odds_34 kp_fu x3_0 x4_0 σ_2 (fun (x3_2 : Int) (σ_4 : kp_W) => kp_eq x3_2 0 (some (a2, σ_4)) (kp_bd (kf_X9_fittingRows a1 σ_4) (fun r_2 σ_5 => kp_lt ((kp_bc r_2) : Int) (fun x4_2 => kp_bd (kf_X9_greatestShared x4_2 x3_2 σ_5) (fun r_3 σ_6 => kp_lt (r_3 : Int) (fun x5_0 => kp_ls x5_0 1 (some (a2, σ_6)) (kp_eq a2 0 (kp_ck (0 ≤ x4_2 ∧ x4_2 ≤ 2147483647 ∧ 0 < x5_0 ∧ x5_0 ≤ 2147483647) (some ((x4_2 / x5_0), σ_6))) (kp_ck (0 ≤ x3_2 ∧ x3_2 ≤ 2147483647 ∧ 0 < x5_0 ∧ x5_0 ≤ 2147483647) (some ((x3_2 / x5_0), σ_6)))))))))))))))))
set_option maxRecDepth 100000 in
set_option maxHeartbeats 4000000 in
theorem kc_X9_odds {l : Launch} {X : kp_X} {a1 : Int} {a2 : Int}  {σ_0 σ' : kp_W} {r : Int}   (hF : (kf_X9_odds a1 a2 σ_0) = some (r, σ')) : kp_Met l yX9_odds cX9_odds 6 (some .int) 6 X kp_lK 55 σ_0 [.ref (kp_ad X 0), kp_iv a1, kp_iv a2] (kp_Qi X kp_lK 55 σ' r) := by
  refine kp_body pnX9 (Nat.le_of_ble_eq_true rfl) ?_
  intro p e s m args below meth c ls C hr hlk G h hl
  unfold kf_X9_odds at hF
  have hl : lv_has ls 6 [(0, .ref (kp_ad X 0)), (1, kp_iv a1), (2, kp_iv a2)] := hl
  refine kp_aload_n C dX9_odds_0 rfl (lv_at hl 0 rfl) ?_
  refine kp_getr C G h kp_lK0 rfl inWX9 (j := 0) (by decide) q2_12 rfl dX9_odds_1 ?_
  refine kp_getr C G h kp_lK1 rfl inWX1 (j := 3) (by decide) q1_162 rfl dX9_odds_4 ?_
  refine kp_iload_n C dX9_odds_7 rfl (lv_at hl 1 rfl) ?_
  obtain ⟨r_0, σ_1, hc, hF⟩ := kp_bd_s hF
  refine kp_ci h (kp_rV (k := 11) (As := [kp_iv a1]) (rest := []) C G h (kc_X3_has  hc) q3_44 q3_45 q3_46 q1_6 q3_47 ⟨rfl, hd_X3_has⟩ (by decide) kp_lK11 rfl rfl hl.1 rfl (Nat.le_of_ble_eq_true rfl) dX9_odds_8) (fun H locs h => ?_)
  refine kp_if_eq (tgt := 23) C dX9_odds_11 (by decide) hF (fun hF => ?_) (fun hF => ?_)
  · refine kp_iconst C dX9_odds_23 ?_
    exact kp_reti C hr hlk G h dX9_odds_24 hF
  · refine kp_iload_n C dX9_odds_14 rfl (lv_at hl 2 rfl) ?_
    refine kp_if_lt (tgt := 23) C dX9_odds_15 (by decide) hF (fun hF => ?_) (fun hF => ?_)
    · refine kp_iconst C dX9_odds_23 ?_
      exact kp_reti C hr hlk G h dX9_odds_24 hF
    · refine kp_iload_n C dX9_odds_18 rfl (lv_at hl 2 rfl) ?_
      refine kp_iconst C dX9_odds_19 ?_
      refine kp_icmp_le (tgt := 25) C dX9_odds_20 (by decide) hF (fun hF => ?_) (fun hF => ?_)
      · refine kp_aload_n C dX9_odds_25 rfl (lv_at hl 0 rfl) ?_
        obtain ⟨r_1, σ_2, hc, hF⟩ := kp_bd_s hF
        refine kp_cv h (kp_rV (k := 0) (As := []) (rest := []) C G h (kc_X9_settle  hc) q2_184 q2_186 q0_1_9 q1_1 q2_187 ⟨rfl, hd_X9_settle⟩ (by decide) kp_lK0 rfl rfl hl.1 rfl (Nat.le_of_ble_eq_true rfl) dX9_odds_26) (fun H locs h => ?_)
        refine kp_iconst C dX9_odds_29 ?_
        refine kp_istore_n (lv' := fun x3_0 => [(3, kp_iv x3_0), (0, .ref (kp_ad X 0)), (1, kp_iv a1), (2, kp_iv a2)]) C dX9_odds_30 rfl hl (by decide) (fun _ => rfl) hF (fun x3_0 ls hl hF => ?_)
        refine kp_iconst C dX9_odds_31 ?_
        refine kp_istore (lv' := fun x4_0 => [(4, kp_iv x4_0), (3, kp_iv x3_0), (0, .ref (kp_ad X 0)), (1, kp_iv a1), (2, kp_iv a2)]) C dX9_odds_32 hl (by decide) (fun _ => rfl) hF (fun x4_0 ls hl hF => ?_)
        have L34 : ∀ (n : Nat) (x3_1 : Int) (x4_1 : Int) (σ_3 : kp_W) (k : Int → kp_W → kp_R) (H : Heap) (locs : List Loc) (ls : Array Slot), kp_H X kp_lK 55 s σ_3 H locs → lv_has ls 6 [(0, .ref (kp_ad X 0)), (1, kp_iv a1), (2, kp_iv a2), (3, kp_iv x3_1), (4, kp_iv x4_1)] → (∀ (x3_2 : Int) (σ_4 : kp_W) (H : Heap) (locs : List Loc) (ls : Array Slot), kp_H X kp_lK 55 s σ_4 H locs → lv_has ls 6 [(0, .ref (kp_ad X 0)), (1, kp_iv a1), (2, kp_iv a2), (3, kp_iv x3_2)] → k x3_2 σ_4 = some (r, σ') → W p l e (kp_rm 6) s m args below meth c H locs 0 0 (MQ below (kp_Qi X kp_lK 55 σ' r) args s 0 0 (kp_A X 55)) (F0 m 67 ls [])) → kl_X9_odds_34 n x3_1 x4_1 σ_3 k = some (r, σ') → W p l e (kp_rm 6) s m args below meth c H locs 0 0 (MQ below (kp_Qi X kp_lK 55 σ' r) args s 0 0 (kp_A X 55)) (F0 m 34 ls []) := by
          intro n
          induction n with
          | zero =>
            intro x3_1 x4_1 σ_3 k H locs ls h hl K hF
            rw [kl_X9_odds_34] at hF
            cases hF
          | succ n ih =>
            intro x3_1 x4_1 σ_3 k H locs ls h hl K hF
            rw [kl_X9_odds_34] at hF
            refine kp_iload C dX9_odds_34 (lv_at hl 4 rfl) ?_
            refine kp_aload_n C dX9_odds_36 rfl (lv_at hl 0 rfl) ?_
            refine kp_getr C G h kp_lK0 rfl inWX9 (j := 0) (by decide) q2_12 rfl dX9_odds_37 ?_
            refine kp_getr C G h kp_lK1 rfl inWX1 (j := 3) (by decide) q1_162 rfl dX9_odds_40 ?_
            refine kp_geti C G h kp_lK11 rfl inWX3 (j := 5) (by decide) q1_118 rfl dX9_odds_43 ?_
            refine kp_icmp_ge (tgt := 67) C dX9_odds_46 (by decide) hF (fun hF => ?_) (fun hF => ?_)
            · exact K _ _ _ _ _ h (lv_sub hl [0, 1, 2, 3] rfl) hF
            · refine kp_iload_n C dX9_odds_49 rfl (lv_at hl 3 rfl) ?_
              refine kp_aload_n C dX9_odds_50 rfl (lv_at hl 0 rfl) ?_
              refine kp_iload C dX9_odds_51 (lv_at hl 4 rfl) ?_
              obtain ⟨r_4, σ_7, hc, hF⟩ := kp_bd_s hF
              refine kp_ci h (kp_rV (k := 0) (As := [kp_iv x4_1]) (rest := [kp_iv x3_1]) C G h (kc_X9_fittingRows  hc) q3_122 q3_124 q0_2_3 q1_1 q3_125 ⟨rfl, hd_X9_fittingRows⟩ (by decide) kp_lK0 rfl rfl hl.1 rfl (Nat.le_of_ble_eq_true rfl) dX9_odds_53) (fun H locs h => ?_)
              refine kp_ci h (kp_rS (As := [kp_iv r_4]) (rest := [kp_iv x3_1]) C G h (kc_bitCount (x := r_4)) q3_130 q3_131 q1_19 q3_132 hd_J6_bitCount_0f7a4 (by decide) rfl hl.1 rfl (Nat.le_of_ble_eq_true rfl) dX9_odds_56) (fun H locs h => ?_)
              refine kp_iadd C dX9_odds_59 ?_
              refine kp_istore_n (lv' := fun x3_3 => [(3, kp_iv x3_3), (0, .ref (kp_ad X 0)), (1, kp_iv a1), (2, kp_iv a2), (4, kp_iv x4_1)]) C dX9_odds_60 rfl hl (by decide) (fun _ => rfl) hF (fun x3_3 ls hl hF => ?_)
              refine kp_iinc (k := 4) (lv' := fun x4_3 => [(4, kp_iv x4_3), (3, kp_iv x3_3), (0, .ref (kp_ad X 0)), (1, kp_iv a1), (2, kp_iv a2)]) C dX9_odds_61 hl rfl (by decide) (fun _ => rfl) hF (fun x4_3 ls hl hF => ?_)
              refine kp_goto (tgt := 34) C dX9_odds_64 (by decide) ?_
              exact ih _ _ _ k _ _ _ h (lv_sub hl [2, 3, 4, 1, 0] rfl) K hF
        refine L34 kp_fu _ _ _ _ _ _ _ h (lv_sub hl [2, 3, 4, 1, 0] rfl) (fun x3_2 σ_4 H locs ls h hl hF => ?_) hF
        clear L34
        refine kp_iload_n C dX9_odds_67 rfl (lv_at hl 3 rfl) ?_
        refine kp_if_ne (tgt := 73) C dX9_odds_68 (by decide) hF (fun hF => ?_) (fun hF => ?_)
        · refine kp_aload_n C dX9_odds_73 rfl (lv_at hl 0 rfl) ?_
          refine kp_iload_n C dX9_odds_74 rfl (lv_at hl 1 rfl) ?_
          obtain ⟨r_2, σ_5, hc, hF⟩ := kp_bd_s hF
          refine kp_ci h (kp_rV (k := 0) (As := [kp_iv a1]) (rest := []) C G h (kc_X9_fittingRows  hc) q3_122 q3_124 q0_2_3 q1_1 q3_125 ⟨rfl, hd_X9_fittingRows⟩ (by decide) kp_lK0 rfl rfl hl.1 rfl (Nat.le_of_ble_eq_true rfl) dX9_odds_75) (fun H locs h => ?_)
          refine kp_ci h (kp_rS (As := [kp_iv r_2]) (rest := []) C G h (kc_bitCount (x := r_2)) q3_130 q3_131 q1_19 q3_132 hd_J6_bitCount_0f7a4 (by decide) rfl hl.1 rfl (Nat.le_of_ble_eq_true rfl) dX9_odds_78) (fun H locs h => ?_)
          refine kp_istore (lv' := fun x4_2 => [(4, kp_iv x4_2), (0, .ref (kp_ad X 0)), (1, kp_iv a1), (2, kp_iv a2), (3, kp_iv x3_2)]) C dX9_odds_81 hl (by decide) (fun _ => rfl) hF (fun x4_2 ls hl hF => ?_)
          refine kp_iload C dX9_odds_83 (lv_at hl 0 rfl) ?_
          refine kp_iload_n C dX9_odds_85 rfl (lv_at hl 4 rfl) ?_
          obtain ⟨r_3, σ_6, hc, hF⟩ := kp_bd_s hF
          refine kp_ci h (kp_rS (As := [kp_iv x4_2, kp_iv x3_2]) (rest := []) C G h (kc_X9_greatestShared  hc) q3_136 q3_137 q1_1 q3_138 hd_X9_greatestShared (by decide) rfl hl.1 rfl (Nat.le_of_ble_eq_true rfl) dX9_odds_86) (fun H locs h => ?_)
          refine kp_istore (lv' := fun x5_0 => [(5, kp_iv x5_0), (4, kp_iv x4_2), (0, .ref (kp_ad X 0)), (1, kp_iv a1), (2, kp_iv a2), (3, kp_iv x3_2)]) C dX9_odds_89 hl (by decide) (fun _ => rfl) hF (fun x5_0 ls hl hF => ?_)
          refine kp_iload C dX9_odds_91 (lv_at hl 0 rfl) ?_
          refine kp_iconst C dX9_odds_93 ?_
          refine kp_icmp_ge (tgt := 99) C dX9_odds_94 (by decide) hF (fun hF => ?_) (fun hF => ?_)
          · refine kp_iload_n C dX9_odds_99 rfl (lv_at hl 4 rfl) ?_
            refine kp_if_ne (tgt := 108) C dX9_odds_100 (by decide) hF (fun hF => ?_) (fun hF => ?_)
            · refine kp_iload_n C dX9_odds_108 rfl (lv_at hl 5 rfl) ?_
              refine kp_iload C dX9_odds_109 (lv_at hl 0 rfl) ?_
              refine kp_idiv C dX9_odds_111 hF (fun hF => ?_)
              exact kp_reti C hr hlk G h dX9_odds_112 hF
            · refine kp_iload C dX9_odds_103 (lv_at hl 1 rfl) ?_
              refine kp_goto (tgt := 109) C dX9_odds_105 (by decide) ?_
              refine kp_iload C dX9_odds_109 (lv_at hl 0 rfl) ?_
              refine kp_idiv C dX9_odds_111 hF (fun hF => ?_)
              exact kp_reti C hr hlk G h dX9_odds_112 hF
          · refine kp_iload_n C dX9_odds_97 rfl (lv_at hl 4 rfl) ?_
            exact kp_reti C hr hlk G h dX9_odds_98 hF
        · refine kp_iload_n C dX9_odds_71 rfl (lv_at hl 2 rfl) ?_
          exact kp_reti C hr hlk G h dX9_odds_72 hF
      · refine kp_iconst C dX9_odds_23 ?_
        exact kp_reti C hr hlk G h dX9_odds_24 hF
def kl_X9_mostFitting_7  : Nat → Int → Int → Int → kp_W → (Int → kp_W → kp_R) → kp_R
  | 0, _, _, _, _, _ => none
  | n + 1, x1_1, x2_1, x3_1, σ_1, k => kp_ls x3_1 (σ_1 11 5) (kp_bd (kf_X9_fittingRows x3_1 σ_1) (fun r_0 σ_3 => kp_lt ((kp_bc r_0) : Int) (fun x4_0 => kp_ls x2_1 x4_0 (kp_lt (x4_0 : Int) (fun x2_2 => kp_lt (x3_1 : Int) (fun x1_3 => kp_lt (x3_1 + 1) (fun x3_3 => kl_X9_mostFitting_7 n x1_3 x2_2 x3_3 σ_3 k)))) (kp_lt (x3_1 + 1) (fun x3_2 => kl_X9_mostFitting_7 n x1_1 x2_1 x3_2 σ_3 k))))) (k x1_1 σ_1)
def kf_X9_mostFitting   (σ_0 : kp_W) : kp_R :=
  kp_lt ((-5) : Int) (fun x1_0 => kp_lt ((-1) : Int) (fun x2_0 => kp_lt (0 : Int) (fun x3_0 => kl_X9_mostFitting_7 kp_fu x1_0 x2_0 x3_0 σ_0 (fun (x1_2 : Int) (σ_2 : kp_W) => some (x1_2, σ_2)))))
set_option maxRecDepth 100000 in
set_option maxHeartbeats 4000000 in
theorem kc_X9_mostFitting {l : Launch} {X : kp_X}  {σ_0 σ' : kp_W} {r : Int}   (hF : (kf_X9_mostFitting σ_0) = some (r, σ')) : kp_Met l yX9_mostFitting cX9_mostFitting 5 (some .int) 5 X kp_lK 55 σ_0 [.ref (kp_ad X 0)] (kp_Qi X kp_lK 55 σ' r) := by
  refine kp_body pnX9 (Nat.le_of_ble_eq_true rfl) ?_
  intro p e s m args below meth c ls C hr hlk G h hl
  unfold kf_X9_mostFitting at hF
  have hl : lv_has ls 5 [(0, .ref (kp_ad X 0))] := hl
  refine kp_bipush C dX9_mostFitting_0 rfl ?_
  refine kp_istore_n (lv' := fun x1_0 => [(1, kp_iv x1_0), (0, .ref (kp_ad X 0))]) C dX9_mostFitting_2 rfl hl (by decide) (fun _ => rfl) hF (fun x1_0 ls hl hF => ?_)
  refine kp_iconst C dX9_mostFitting_3 ?_
  refine kp_istore_n (lv' := fun x2_0 => [(2, kp_iv x2_0), (1, kp_iv x1_0), (0, .ref (kp_ad X 0))]) C dX9_mostFitting_4 rfl hl (by decide) (fun _ => rfl) hF (fun x2_0 ls hl hF => ?_)
  refine kp_iconst C dX9_mostFitting_5 ?_
  refine kp_istore_n (lv' := fun x3_0 => [(3, kp_iv x3_0), (2, kp_iv x2_0), (1, kp_iv x1_0), (0, .ref (kp_ad X 0))]) C dX9_mostFitting_6 rfl hl (by decide) (fun _ => rfl) hF (fun x3_0 ls hl hF => ?_)
  have L7 : ∀ (n : Nat) (x1_1 : Int) (x2_1 : Int) (x3_1 : Int) (σ_1 : kp_W) (k : Int → kp_W → kp_R) (H : Heap) (locs : List Loc) (ls : Array Slot), kp_H X kp_lK 55 s σ_1 H locs → lv_has ls 5 [(0, .ref (kp_ad X 0)), (1, kp_iv x1_1), (2, kp_iv x2_1), (3, kp_iv x3_1)] → (∀ (x1_2 : Int) (σ_2 : kp_W) (H : Heap) (locs : List Loc) (ls : Array Slot), kp_H X kp_lK 55 s σ_2 H locs → lv_has ls 5 [(1, kp_iv x1_2)] → k x1_2 σ_2 = some (r, σ') → W p l e (kp_rm 5) s m args below meth c H locs 0 0 (MQ below (kp_Qi X kp_lK 55 σ' r) args s 0 0 (kp_A X 55)) (F0 m 48 ls [])) → kl_X9_mostFitting_7 n x1_1 x2_1 x3_1 σ_1 k = some (r, σ') → W p l e (kp_rm 5) s m args below meth c H locs 0 0 (MQ below (kp_Qi X kp_lK 55 σ' r) args s 0 0 (kp_A X 55)) (F0 m 7 ls []) := by
    intro n
    induction n with
    | zero =>
      intro x1_1 x2_1 x3_1 σ_1 k H locs ls h hl K hF
      rw [kl_X9_mostFitting_7] at hF
      cases hF
    | succ n ih =>
      intro x1_1 x2_1 x3_1 σ_1 k H locs ls h hl K hF
      rw [kl_X9_mostFitting_7] at hF
      refine kp_iload_n C dX9_mostFitting_7 rfl (lv_at hl 3 rfl) ?_
      refine kp_aload_n C dX9_mostFitting_8 rfl (lv_at hl 0 rfl) ?_
      refine kp_getr C G h kp_lK0 rfl inWX9 (j := 0) (by decide) q2_12 rfl dX9_mostFitting_9 ?_
      refine kp_getr C G h kp_lK1 rfl inWX1 (j := 3) (by decide) q1_162 rfl dX9_mostFitting_12 ?_
      refine kp_geti C G h kp_lK11 rfl inWX3 (j := 5) (by decide) q1_118 rfl dX9_mostFitting_15 ?_
      refine kp_icmp_ge (tgt := 48) C dX9_mostFitting_18 (by decide) hF (fun hF => ?_) (fun hF => ?_)
      · exact K _ _ _ _ _ h (lv_sub hl [1] rfl) hF
      · refine kp_aload_n C dX9_mostFitting_21 rfl (lv_at hl 0 rfl) ?_
        refine kp_iload_n C dX9_mostFitting_22 rfl (lv_at hl 3 rfl) ?_
        obtain ⟨r_0, σ_3, hc, hF⟩ := kp_bd_s hF
        refine kp_ci h (kp_rV (k := 0) (As := [kp_iv x3_1]) (rest := []) C G h (kc_X9_fittingRows  hc) q3_122 q3_124 q0_2_3 q1_1 q3_125 ⟨rfl, hd_X9_fittingRows⟩ (by decide) kp_lK0 rfl rfl hl.1 rfl (Nat.le_of_ble_eq_true rfl) dX9_mostFitting_23) (fun H locs h => ?_)
        refine kp_ci h (kp_rS (As := [kp_iv r_0]) (rest := []) C G h (kc_bitCount (x := r_0)) q3_130 q3_131 q1_19 q3_132 hd_J6_bitCount_0f7a4 (by decide) rfl hl.1 rfl (Nat.le_of_ble_eq_true rfl) dX9_mostFitting_26) (fun H locs h => ?_)
        refine kp_istore (lv' := fun x4_0 => [(4, kp_iv x4_0), (0, .ref (kp_ad X 0)), (1, kp_iv x1_1), (2, kp_iv x2_1), (3, kp_iv x3_1)]) C dX9_mostFitting_29 hl (by decide) (fun _ => rfl) hF (fun x4_0 ls hl hF => ?_)
        refine kp_iload C dX9_mostFitting_31 (lv_at hl 0 rfl) ?_
        refine kp_iload_n C dX9_mostFitting_33 rfl (lv_at hl 3 rfl) ?_
        refine kp_icmp_le (tgt := 42) C dX9_mostFitting_34 (by decide) hF (fun hF => ?_) (fun hF => ?_)
        · refine kp_iinc (k := 4) (lv' := fun x3_2 => [(3, kp_iv x3_2), (4, kp_iv x4_0), (0, .ref (kp_ad X 0)), (1, kp_iv x1_1), (2, kp_iv x2_1)]) C dX9_mostFitting_42 hl rfl (by decide) (fun _ => rfl) hF (fun x3_2 ls hl hF => ?_)
          refine kp_goto (tgt := 7) C dX9_mostFitting_45 (by decide) ?_
          exact ih _ _ _ _ k _ _ _ h (lv_sub hl [2, 3, 4, 0] rfl) K hF
        · refine kp_iload C dX9_mostFitting_37 (lv_at hl 0 rfl) ?_
          refine kp_istore_n (lv' := fun x2_2 => [(2, kp_iv x2_2), (4, kp_iv x4_0), (0, .ref (kp_ad X 0)), (1, kp_iv x1_1), (3, kp_iv x3_1)]) C dX9_mostFitting_39 rfl hl (by decide) (fun _ => rfl) hF (fun x2_2 ls hl hF => ?_)
          refine kp_iload_n C dX9_mostFitting_40 rfl (lv_at hl 4 rfl) ?_
          refine kp_istore_n (lv' := fun x1_3 => [(1, kp_iv x1_3), (2, kp_iv x2_2), (4, kp_iv x4_0), (0, .ref (kp_ad X 0)), (3, kp_iv x3_1)]) C dX9_mostFitting_41 rfl hl (by decide) (fun _ => rfl) hF (fun x1_3 ls hl hF => ?_)
          refine kp_iinc (k := 4) (lv' := fun x3_3 => [(3, kp_iv x3_3), (1, kp_iv x1_3), (2, kp_iv x2_2), (4, kp_iv x4_0), (0, .ref (kp_ad X 0))]) C dX9_mostFitting_42 hl rfl (by decide) (fun _ => rfl) hF (fun x3_3 ls hl hF => ?_)
          refine kp_goto (tgt := 7) C dX9_mostFitting_45 (by decide) ?_
          exact ih _ _ _ _ k _ _ _ h (lv_sub hl [4, 1, 2, 0] rfl) K hF
  refine L7 kp_fu _ _ _ _ _ _ _ _ h (lv_sub hl [3, 2, 1, 0] rfl) (fun x1_2 σ_2 H locs ls h hl hF => ?_) hF
  clear L7
  refine kp_iload_n C dX9_mostFitting_48 rfl (lv_at hl 0 rfl) ?_
  exact kp_reti C hr hlk G h dX9_mostFitting_49 hF
def kl_X9_shareOf_5 (a1 : Int) (a2 : Int) (σ_0 : kp_W) : Nat → Int → Int → (Int → kp_R) → kp_R
  | 0, _, _, _ => none
  | n + 1, x3_1, x4_1, k => kp_ls x4_1 (σ_0 11 5) (kp_ck (kp_in a2 ∧ 0 ≤ x4_1 ∧ x4_1 < 32) (kp_eq (kp_and (a2 / 2 ^ (Int.toNat x4_1)) 1) 0 (kp_lt (x4_1 + 1) (fun x4_2 => kl_X9_shareOf_5 a1 a2 σ_0 n x3_1 x4_2 k)) (kp_ck (0 ≤ ((a1 * 10) + x4_1) ∧ ((a1 * 10) + x4_1) < 120) (kp_lt ((x3_1 + (σ_0 43 (Int.toNat ((a1 * 10) + x4_1)))) : Int) (fun x3_3 => kp_lt (x4_1 + 1) (fun x4_3 => kl_X9_shareOf_5 a1 a2 σ_0 n x3_3 x4_3 k)))))) (k x3_1)
def kf_X9_shareOf  (a1 : Int) (a2 : Int) (σ_0 : kp_W) : kp_R :=
  kp_lt (0 : Int) (fun x3_0 => kp_lt (0 : Int) (fun x4_0 => kl_X9_shareOf_5 a1 a2 σ_0 kp_fu x3_0 x4_0 (fun (x3_2 : Int) => some (x3_2, σ_0))))
set_option maxRecDepth 100000 in
set_option maxHeartbeats 4000000 in
theorem kc_X9_shareOf {l : Launch} {X : kp_X} {a1 : Int} {a2 : Int}  {σ_0 σ' : kp_W} {r : Int}   (hF : (kf_X9_shareOf a1 a2 σ_0) = some (r, σ')) : kp_Met l yX9_shareOf cX9_shareOf 5 (some .int) 0 X kp_lK 55 σ_0 [.ref (kp_ad X 0), kp_iv a1, kp_iv a2] (kp_Qi X kp_lK 55 σ' r) := by
  refine kp_body pnX9 (Nat.le_of_ble_eq_true rfl) ?_
  intro p e s m args below meth c ls C hr hlk G h hl
  unfold kf_X9_shareOf at hF
  have hl : lv_has ls 5 [(0, .ref (kp_ad X 0)), (1, kp_iv a1), (2, kp_iv a2)] := hl
  refine kp_iconst C dX9_shareOf_0 ?_
  refine kp_istore_n (lv' := fun x3_0 => [(3, kp_iv x3_0), (0, .ref (kp_ad X 0)), (1, kp_iv a1), (2, kp_iv a2)]) C dX9_shareOf_1 rfl hl (by decide) (fun _ => rfl) hF (fun x3_0 ls hl hF => ?_)
  refine kp_iconst C dX9_shareOf_2 ?_
  refine kp_istore (lv' := fun x4_0 => [(4, kp_iv x4_0), (3, kp_iv x3_0), (0, .ref (kp_ad X 0)), (1, kp_iv a1), (2, kp_iv a2)]) C dX9_shareOf_3 hl (by decide) (fun _ => rfl) hF (fun x4_0 ls hl hF => ?_)
  have L5 : ∀ (n : Nat) (x3_1 : Int) (x4_1 : Int) (k : Int → kp_R) (H : Heap) (locs : List Loc) (ls : Array Slot), kp_H X kp_lK 55 s σ_0 H locs → lv_has ls 5 [(0, .ref (kp_ad X 0)), (1, kp_iv a1), (2, kp_iv a2), (3, kp_iv x3_1), (4, kp_iv x4_1)] → (∀ (x3_2 : Int) (H : Heap) (locs : List Loc) (ls : Array Slot), kp_H X kp_lK 55 s σ_0 H locs → lv_has ls 5 [(3, kp_iv x3_2)] → k x3_2 = some (r, σ') → W p l e (kp_rm 0) s m args below meth c H locs 0 0 (MQ below (kp_Qi X kp_lK 55 σ' r) args s 0 0 (kp_A X 55)) (F0 m 50 ls [])) → kl_X9_shareOf_5 a1 a2 σ_0 n x3_1 x4_1 k = some (r, σ') → W p l e (kp_rm 0) s m args below meth c H locs 0 0 (MQ below (kp_Qi X kp_lK 55 σ' r) args s 0 0 (kp_A X 55)) (F0 m 5 ls []) := by
    intro n
    induction n with
    | zero =>
      intro x3_1 x4_1 k H locs ls h hl K hF
      rw [kl_X9_shareOf_5] at hF
      cases hF
    | succ n ih =>
      intro x3_1 x4_1 k H locs ls h hl K hF
      rw [kl_X9_shareOf_5] at hF
      refine kp_iload C dX9_shareOf_5 (lv_at hl 4 rfl) ?_
      refine kp_aload_n C dX9_shareOf_7 rfl (lv_at hl 0 rfl) ?_
      refine kp_getr C G h kp_lK0 rfl inWX9 (j := 0) (by decide) q2_12 rfl dX9_shareOf_8 ?_
      refine kp_getr C G h kp_lK1 rfl inWX1 (j := 3) (by decide) q1_162 rfl dX9_shareOf_11 ?_
      refine kp_geti C G h kp_lK11 rfl inWX3 (j := 5) (by decide) q1_118 rfl dX9_shareOf_14 ?_
      refine kp_icmp_ge (tgt := 50) C dX9_shareOf_17 (by decide) hF (fun hF => ?_) (fun hF => ?_)
      · exact K _ _ _ _ h (lv_sub hl [3] rfl) hF
      · refine kp_iload_n C dX9_shareOf_20 rfl (lv_at hl 2 rfl) ?_
        refine kp_iload C dX9_shareOf_21 (lv_at hl 4 rfl) ?_
        refine kp_xishr C dX9_shareOf_23 hF (fun hF => ?_)
        refine kp_iconst C dX9_shareOf_24 ?_
        refine kp_xiand C dX9_shareOf_25 ?_
        refine kp_if_eq (tgt := 44) C dX9_shareOf_26 (by decide) hF (fun hF => ?_) (fun hF => ?_)
        · refine kp_iinc (k := 4) (lv' := fun x4_2 => [(4, kp_iv x4_2), (0, .ref (kp_ad X 0)), (1, kp_iv a1), (2, kp_iv a2), (3, kp_iv x3_1)]) C dX9_shareOf_44 hl rfl (by decide) (fun _ => rfl) hF (fun x4_2 ls hl hF => ?_)
          refine kp_goto (tgt := 5) C dX9_shareOf_47 (by decide) ?_
          exact ih _ _ k _ _ _ h (lv_sub hl [1, 2, 3, 4, 0] rfl) K hF
        · refine kp_iload_n C dX9_shareOf_29 rfl (lv_at hl 3 rfl) ?_
          refine kp_aload_n C dX9_shareOf_30 rfl (lv_at hl 0 rfl) ?_
          refine kp_getr C G h kp_lK0 rfl inWX9 (j := 7) (by decide) q2_19 rfl dX9_shareOf_31 ?_
          refine kp_iload_n C dX9_shareOf_34 rfl (lv_at hl 1 rfl) ?_
          refine kp_bipush C dX9_shareOf_35 rfl ?_
          refine kp_imul C dX9_shareOf_37 ?_
          refine kp_iload C dX9_shareOf_38 (lv_at hl 4 rfl) ?_
          refine kp_iadd C dX9_shareOf_40 ?_
          refine kp_iald C G h (n := 120) kp_lK43 (by decide) dX9_shareOf_41 hF (fun hF => ?_)
          refine kp_iadd C dX9_shareOf_42 ?_
          refine kp_istore_n (lv' := fun x3_3 => [(3, kp_iv x3_3), (0, .ref (kp_ad X 0)), (1, kp_iv a1), (2, kp_iv a2), (4, kp_iv x4_1)]) C dX9_shareOf_43 rfl hl (by decide) (fun _ => rfl) hF (fun x3_3 ls hl hF => ?_)
          refine kp_iinc (k := 4) (lv' := fun x4_3 => [(4, kp_iv x4_3), (3, kp_iv x3_3), (0, .ref (kp_ad X 0)), (1, kp_iv a1), (2, kp_iv a2)]) C dX9_shareOf_44 hl rfl (by decide) (fun _ => rfl) hF (fun x4_3 ls hl hF => ?_)
          refine kp_goto (tgt := 5) C dX9_shareOf_47 (by decide) ?_
          exact ih _ _ k _ _ _ h (lv_sub hl [2, 3, 4, 1, 0] rfl) K hF
  refine L5 kp_fu _ _ _ _ _ _ h (lv_sub hl [2, 3, 4, 1, 0] rfl) (fun x3_2 H locs ls h hl hF => ?_) hF
  clear L5
  refine kp_iload_n C dX9_shareOf_50 rfl (lv_at hl 0 rfl) ?_
  exact kp_reti C hr hlk G h dX9_shareOf_51 hF
def kl_X9_fitsAllRows_2 (a1 : Int) : Nat → Int → kp_W → (kp_W → kp_R) → kp_R
  | 0, _, _, _ => none
  | n + 1, x2_1, σ_1, k => kp_ls x2_1 (σ_1 16 3) (kp_bd (kf_X9_shareOf x2_1 a1 σ_1) (fun r_0 σ_3 => kp_ck (0 ≤ x2_1 ∧ x2_1 < 12) (kp_eq r_0 (σ_3 19 (Int.toNat x2_1)) (kp_lt (x2_1 + 1) (fun x2_2 => kl_X9_fitsAllRows_2 a1 n x2_2 σ_3 k)) (some (0, σ_3))))) (k σ_1)
def kf_X9_fitsAllRows  (a1 : Int) (σ_0 : kp_W) : kp_R :=
  kp_lt (0 : Int) (fun x2_0 => kl_X9_fitsAllRows_2 a1 kp_fu x2_0 σ_0 (fun (σ_2 : kp_W) => some (1, σ_2)))
set_option maxRecDepth 100000 in
set_option maxHeartbeats 4000000 in
theorem kc_X9_fitsAllRows {l : Launch} {X : kp_X} {a1 : Int}  {σ_0 σ' : kp_W} {r : Int}   (hF : (kf_X9_fitsAllRows a1 σ_0) = some (r, σ')) : kp_Met l yX9_fitsAllRows cX9_fitsAllRows 3 (some .boolean) 1 X kp_lK 55 σ_0 [.ref (kp_ad X 0), kp_iv a1] (kp_Qi X kp_lK 55 σ' r) := by
  refine kp_body pnX9 (Nat.le_of_ble_eq_true rfl) ?_
  intro p e s m args below meth c ls C hr hlk G h hl
  unfold kf_X9_fitsAllRows at hF
  have hl : lv_has ls 3 [(0, .ref (kp_ad X 0)), (1, kp_iv a1)] := hl
  refine kp_iconst C dX9_fitsAllRows_0 ?_
  refine kp_istore_n (lv' := fun x2_0 => [(2, kp_iv x2_0), (0, .ref (kp_ad X 0)), (1, kp_iv a1)]) C dX9_fitsAllRows_1 rfl hl (by decide) (fun _ => rfl) hF (fun x2_0 ls hl hF => ?_)
  have L2 : ∀ (n : Nat) (x2_1 : Int) (σ_1 : kp_W) (k : kp_W → kp_R) (H : Heap) (locs : List Loc) (ls : Array Slot), kp_H X kp_lK 55 s σ_1 H locs → lv_has ls 3 [(0, .ref (kp_ad X 0)), (1, kp_iv a1), (2, kp_iv x2_1)] → (∀ (σ_2 : kp_W) (H : Heap) (locs : List Loc) (ls : Array Slot), kp_H X kp_lK 55 s σ_2 H locs → lv_has ls 3 [] → k σ_2 = some (r, σ') → W p l e (kp_rm 1) s m args below meth c H locs 0 0 (MQ below (kp_Qi X kp_lK 55 σ' r) args s 0 0 (kp_A X 55)) (F0 m 45 ls [])) → kl_X9_fitsAllRows_2 a1 n x2_1 σ_1 k = some (r, σ') → W p l e (kp_rm 1) s m args below meth c H locs 0 0 (MQ below (kp_Qi X kp_lK 55 σ' r) args s 0 0 (kp_A X 55)) (F0 m 2 ls []) := by
    intro n
    induction n with
    | zero =>
      intro x2_1 σ_1 k H locs ls h hl K hF
      rw [kl_X9_fitsAllRows_2] at hF
      cases hF
    | succ n ih =>
      intro x2_1 σ_1 k H locs ls h hl K hF
      rw [kl_X9_fitsAllRows_2] at hF
      refine kp_iload_n C dX9_fitsAllRows_2 rfl (lv_at hl 2 rfl) ?_
      refine kp_aload_n C dX9_fitsAllRows_3 rfl (lv_at hl 0 rfl) ?_
      refine kp_getr C G h kp_lK0 rfl inWX9 (j := 0) (by decide) q2_12 rfl dX9_fitsAllRows_4 ?_
      refine kp_getr C G h kp_lK1 rfl inWX1 (j := 4) (by decide) q1_164 rfl dX9_fitsAllRows_7 ?_
      refine kp_geti C G h kp_lK16 rfl inWX4 (j := 3) (by decide) q1_145 rfl dX9_fitsAllRows_10 ?_
      refine kp_icmp_ge (tgt := 45) C dX9_fitsAllRows_13 (by decide) hF (fun hF => ?_) (fun hF => ?_)
      · exact K _ _ _ _ h (lv_sub hl [] rfl) hF
      · refine kp_aload_n C dX9_fitsAllRows_16 rfl (lv_at hl 0 rfl) ?_
        refine kp_iload_n C dX9_fitsAllRows_17 rfl (lv_at hl 2 rfl) ?_
        refine kp_iload_n C dX9_fitsAllRows_18 rfl (lv_at hl 1 rfl) ?_
        obtain ⟨r_0, σ_3, hc, hF⟩ := kp_bd_s hF
        refine kp_ci h (kp_rV (k := 0) (As := [kp_iv x2_1, kp_iv a1]) (rest := []) C G h (kc_X9_shareOf  hc) q3_155 q3_157 q0_2_7 q1_1 q3_158 ⟨rfl, hd_X9_shareOf⟩ (by decide) kp_lK0 rfl rfl hl.1 rfl (Nat.le_of_ble_eq_true rfl) dX9_fitsAllRows_19) (fun H locs h => ?_)
        refine kp_aload_n C dX9_fitsAllRows_22 rfl (lv_at hl 0 rfl) ?_
        refine kp_getr C G h kp_lK0 rfl inWX9 (j := 0) (by decide) q2_12 rfl dX9_fitsAllRows_23 ?_
        refine kp_getr C G h kp_lK1 rfl inWX1 (j := 4) (by decide) q1_164 rfl dX9_fitsAllRows_26 ?_
        refine kp_getr C G h kp_lK16 rfl inWX4 (j := 2) (by decide) q1_143 rfl dX9_fitsAllRows_29 ?_
        refine kp_iload_n C dX9_fitsAllRows_32 rfl (lv_at hl 2 rfl) ?_
        refine kp_iald C G h (n := 12) kp_lK19 (by decide) dX9_fitsAllRows_33 hF (fun hF => ?_)
        refine kp_icmp_eq (tgt := 39) C dX9_fitsAllRows_34 (by decide) hF (fun hF => ?_) (fun hF => ?_)
        · refine kp_iinc (k := 2) (lv' := fun x2_2 => [(2, kp_iv x2_2), (0, .ref (kp_ad X 0)), (1, kp_iv a1)]) C dX9_fitsAllRows_39 hl rfl (by decide) (fun _ => rfl) hF (fun x2_2 ls hl hF => ?_)
          refine kp_goto (tgt := 2) C dX9_fitsAllRows_42 (by decide) ?_
          exact ih _ _ k _ _ _ h (lv_sub hl [1, 2, 0] rfl) K hF
        · refine kp_iconst C dX9_fitsAllRows_37 ?_
          exact kp_retz C hr hlk G h dX9_fitsAllRows_38 (kp_ck_i (by decide) hF)
  refine L2 kp_fu _ _ _ _ _ _ h (lv_sub hl [1, 2, 0] rfl) (fun σ_2 H locs ls h hl hF => ?_) hF
  clear L2
  refine kp_iconst C dX9_fitsAllRows_45 ?_
  exact kp_retz C hr hlk G h dX9_fitsAllRows_46 (kp_ck_i (by decide) hF)
def kl_X9_allFitting_92  : Nat → Int → Int → Int → kp_W → (Int → kp_W → kp_R) → kp_R
  | 0, _, _, _, _, _ => none
  | n + 1, x1_3, x2_1, x3_1, σ_3, k => kp_ck (0 ≤ (σ_3 11 5) ∧ (σ_3 11 5) < 32) (kp_ls x3_1 (1 * 2 ^ (Int.toNat (σ_3 11 5))) (kp_ls (kp_bc x3_1) x2_1 (kp_bd (kf_X9_fitsAllRows x3_1 σ_3) (fun r_0 σ_5 => kp_eq r_0 0 (kp_lt (x3_1 + 1) (fun x3_3 => kl_X9_allFitting_92 n x1_3 x2_1 x3_3 σ_5 k)) (kp_lt ((kp_bc x3_1) : Int) (fun x2_2 => kp_lt (x3_1 : Int) (fun x1_5 => kp_lt (x3_1 + 1) (fun x3_4 => kl_X9_allFitting_92 n x1_5 x2_2 x3_4 σ_5 k)))))) (kp_lt (x3_1 + 1) (fun x3_2 => kl_X9_allFitting_92 n x1_3 x2_1 x3_2 σ_3 k))) (k x1_3 σ_3))
def kl_X9_allFitting_18 (x1_1 : Int) : Nat → Int → kp_W → (kp_W → kp_R) → kp_R
  | 0, _, _, _ => none
  | n + 1, x2_4, σ_6, k => kp_ls x2_4 (σ_6 11 5) (kp_ck (0 ≤ x1_1 ∧ x1_1 < 12) (kp_ck (0 ≤ x1_1 ∧ x1_1 < 12) (kp_bd (kf_X9_heardAlone x2_4 (σ_6 17 (Int.toNat x1_1)) (σ_6 18 (Int.toNat x1_1)) σ_6) (fun r_1 σ_8 => kp_ck (0 ≤ ((x1_1 * 10) + x2_4) ∧ ((x1_1 * 10) + x2_4) < 120) (kp_lt (kp_up σ_8 43 (Int.toNat ((x1_1 * 10) + x2_4)) r_1) (fun σ_9 => kp_lt (x2_4 + 1) (fun x2_5 => kl_X9_allFitting_18 x1_1 n x2_5 σ_9 k))))))) (k σ_6)
def kl_X9_allFitting_2  : Nat → Int → kp_W → (kp_W → kp_R) → kp_R
  | 0, _, _, _ => none
  | n + 1, x1_1, σ_1, k => kp_ls x1_1 (σ_1 16 3) (kp_lt (0 : Int) (fun x2_3 => kl_X9_allFitting_18 x1_1 kp_fu x2_3 σ_1 (fun (σ_7 : kp_W) => kp_lt (x1_1 + 1) (fun x1_6 => kl_X9_allFitting_2 n x1_6 σ_7 k)))) (k σ_1)
def kf_X9_allFitting   (σ_0 : kp_W) : kp_R :=
  kp_lt (0 : Int) (fun x1_0 => kl_X9_allFitting_2 kp_fu x1_0 σ_0 (fun (σ_2 : kp_W) => kp_lt ((-5) : Int) (fun x1_2 => kp_lt (11 : Int) (fun x2_0 => kp_lt (0 : Int) (fun x3_0 => kl_X9_allFitting_92 kp_fu x1_2 x2_0 x3_0 σ_2 (fun (x1_4 : Int) (σ_4 : kp_W) => some (x1_4, σ_4)))))))
set_option maxRecDepth 100000 in
set_option maxHeartbeats 4000000 in
theorem kc_X9_allFitting {l : Launch} {X : kp_X}  {σ_0 σ' : kp_W} {r : Int}   (hF : (kf_X9_allFitting σ_0) = some (r, σ')) : kp_Met l yX9_allFitting cX9_allFitting 4 (some .int) 4 X kp_lK 55 σ_0 [.ref (kp_ad X 0)] (kp_Qi X kp_lK 55 σ' r) := by
  refine kp_body pnX9 (Nat.le_of_ble_eq_true rfl) ?_
  intro p e s m args below meth c ls C hr hlk G h hl
  unfold kf_X9_allFitting at hF
  have hl : lv_has ls 4 [(0, .ref (kp_ad X 0))] := hl
  refine kp_iconst C dX9_allFitting_0 ?_
  refine kp_istore_n (lv' := fun x1_0 => [(1, kp_iv x1_0), (0, .ref (kp_ad X 0))]) C dX9_allFitting_1 rfl hl (by decide) (fun _ => rfl) hF (fun x1_0 ls hl hF => ?_)
  have L2 : ∀ (n : Nat) (x1_1 : Int) (σ_1 : kp_W) (k : kp_W → kp_R) (H : Heap) (locs : List Loc) (ls : Array Slot), kp_H X kp_lK 55 s σ_1 H locs → lv_has ls 4 [(0, .ref (kp_ad X 0)), (1, kp_iv x1_1)] → (∀ (σ_2 : kp_W) (H : Heap) (locs : List Loc) (ls : Array Slot), kp_H X kp_lK 55 s σ_2 H locs → lv_has ls 4 [(0, .ref (kp_ad X 0))] → k σ_2 = some (r, σ') → W p l e (kp_rm 4) s m args below meth c H locs 0 0 (MQ below (kp_Qi X kp_lK 55 σ' r) args s 0 0 (kp_A X 55)) (F0 m 84 ls [])) → kl_X9_allFitting_2 n x1_1 σ_1 k = some (r, σ') → W p l e (kp_rm 4) s m args below meth c H locs 0 0 (MQ below (kp_Qi X kp_lK 55 σ' r) args s 0 0 (kp_A X 55)) (F0 m 2 ls []) := by
    intro n
    induction n with
    | zero =>
      intro x1_1 σ_1 k H locs ls h hl K hF
      rw [kl_X9_allFitting_2] at hF
      cases hF
    | succ n ih =>
      intro x1_1 σ_1 k H locs ls h hl K hF
      rw [kl_X9_allFitting_2] at hF
      refine kp_iload_n C dX9_allFitting_2 rfl (lv_at hl 1 rfl) ?_
      refine kp_aload_n C dX9_allFitting_3 rfl (lv_at hl 0 rfl) ?_
      refine kp_getr C G h kp_lK0 rfl inWX9 (j := 0) (by decide) q2_12 rfl dX9_allFitting_4 ?_
      refine kp_getr C G h kp_lK1 rfl inWX1 (j := 4) (by decide) q1_164 rfl dX9_allFitting_7 ?_
      refine kp_geti C G h kp_lK16 rfl inWX4 (j := 3) (by decide) q1_145 rfl dX9_allFitting_10 ?_
      refine kp_icmp_ge (tgt := 84) C dX9_allFitting_13 (by decide) hF (fun hF => ?_) (fun hF => ?_)
      · exact K _ _ _ _ h (lv_sub hl [0] rfl) hF
      · refine kp_iconst C dX9_allFitting_16 ?_
        refine kp_istore_n (lv' := fun x2_3 => [(2, kp_iv x2_3), (0, .ref (kp_ad X 0)), (1, kp_iv x1_1)]) C dX9_allFitting_17 rfl hl (by decide) (fun _ => rfl) hF (fun x2_3 ls hl hF => ?_)
        have L18 : ∀ (n : Nat) (x2_4 : Int) (σ_6 : kp_W) (k : kp_W → kp_R) (H : Heap) (locs : List Loc) (ls : Array Slot), kp_H X kp_lK 55 s σ_6 H locs → lv_has ls 4 [(0, .ref (kp_ad X 0)), (1, kp_iv x1_1), (2, kp_iv x2_4)] → (∀ (σ_7 : kp_W) (H : Heap) (locs : List Loc) (ls : Array Slot), kp_H X kp_lK 55 s σ_7 H locs → lv_has ls 4 [(0, .ref (kp_ad X 0)), (1, kp_iv x1_1)] → k σ_7 = some (r, σ') → W p l e (kp_rm 4) s m args below meth c H locs 0 0 (MQ below (kp_Qi X kp_lK 55 σ' r) args s 0 0 (kp_A X 55)) (F0 m 78 ls [])) → kl_X9_allFitting_18 x1_1 n x2_4 σ_6 k = some (r, σ') → W p l e (kp_rm 4) s m args below meth c H locs 0 0 (MQ below (kp_Qi X kp_lK 55 σ' r) args s 0 0 (kp_A X 55)) (F0 m 18 ls []) := by
          intro n
          induction n with
          | zero =>
            intro x2_4 σ_6 k H locs ls h hl K hF
            rw [kl_X9_allFitting_18] at hF
            cases hF
          | succ n ih =>
            intro x2_4 σ_6 k H locs ls h hl K hF
            rw [kl_X9_allFitting_18] at hF
            refine kp_iload_n C dX9_allFitting_18 rfl (lv_at hl 2 rfl) ?_
            refine kp_aload_n C dX9_allFitting_19 rfl (lv_at hl 0 rfl) ?_
            refine kp_getr C G h kp_lK0 rfl inWX9 (j := 0) (by decide) q2_12 rfl dX9_allFitting_20 ?_
            refine kp_getr C G h kp_lK1 rfl inWX1 (j := 3) (by decide) q1_162 rfl dX9_allFitting_23 ?_
            refine kp_geti C G h kp_lK11 rfl inWX3 (j := 5) (by decide) q1_118 rfl dX9_allFitting_26 ?_
            refine kp_icmp_ge (tgt := 78) C dX9_allFitting_29 (by decide) hF (fun hF => ?_) (fun hF => ?_)
            · exact K _ _ _ _ h (lv_sub hl [0, 1] rfl) hF
            · refine kp_aload_n C dX9_allFitting_32 rfl (lv_at hl 0 rfl) ?_
              refine kp_getr C G h kp_lK0 rfl inWX9 (j := 7) (by decide) q2_19 rfl dX9_allFitting_33 ?_
              refine kp_iload_n C dX9_allFitting_36 rfl (lv_at hl 1 rfl) ?_
              refine kp_bipush C dX9_allFitting_37 rfl ?_
              refine kp_imul C dX9_allFitting_39 ?_
              refine kp_iload_n C dX9_allFitting_40 rfl (lv_at hl 2 rfl) ?_
              refine kp_iadd C dX9_allFitting_41 ?_
              refine kp_aload_n C dX9_allFitting_42 rfl (lv_at hl 0 rfl) ?_
              refine kp_iload_n C dX9_allFitting_43 rfl (lv_at hl 2 rfl) ?_
              refine kp_aload_n C dX9_allFitting_44 rfl (lv_at hl 0 rfl) ?_
              refine kp_getr C G h kp_lK0 rfl inWX9 (j := 0) (by decide) q2_12 rfl dX9_allFitting_45 ?_
              refine kp_getr C G h kp_lK1 rfl inWX1 (j := 4) (by decide) q1_164 rfl dX9_allFitting_48 ?_
              refine kp_getr C G h kp_lK16 rfl inWX4 (j := 0) (by decide) q1_139 rfl dX9_allFitting_51 ?_
              refine kp_iload_n C dX9_allFitting_54 rfl (lv_at hl 1 rfl) ?_
              refine kp_iald C G h (n := 12) kp_lK17 (by decide) dX9_allFitting_55 hF (fun hF => ?_)
              refine kp_aload_n C dX9_allFitting_56 rfl (lv_at hl 0 rfl) ?_
              refine kp_getr C G h kp_lK0 rfl inWX9 (j := 0) (by decide) q2_12 rfl dX9_allFitting_57 ?_
              refine kp_getr C G h kp_lK1 rfl inWX1 (j := 4) (by decide) q1_164 rfl dX9_allFitting_60 ?_
              refine kp_getr C G h kp_lK16 rfl inWX4 (j := 1) (by decide) q1_141 rfl dX9_allFitting_63 ?_
              refine kp_iload_n C dX9_allFitting_66 rfl (lv_at hl 1 rfl) ?_
              refine kp_iald C G h (n := 12) kp_lK18 (by decide) dX9_allFitting_67 hF (fun hF => ?_)
              obtain ⟨r_1, σ_8, hc, hF⟩ := kp_bd_s hF
              refine kp_ci h (kp_rV (k := 0) (As := [kp_iv x2_4, kp_iv (σ_6 17 (Int.toNat x1_1)), kp_iv (σ_6 18 (Int.toNat x1_1))]) (rest := [kp_iv ((x1_1 * 10) + x2_4), .ref (kp_ad X 43)]) C G h (kc_X9_heardAlone  hc) q3_94 q3_96 q0_2_1 q1_1 q3_97 ⟨rfl, hd_X9_heardAlone⟩ (by decide) kp_lK0 rfl rfl hl.1 rfl (Nat.le_of_ble_eq_true rfl) dX9_allFitting_68) (fun H locs h => ?_)
              refine kp_iast C G h (n := 120) kp_lK43 (by decide) dX9_allFitting_71 hF (fun σ_9 H locs h hF => ?_)
              refine kp_iinc (k := 2) (lv' := fun x2_5 => [(2, kp_iv x2_5), (0, .ref (kp_ad X 0)), (1, kp_iv x1_1)]) C dX9_allFitting_72 hl rfl (by decide) (fun _ => rfl) hF (fun x2_5 ls hl hF => ?_)
              refine kp_goto (tgt := 18) C dX9_allFitting_75 (by decide) ?_
              exact ih _ _ k _ _ _ h (lv_sub hl [1, 2, 0] rfl) K hF
        refine L18 kp_fu _ _ _ _ _ _ h (lv_sub hl [1, 2, 0] rfl) (fun σ_7 H locs ls h hl hF => ?_) hF
        clear L18
        refine kp_iinc (k := 1) (lv' := fun x1_6 => [(1, kp_iv x1_6), (0, .ref (kp_ad X 0))]) C dX9_allFitting_78 hl rfl (by decide) (fun _ => rfl) hF (fun x1_6 ls hl hF => ?_)
        refine kp_goto (tgt := 2) C dX9_allFitting_81 (by decide) ?_
        exact ih _ _ k _ _ _ h (lv_sub hl [1, 0] rfl) K hF
  refine L2 kp_fu _ _ _ _ _ _ h (lv_sub hl [1, 0] rfl) (fun σ_2 H locs ls h hl hF => ?_) hF
  clear L2
  refine kp_bipush C dX9_allFitting_84 rfl ?_
  refine kp_istore_n (lv' := fun x1_2 => [(1, kp_iv x1_2), (0, .ref (kp_ad X 0))]) C dX9_allFitting_86 rfl hl (by decide) (fun _ => rfl) hF (fun x1_2 ls hl hF => ?_)
  refine kp_bipush C dX9_allFitting_87 rfl ?_
  refine kp_istore_n (lv' := fun x2_0 => [(2, kp_iv x2_0), (1, kp_iv x1_2), (0, .ref (kp_ad X 0))]) C dX9_allFitting_89 rfl hl (by decide) (fun _ => rfl) hF (fun x2_0 ls hl hF => ?_)
  refine kp_iconst C dX9_allFitting_90 ?_
  refine kp_istore_n (lv' := fun x3_0 => [(3, kp_iv x3_0), (2, kp_iv x2_0), (1, kp_iv x1_2), (0, .ref (kp_ad X 0))]) C dX9_allFitting_91 rfl hl (by decide) (fun _ => rfl) hF (fun x3_0 ls hl hF => ?_)
  have L92 : ∀ (n : Nat) (x1_3 : Int) (x2_1 : Int) (x3_1 : Int) (σ_3 : kp_W) (k : Int → kp_W → kp_R) (H : Heap) (locs : List Loc) (ls : Array Slot), kp_H X kp_lK 55 s σ_3 H locs → lv_has ls 4 [(0, .ref (kp_ad X 0)), (1, kp_iv x1_3), (2, kp_iv x2_1), (3, kp_iv x3_1)] → (∀ (x1_4 : Int) (σ_4 : kp_W) (H : Heap) (locs : List Loc) (ls : Array Slot), kp_H X kp_lK 55 s σ_4 H locs → lv_has ls 4 [(1, kp_iv x1_4)] → k x1_4 σ_4 = some (r, σ') → W p l e (kp_rm 4) s m args below meth c H locs 0 0 (MQ below (kp_Qi X kp_lK 55 σ' r) args s 0 0 (kp_A X 55)) (F0 m 137 ls [])) → kl_X9_allFitting_92 n x1_3 x2_1 x3_1 σ_3 k = some (r, σ') → W p l e (kp_rm 4) s m args below meth c H locs 0 0 (MQ below (kp_Qi X kp_lK 55 σ' r) args s 0 0 (kp_A X 55)) (F0 m 92 ls []) := by
    intro n
    induction n with
    | zero =>
      intro x1_3 x2_1 x3_1 σ_3 k H locs ls h hl K hF
      rw [kl_X9_allFitting_92] at hF
      cases hF
    | succ n ih =>
      intro x1_3 x2_1 x3_1 σ_3 k H locs ls h hl K hF
      rw [kl_X9_allFitting_92] at hF
      refine kp_iload_n C dX9_allFitting_92 rfl (lv_at hl 3 rfl) ?_
      refine kp_iconst C dX9_allFitting_93 ?_
      refine kp_aload_n C dX9_allFitting_94 rfl (lv_at hl 0 rfl) ?_
      refine kp_getr C G h kp_lK0 rfl inWX9 (j := 0) (by decide) q2_12 rfl dX9_allFitting_95 ?_
      refine kp_getr C G h kp_lK1 rfl inWX1 (j := 3) (by decide) q1_162 rfl dX9_allFitting_98 ?_
      refine kp_geti C G h kp_lK11 rfl inWX3 (j := 5) (by decide) q1_118 rfl dX9_allFitting_101 ?_
      refine kp_xishl C dX9_allFitting_104 hF (fun hF => ?_)
      refine kp_icmp_ge (tgt := 137) C dX9_allFitting_105 (by decide) hF (fun hF => ?_) (fun hF => ?_)
      · exact K _ _ _ _ _ h (lv_sub hl [1] rfl) hF
      · refine kp_iload_n C dX9_allFitting_108 rfl (lv_at hl 3 rfl) ?_
        refine kp_ci h (kp_rS (As := [kp_iv x3_1]) (rest := []) C G h (kc_bitCount (x := x3_1)) q3_130 q3_131 q1_19 q3_132 hd_J6_bitCount_0f7a4 (by decide) rfl hl.1 rfl (Nat.le_of_ble_eq_true rfl) dX9_allFitting_109) (fun H locs h => ?_)
        refine kp_iload_n C dX9_allFitting_112 rfl (lv_at hl 2 rfl) ?_
        refine kp_icmp_ge (tgt := 131) C dX9_allFitting_113 (by decide) hF (fun hF => ?_) (fun hF => ?_)
        · refine kp_iinc (k := 3) (lv' := fun x3_2 => [(3, kp_iv x3_2), (0, .ref (kp_ad X 0)), (1, kp_iv x1_3), (2, kp_iv x2_1)]) C dX9_allFitting_131 hl rfl (by decide) (fun _ => rfl) hF (fun x3_2 ls hl hF => ?_)
          refine kp_goto (tgt := 92) C dX9_allFitting_134 (by decide) ?_
          exact ih _ _ _ _ k _ _ _ h (lv_sub hl [1, 2, 3, 0] rfl) K hF
        · refine kp_aload_n C dX9_allFitting_116 rfl (lv_at hl 0 rfl) ?_
          refine kp_iload_n C dX9_allFitting_117 rfl (lv_at hl 3 rfl) ?_
          obtain ⟨r_0, σ_5, hc, hF⟩ := kp_bd_s hF
          refine kp_ci h (kp_rV (k := 0) (As := [kp_iv x3_1]) (rest := []) C G h (kc_X9_fitsAllRows  hc) q3_151 q3_153 q0_2_6 q1_1 q3_154 ⟨rfl, hd_X9_fitsAllRows⟩ (by decide) kp_lK0 rfl rfl hl.1 rfl (Nat.le_of_ble_eq_true rfl) dX9_allFitting_118) (fun H locs h => ?_)
          refine kp_if_eq (tgt := 131) C dX9_allFitting_121 (by decide) hF (fun hF => ?_) (fun hF => ?_)
          · refine kp_iinc (k := 3) (lv' := fun x3_3 => [(3, kp_iv x3_3), (0, .ref (kp_ad X 0)), (1, kp_iv x1_3), (2, kp_iv x2_1)]) C dX9_allFitting_131 hl rfl (by decide) (fun _ => rfl) hF (fun x3_3 ls hl hF => ?_)
            refine kp_goto (tgt := 92) C dX9_allFitting_134 (by decide) ?_
            exact ih _ _ _ _ k _ _ _ h (lv_sub hl [1, 2, 3, 0] rfl) K hF
          · refine kp_iload_n C dX9_allFitting_124 rfl (lv_at hl 3 rfl) ?_
            refine kp_ci h (kp_rS (As := [kp_iv x3_1]) (rest := []) C G h (kc_bitCount (x := x3_1)) q3_130 q3_131 q1_19 q3_132 hd_J6_bitCount_0f7a4 (by decide) rfl hl.1 rfl (Nat.le_of_ble_eq_true rfl) dX9_allFitting_125) (fun H locs h => ?_)
            refine kp_istore_n (lv' := fun x2_2 => [(2, kp_iv x2_2), (0, .ref (kp_ad X 0)), (1, kp_iv x1_3), (3, kp_iv x3_1)]) C dX9_allFitting_128 rfl hl (by decide) (fun _ => rfl) hF (fun x2_2 ls hl hF => ?_)
            refine kp_iload_n C dX9_allFitting_129 rfl (lv_at hl 3 rfl) ?_
            refine kp_istore_n (lv' := fun x1_5 => [(1, kp_iv x1_5), (2, kp_iv x2_2), (0, .ref (kp_ad X 0)), (3, kp_iv x3_1)]) C dX9_allFitting_130 rfl hl (by decide) (fun _ => rfl) hF (fun x1_5 ls hl hF => ?_)
            refine kp_iinc (k := 3) (lv' := fun x3_4 => [(3, kp_iv x3_4), (1, kp_iv x1_5), (2, kp_iv x2_2), (0, .ref (kp_ad X 0))]) C dX9_allFitting_131 hl rfl (by decide) (fun _ => rfl) hF (fun x3_4 ls hl hF => ?_)
            refine kp_goto (tgt := 92) C dX9_allFitting_134 (by decide) ?_
            exact ih _ _ _ _ k _ _ _ h (lv_sub hl [3, 1, 2, 0] rfl) K hF
  refine L92 kp_fu _ _ _ _ _ _ _ _ h (lv_sub hl [3, 2, 1, 0] rfl) (fun x1_4 σ_4 H locs ls h hl hF => ?_) hF
  clear L92
  refine kp_iload_n C dX9_allFitting_137 rfl (lv_at hl 0 rfl) ?_
  exact kp_reti C hr hlk G h dX9_allFitting_138 hF
