-- by program (wip/whole/gen/drive.py)
def kl_X9_harmOf_20 (a1 : Int) : Nat → Int → Int → kp_W → (Int → kp_W → kp_R) → kp_R
  | 0, _, _, _, _ => none
  | n + 1, x2_1, x3_1, σ_2, k => kp_ls x3_1 40 (kp_bd (kf_X6_knocksOf a1 x3_1 σ_2) (fun r_1 σ_4 => kp_lt ((x2_1 + r_1) : Int) (fun x2_3 => kp_lt (x3_1 + 1) (fun x3_2 => kl_X9_harmOf_20 a1 n x2_3 x3_2 σ_4 k)))) (k x2_1 σ_2)
def kf_X9_harmOf  (a1 : Int) (σ_0 : kp_W) : kp_R :=
  kp_bd (kf_X3_isLoose a1 σ_0) (fun r_0 σ_1 => kp_eq r_0 0 (some (0, σ_1)) (kp_lt (0 : Int) (fun x2_0 => kp_lt (0 : Int) (fun x3_0 => kl_X9_harmOf_20 a1 kp_fu x2_0 x3_0 σ_1 (fun (x2_2 : Int) (σ_3 : kp_W) => kp_ck (0 ≤ a1 ∧ a1 < 10) (some ((x2_2 * (σ_3 15 (Int.toNat a1))), σ_3)))))))
set_option maxRecDepth 100000 in
set_option maxHeartbeats 4000000 in
theorem kc_X9_harmOf {l : Launch} {X : kp_X} {a1 : Int}  {σ_0 σ' : kp_W} {r : Int}   (hF : (kf_X9_harmOf a1 σ_0) = some (r, σ')) : kp_Met l yX9_harmOf cX9_harmOf 4 (some .int) 1 X kp_lK 55 σ_0 [.ref (kp_ad X 0), kp_iv a1] (kp_Qi X kp_lK 55 σ' r) := by
  refine kp_body pnX9 (Nat.le_of_ble_eq_true rfl) ?_
  intro p e s m args below meth c ls C hr hlk G h hl
  unfold kf_X9_harmOf at hF
  have hl : lv_has ls 4 [(0, .ref (kp_ad X 0)), (1, kp_iv a1)] := hl
  refine kp_aload_n C dX9_harmOf_0 rfl (lv_at hl 0 rfl) ?_
  refine kp_getr C G h kp_lK0 rfl inWX9 (j := 0) (by decide) q2_12 rfl dX9_harmOf_1 ?_
  refine kp_getr C G h kp_lK1 rfl inWX1 (j := 3) (by decide) q1_162 rfl dX9_harmOf_4 ?_
  refine kp_iload_n C dX9_harmOf_7 rfl (lv_at hl 1 rfl) ?_
  obtain ⟨r_0, σ_1, hc, hF⟩ := kp_bd_s hF
  refine kp_ci h (kp_rV (k := 11) (As := [kp_iv a1]) (rest := []) C G h (kc_X3_isLoose  hc) q3_58 q3_59 q3_60 q1_6 q3_61 ⟨rfl, hd_X3_isLoose⟩ (by decide) kp_lK11 rfl rfl hl.1 rfl (Nat.le_of_ble_eq_true rfl) dX9_harmOf_8) (fun H locs h => ?_)
  refine kp_if_ne (tgt := 16) C dX9_harmOf_11 (by decide) hF (fun hF => ?_) (fun hF => ?_)
  · refine kp_iconst C dX9_harmOf_16 ?_
    refine kp_istore_n (lv' := fun x2_0 => [(2, kp_iv x2_0), (0, .ref (kp_ad X 0)), (1, kp_iv a1)]) C dX9_harmOf_17 rfl hl (by decide) (fun _ => rfl) hF (fun x2_0 ls hl hF => ?_)
    refine kp_iconst C dX9_harmOf_18 ?_
    refine kp_istore_n (lv' := fun x3_0 => [(3, kp_iv x3_0), (2, kp_iv x2_0), (0, .ref (kp_ad X 0)), (1, kp_iv a1)]) C dX9_harmOf_19 rfl hl (by decide) (fun _ => rfl) hF (fun x3_0 ls hl hF => ?_)
    have L20 : ∀ (n : Nat) (x2_1 : Int) (x3_1 : Int) (σ_2 : kp_W) (k : Int → kp_W → kp_R) (H : Heap) (locs : List Loc) (ls : Array Slot), kp_H X kp_lK 55 s σ_2 H locs → lv_has ls 4 [(0, .ref (kp_ad X 0)), (1, kp_iv a1), (2, kp_iv x2_1), (3, kp_iv x3_1)] → (∀ (x2_2 : Int) (σ_3 : kp_W) (H : Heap) (locs : List Loc) (ls : Array Slot), kp_H X kp_lK 55 s σ_3 H locs → lv_has ls 4 [(0, .ref (kp_ad X 0)), (1, kp_iv a1), (2, kp_iv x2_2)] → k x2_2 σ_3 = some (r, σ') → W p l e (kp_rm 1) s m args below meth c H locs 0 0 (MQ below (kp_Qi X kp_lK 55 σ' r) args s 0 0 (kp_A X 55)) (F0 m 44 ls [])) → kl_X9_harmOf_20 a1 n x2_1 x3_1 σ_2 k = some (r, σ') → W p l e (kp_rm 1) s m args below meth c H locs 0 0 (MQ below (kp_Qi X kp_lK 55 σ' r) args s 0 0 (kp_A X 55)) (F0 m 20 ls []) := by
      intro n
      induction n with
      | zero =>
        intro x2_1 x3_1 σ_2 k H locs ls h hl K hF
        rw [kl_X9_harmOf_20] at hF
        cases hF
      | succ n ih =>
        intro x2_1 x3_1 σ_2 k H locs ls h hl K hF
        rw [kl_X9_harmOf_20] at hF
        refine kp_iload_n C dX9_harmOf_20 rfl (lv_at hl 3 rfl) ?_
        refine kp_bipush C dX9_harmOf_21 rfl ?_
        refine kp_icmp_ge (tgt := 44) C dX9_harmOf_23 (by decide) hF (fun hF => ?_) (fun hF => ?_)
        · exact K _ _ _ _ _ h (lv_sub hl [0, 1, 2] rfl) hF
        · refine kp_iload_n C dX9_harmOf_26 rfl (lv_at hl 2 rfl) ?_
          refine kp_aload_n C dX9_harmOf_27 rfl (lv_at hl 0 rfl) ?_
          refine kp_getr C G h kp_lK0 rfl inWX9 (j := 4) (by decide) q2_16 rfl dX9_harmOf_28 ?_
          refine kp_iload_n C dX9_harmOf_31 rfl (lv_at hl 1 rfl) ?_
          refine kp_iload_n C dX9_harmOf_32 rfl (lv_at hl 3 rfl) ?_
          obtain ⟨r_1, σ_4, hc, hF⟩ := kp_bd_s hF
          refine kp_ci h (kp_rV (k := 48) (As := [kp_iv a1, kp_iv x3_1]) (rest := [kp_iv x2_1]) C G h (kc_X6_knocksOf  hc) q3_62 q3_63 q3_64 q1_9 q3_65 ⟨rfl, hd_X6_knocksOf⟩ (by decide) kp_lK48 rfl rfl hl.1 rfl (Nat.le_of_ble_eq_true rfl) dX9_harmOf_33) (fun H locs h => ?_)
          refine kp_iadd C dX9_harmOf_36 ?_
          refine kp_istore_n (lv' := fun x2_3 => [(2, kp_iv x2_3), (0, .ref (kp_ad X 0)), (1, kp_iv a1), (3, kp_iv x3_1)]) C dX9_harmOf_37 rfl hl (by decide) (fun _ => rfl) hF (fun x2_3 ls hl hF => ?_)
          refine kp_iinc (k := 3) (lv' := fun x3_2 => [(3, kp_iv x3_2), (2, kp_iv x2_3), (0, .ref (kp_ad X 0)), (1, kp_iv a1)]) C dX9_harmOf_38 hl rfl (by decide) (fun _ => rfl) hF (fun x3_2 ls hl hF => ?_)
          refine kp_goto (tgt := 20) C dX9_harmOf_41 (by decide) ?_
          exact ih _ _ _ k _ _ _ h (lv_sub hl [2, 3, 1, 0] rfl) K hF
    refine L20 kp_fu _ _ _ _ _ _ _ h (lv_sub hl [2, 3, 1, 0] rfl) (fun x2_2 σ_3 H locs ls h hl hF => ?_) hF
    clear L20
    refine kp_iload_n C dX9_harmOf_44 rfl (lv_at hl 2 rfl) ?_
    refine kp_aload_n C dX9_harmOf_45 rfl (lv_at hl 0 rfl) ?_
    refine kp_getr C G h kp_lK0 rfl inWX9 (j := 0) (by decide) q2_12 rfl dX9_harmOf_46 ?_
    refine kp_getr C G h kp_lK1 rfl inWX1 (j := 3) (by decide) q1_162 rfl dX9_harmOf_49 ?_
    refine kp_getr C G h kp_lK11 rfl inWX3 (j := 3) (by decide) q1_114 rfl dX9_harmOf_52 ?_
    refine kp_iload_n C dX9_harmOf_55 rfl (lv_at hl 1 rfl) ?_
    refine kp_iald C G h (n := 10) kp_lK15 (by decide) dX9_harmOf_56 hF (fun hF => ?_)
    refine kp_imul C dX9_harmOf_57 ?_
    exact kp_reti C hr hlk G h dX9_harmOf_58 hF
  · refine kp_iconst C dX9_harmOf_14 ?_
    exact kp_reti C hr hlk G h dX9_harmOf_15 hF
def kl_X9_worst_7  : Nat → Int → Int → Int → kp_W → (Int → kp_W → kp_R) → kp_R
  | 0, _, _, _, _, _ => none
  | n + 1, x1_1, x2_1, x3_1, σ_1, k => kp_ls x3_1 (σ_1 11 5) (kp_bd (kf_X9_harmOf x3_1 σ_1) (fun r_0 σ_3 => kp_lt (r_0 : Int) (fun x4_0 => kp_ls x2_1 x4_0 (kp_lt (x4_0 : Int) (fun x2_2 => kp_lt (x3_1 : Int) (fun x1_3 => kp_lt (x3_1 + 1) (fun x3_3 => kl_X9_worst_7 n x1_3 x2_2 x3_3 σ_3 k)))) (kp_lt (x3_1 + 1) (fun x3_2 => kl_X9_worst_7 n x1_1 x2_1 x3_2 σ_3 k))))) (k x1_1 σ_1)
def kf_X9_worst   (σ_0 : kp_W) : kp_R :=
  kp_lt ((-5) : Int) (fun x1_0 => kp_lt ((-1) : Int) (fun x2_0 => kp_lt (0 : Int) (fun x3_0 => kl_X9_worst_7 kp_fu x1_0 x2_0 x3_0 σ_0 (fun (x1_2 : Int) (σ_2 : kp_W) => some (x1_2, σ_2)))))
set_option maxRecDepth 100000 in
set_option maxHeartbeats 4000000 in
theorem kc_X9_worst {l : Launch} {X : kp_X}  {σ_0 σ' : kp_W} {r : Int}   (hF : (kf_X9_worst σ_0) = some (r, σ')) : kp_Met l yX9_worst cX9_worst 5 (some .int) 2 X kp_lK 55 σ_0 [.ref (kp_ad X 0)] (kp_Qi X kp_lK 55 σ' r) := by
  refine kp_body pnX9 (Nat.le_of_ble_eq_true rfl) ?_
  intro p e s m args below meth c ls C hr hlk G h hl
  unfold kf_X9_worst at hF
  have hl : lv_has ls 5 [(0, .ref (kp_ad X 0))] := hl
  refine kp_bipush C dX9_worst_0 rfl ?_
  refine kp_istore_n (lv' := fun x1_0 => [(1, kp_iv x1_0), (0, .ref (kp_ad X 0))]) C dX9_worst_2 rfl hl (by decide) (fun _ => rfl) hF (fun x1_0 ls hl hF => ?_)
  refine kp_iconst C dX9_worst_3 ?_
  refine kp_istore_n (lv' := fun x2_0 => [(2, kp_iv x2_0), (1, kp_iv x1_0), (0, .ref (kp_ad X 0))]) C dX9_worst_4 rfl hl (by decide) (fun _ => rfl) hF (fun x2_0 ls hl hF => ?_)
  refine kp_iconst C dX9_worst_5 ?_
  refine kp_istore_n (lv' := fun x3_0 => [(3, kp_iv x3_0), (2, kp_iv x2_0), (1, kp_iv x1_0), (0, .ref (kp_ad X 0))]) C dX9_worst_6 rfl hl (by decide) (fun _ => rfl) hF (fun x3_0 ls hl hF => ?_)
  have L7 : ∀ (n : Nat) (x1_1 : Int) (x2_1 : Int) (x3_1 : Int) (σ_1 : kp_W) (k : Int → kp_W → kp_R) (H : Heap) (locs : List Loc) (ls : Array Slot), kp_H X kp_lK 55 s σ_1 H locs → lv_has ls 5 [(0, .ref (kp_ad X 0)), (1, kp_iv x1_1), (2, kp_iv x2_1), (3, kp_iv x3_1)] → (∀ (x1_2 : Int) (σ_2 : kp_W) (H : Heap) (locs : List Loc) (ls : Array Slot), kp_H X kp_lK 55 s σ_2 H locs → lv_has ls 5 [(1, kp_iv x1_2)] → k x1_2 σ_2 = some (r, σ') → W p l e (kp_rm 2) s m args below meth c H locs 0 0 (MQ below (kp_Qi X kp_lK 55 σ' r) args s 0 0 (kp_A X 55)) (F0 m 45 ls [])) → kl_X9_worst_7 n x1_1 x2_1 x3_1 σ_1 k = some (r, σ') → W p l e (kp_rm 2) s m args below meth c H locs 0 0 (MQ below (kp_Qi X kp_lK 55 σ' r) args s 0 0 (kp_A X 55)) (F0 m 7 ls []) := by
    intro n
    induction n with
    | zero =>
      intro x1_1 x2_1 x3_1 σ_1 k H locs ls h hl K hF
      rw [kl_X9_worst_7] at hF
      cases hF
    | succ n ih =>
      intro x1_1 x2_1 x3_1 σ_1 k H locs ls h hl K hF
      rw [kl_X9_worst_7] at hF
      refine kp_iload_n C dX9_worst_7 rfl (lv_at hl 3 rfl) ?_
      refine kp_aload_n C dX9_worst_8 rfl (lv_at hl 0 rfl) ?_
      refine kp_getr C G h kp_lK0 rfl inWX9 (j := 0) (by decide) q2_12 rfl dX9_worst_9 ?_
      refine kp_getr C G h kp_lK1 rfl inWX1 (j := 3) (by decide) q1_162 rfl dX9_worst_12 ?_
      refine kp_geti C G h kp_lK11 rfl inWX3 (j := 5) (by decide) q1_118 rfl dX9_worst_15 ?_
      refine kp_icmp_ge (tgt := 45) C dX9_worst_18 (by decide) hF (fun hF => ?_) (fun hF => ?_)
      · exact K _ _ _ _ _ h (lv_sub hl [1] rfl) hF
      · refine kp_aload_n C dX9_worst_21 rfl (lv_at hl 0 rfl) ?_
        refine kp_iload_n C dX9_worst_22 rfl (lv_at hl 3 rfl) ?_
        obtain ⟨r_0, σ_3, hc, hF⟩ := kp_bd_s hF
        refine kp_ci h (kp_rV (k := 0) (As := [kp_iv x3_1]) (rest := []) C G h (kc_X9_harmOf  hc) q3_163 q3_165 q0_2_9 q1_1 q3_166 ⟨rfl, hd_X9_harmOf⟩ (by decide) kp_lK0 rfl rfl hl.1 rfl (Nat.le_of_ble_eq_true rfl) dX9_worst_23) (fun H locs h => ?_)
        refine kp_istore (lv' := fun x4_0 => [(4, kp_iv x4_0), (0, .ref (kp_ad X 0)), (1, kp_iv x1_1), (2, kp_iv x2_1), (3, kp_iv x3_1)]) C dX9_worst_26 hl (by decide) (fun _ => rfl) hF (fun x4_0 ls hl hF => ?_)
        refine kp_iload C dX9_worst_28 (lv_at hl 0 rfl) ?_
        refine kp_iload_n C dX9_worst_30 rfl (lv_at hl 3 rfl) ?_
        refine kp_icmp_le (tgt := 39) C dX9_worst_31 (by decide) hF (fun hF => ?_) (fun hF => ?_)
        · refine kp_iinc (k := 4) (lv' := fun x3_2 => [(3, kp_iv x3_2), (4, kp_iv x4_0), (0, .ref (kp_ad X 0)), (1, kp_iv x1_1), (2, kp_iv x2_1)]) C dX9_worst_39 hl rfl (by decide) (fun _ => rfl) hF (fun x3_2 ls hl hF => ?_)
          refine kp_goto (tgt := 7) C dX9_worst_42 (by decide) ?_
          exact ih _ _ _ _ k _ _ _ h (lv_sub hl [2, 3, 4, 0] rfl) K hF
        · refine kp_iload C dX9_worst_34 (lv_at hl 0 rfl) ?_
          refine kp_istore_n (lv' := fun x2_2 => [(2, kp_iv x2_2), (4, kp_iv x4_0), (0, .ref (kp_ad X 0)), (1, kp_iv x1_1), (3, kp_iv x3_1)]) C dX9_worst_36 rfl hl (by decide) (fun _ => rfl) hF (fun x2_2 ls hl hF => ?_)
          refine kp_iload_n C dX9_worst_37 rfl (lv_at hl 4 rfl) ?_
          refine kp_istore_n (lv' := fun x1_3 => [(1, kp_iv x1_3), (2, kp_iv x2_2), (4, kp_iv x4_0), (0, .ref (kp_ad X 0)), (3, kp_iv x3_1)]) C dX9_worst_38 rfl hl (by decide) (fun _ => rfl) hF (fun x1_3 ls hl hF => ?_)
          refine kp_iinc (k := 4) (lv' := fun x3_3 => [(3, kp_iv x3_3), (1, kp_iv x1_3), (2, kp_iv x2_2), (4, kp_iv x4_0), (0, .ref (kp_ad X 0))]) C dX9_worst_39 hl rfl (by decide) (fun _ => rfl) hF (fun x3_3 ls hl hF => ?_)
          refine kp_goto (tgt := 7) C dX9_worst_42 (by decide) ?_
          exact ih _ _ _ _ k _ _ _ h (lv_sub hl [4, 1, 2, 0] rfl) K hF
  refine L7 kp_fu _ _ _ _ _ _ _ _ h (lv_sub hl [3, 2, 1, 0] rfl) (fun x1_2 σ_2 H locs ls h hl hF => ?_) hF
  clear L7
  refine kp_iload_n C dX9_worst_45 rfl (lv_at hl 0 rfl) ?_
  exact kp_reti C hr hlk G h dX9_worst_46 hF
def kf_X9_which  (a1 : Int) (σ_0 : kp_W) : kp_R :=
  kp_bd (kf_X9_settle σ_0) (fun r_0 σ_1 => kp_eq a1 0 (kp_bd (kf_X9_mostFitting σ_1) (fun r_1 σ_2 => some (r_1, σ_2))) (kp_eq a1 1 (kp_bd (kf_X9_allFitting σ_1) (fun r_2 σ_3 => some (r_2, σ_3))) (kp_eq a1 2 (kp_bd (kf_X9_worst σ_1) (fun r_3 σ_4 => some (r_3, σ_4))) (some ((-1), σ_1)))))
set_option maxRecDepth 100000 in
set_option maxHeartbeats 4000000 in
theorem kc_X9_which {l : Launch} {X : kp_X} {a1 : Int}  {σ_0 σ' : kp_W} {r : Int}   (hF : (kf_X9_which a1 σ_0) = some (r, σ')) : kp_Met l yX9_which cX9_which 2 (some .int) 6 X kp_lK 55 σ_0 [.ref (kp_ad X 0), kp_iv a1] (kp_Qi X kp_lK 55 σ' r) := by
  refine kp_body pnX9 (Nat.le_of_ble_eq_true rfl) ?_
  intro p e s m args below meth c ls C hr hlk G h hl
  unfold kf_X9_which at hF
  have hl : lv_has ls 2 [(0, .ref (kp_ad X 0)), (1, kp_iv a1)] := hl
  refine kp_aload_n C dX9_which_0 rfl (lv_at hl 0 rfl) ?_
  obtain ⟨r_0, σ_1, hc, hF⟩ := kp_bd_s hF
  refine kp_cv h (kp_rV (k := 0) (As := []) (rest := []) C G h (kc_X9_settle  hc) q2_184 q2_186 q0_1_9 q1_1 q2_187 ⟨rfl, hd_X9_settle⟩ (by decide) kp_lK0 rfl rfl hl.1 rfl (Nat.le_of_ble_eq_true rfl) dX9_which_1) (fun H locs h => ?_)
  refine kp_iload_n C dX9_which_4 rfl (lv_at hl 1 rfl) ?_
  obtain ⟨hx, -, ha, hb⟩ := kp_eq_s hF
  by_cases q0 : a1 = 0
  · have hF := ha q0
    clear ha hb
    refine kp_tabIn (v := 0) (tgt := 32) C dX9_which_5 q0 (by decide) rfl (by decide) ?_
    refine kp_aload_n C dX9_which_32 rfl (lv_at hl 0 rfl) ?_
    obtain ⟨r_1, σ_2, hc, hF⟩ := kp_bd_s hF
    refine kp_ci h (kp_rV (k := 0) (As := []) (rest := []) C G h (kc_X9_mostFitting  hc) q3_143 q3_145 q0_2_4 q1_1 q3_146 ⟨rfl, hd_X9_mostFitting⟩ (by decide) kp_lK0 rfl rfl hl.1 rfl (Nat.le_of_ble_eq_true rfl) dX9_which_33) (fun H locs h => ?_)
    exact kp_reti C hr hlk G h dX9_which_36 hF
  · have hF := hb q0
    clear ha hb
    obtain ⟨hx, -, ha, hb⟩ := kp_eq_s hF
    by_cases q1 : a1 = 1
    · have hF := ha q1
      clear ha hb
      refine kp_tabIn (v := 1) (tgt := 37) C dX9_which_5 q1 (by decide) rfl (by decide) ?_
      refine kp_aload_n C dX9_which_37 rfl (lv_at hl 0 rfl) ?_
      obtain ⟨r_2, σ_3, hc, hF⟩ := kp_bd_s hF
      refine kp_ci h (kp_rV (k := 0) (As := []) (rest := []) C G h (kc_X9_allFitting  hc) q3_147 q3_149 q0_2_5 q1_1 q3_150 ⟨rfl, hd_X9_allFitting⟩ (by decide) kp_lK0 rfl rfl hl.1 rfl (Nat.le_of_ble_eq_true rfl) dX9_which_38) (fun H locs h => ?_)
      exact kp_reti C hr hlk G h dX9_which_41 hF
    · have hF := hb q1
      clear ha hb
      obtain ⟨hx, -, ha, hb⟩ := kp_eq_s hF
      by_cases q2 : a1 = 2
      · have hF := ha q2
        clear ha hb
        refine kp_tabIn (v := 2) (tgt := 42) C dX9_which_5 q2 (by decide) rfl (by decide) ?_
        refine kp_aload_n C dX9_which_42 rfl (lv_at hl 0 rfl) ?_
        obtain ⟨r_3, σ_4, hc, hF⟩ := kp_bd_s hF
        refine kp_ci h (kp_rV (k := 0) (As := []) (rest := []) C G h (kc_X9_worst  hc) q3_159 q3_161 q0_2_8 q1_1 q3_162 ⟨rfl, hd_X9_worst⟩ (by decide) kp_lK0 rfl rfl hl.1 rfl (Nat.le_of_ble_eq_true rfl) dX9_which_43) (fun H locs h => ?_)
        exact kp_reti C hr hlk G h dX9_which_46 hF
      · have hF := hb q2
        clear ha hb
        refine kp_tabOut (tgt := 47) C dX9_which_5 hx (by omega) (by decide) ?_
        refine kp_iconst C dX9_which_47 ?_
        exact kp_reti C hr hlk G h dX9_which_48 hF
def kl_X9_mostAlike_62 (σ_2 : kp_W) (x4_1 : Int) : Nat → Int → Int → (Int → kp_R) → kp_R
  | 0, _, _, _ => none
  | n + 1, x5_1, x6_1, k => kp_ls x6_1 (σ_2 11 5) (kp_ck (0 ≤ x4_1 ∧ x4_1 < 120) (kp_ck (0 ≤ x6_1 ∧ x6_1 < 120) (kp_eq (σ_2 43 (Int.toNat x4_1)) (σ_2 43 (Int.toNat x6_1)) (kp_lt (x5_1 + 1) (fun x5_3 => kp_lt (x6_1 + 1) (fun x6_3 => kl_X9_mostAlike_62 σ_2 x4_1 n x5_3 x6_3 k))) (kp_lt (x6_1 + 1) (fun x6_2 => kl_X9_mostAlike_62 σ_2 x4_1 n x5_1 x6_2 k))))) (k x5_1)
def kl_X9_mostAlike_40 (σ_2 : kp_W) : Nat → Int → Int → (Int → kp_R) → kp_R
  | 0, _, _, _ => none
  | n + 1, x3_3, x4_1, k => kp_ls x4_1 (σ_2 11 5) (kp_lt (0 : Int) (fun x5_0 => kp_lt (x4_1 : Int) (fun x6_0 => kl_X9_mostAlike_62 σ_2 x4_1 kp_fu x5_0 x6_0 (fun (x5_2 : Int) => kp_ck (kp_in x3_3 ∧ kp_in x5_2) (kp_lt ((kp_max x3_3 x5_2) : Int) (fun x3_5 => kp_lt (x4_1 + 1) (fun x4_2 => kl_X9_mostAlike_40 σ_2 n x3_5 x4_2 k))))))) (k x3_3)
def kl_X9_mostAlike_2 (a1 : Int) (a2 : Int) : Nat → Int → kp_W → (kp_W → kp_R) → kp_R
  | 0, _, _, _ => none
  | n + 1, x3_1, σ_1, k => kp_ls x3_1 (σ_1 11 5) (kp_bd (kf_X9_heardAlone x3_1 a1 a2 σ_1) (fun r_0 σ_3 => kp_ck (0 ≤ x3_1 ∧ x3_1 < 120) (kp_lt (kp_up σ_3 43 (Int.toNat x3_1) r_0) (fun σ_4 => kp_lt (x3_1 + 1) (fun x3_6 => kl_X9_mostAlike_2 a1 a2 n x3_6 σ_4 k))))) (k σ_1)
def kf_X9_mostAlike  (a1 : Int) (a2 : Int) (σ_0 : kp_W) : kp_R :=
  kp_lt (0 : Int) (fun x3_0 => kl_X9_mostAlike_2 a1 a2 kp_fu x3_0 σ_0 (fun (σ_2 : kp_W) => kp_lt (0 : Int) (fun x3_2 => kp_lt (0 : Int) (fun x4_0 => kl_X9_mostAlike_40 σ_2 kp_fu x3_2 x4_0 (fun (x3_4 : Int) => some (x3_4, σ_2))))))
set_option maxRecDepth 100000 in
set_option maxHeartbeats 4000000 in
theorem kc_X9_mostAlike {l : Launch} {X : kp_X} {a1 : Int} {a2 : Int}  {σ_0 σ' : kp_W} {r : Int}   (hF : (kf_X9_mostAlike a1 a2 σ_0) = some (r, σ')) : kp_Met l yX9_mostAlike cX9_mostAlike 7 (some .int) 4 X kp_lK 55 σ_0 [.ref (kp_ad X 0), kp_iv a1, kp_iv a2] (kp_Qi X kp_lK 55 σ' r) := by
  refine kp_body pnX9 (Nat.le_of_ble_eq_true rfl) ?_
  intro p e s m args below meth c ls C hr hlk G h hl
  unfold kf_X9_mostAlike at hF
  have hl : lv_has ls 7 [(0, .ref (kp_ad X 0)), (1, kp_iv a1), (2, kp_iv a2)] := hl
  refine kp_iconst C dX9_mostAlike_0 ?_
  refine kp_istore_n (lv' := fun x3_0 => [(3, kp_iv x3_0), (0, .ref (kp_ad X 0)), (1, kp_iv a1), (2, kp_iv a2)]) C dX9_mostAlike_1 rfl hl (by decide) (fun _ => rfl) hF (fun x3_0 ls hl hF => ?_)
  have L2 : ∀ (n : Nat) (x3_1 : Int) (σ_1 : kp_W) (k : kp_W → kp_R) (H : Heap) (locs : List Loc) (ls : Array Slot), kp_H X kp_lK 55 s σ_1 H locs → lv_has ls 7 [(0, .ref (kp_ad X 0)), (1, kp_iv a1), (2, kp_iv a2), (3, kp_iv x3_1)] → (∀ (σ_2 : kp_W) (H : Heap) (locs : List Loc) (ls : Array Slot), kp_H X kp_lK 55 s σ_2 H locs → lv_has ls 7 [(0, .ref (kp_ad X 0))] → k σ_2 = some (r, σ') → W p l e (kp_rm 4) s m args below meth c H locs 0 0 (MQ below (kp_Qi X kp_lK 55 σ' r) args s 0 0 (kp_A X 55)) (F0 m 35 ls [])) → kl_X9_mostAlike_2 a1 a2 n x3_1 σ_1 k = some (r, σ') → W p l e (kp_rm 4) s m args below meth c H locs 0 0 (MQ below (kp_Qi X kp_lK 55 σ' r) args s 0 0 (kp_A X 55)) (F0 m 2 ls []) := by
    intro n
    induction n with
    | zero =>
      intro x3_1 σ_1 k H locs ls h hl K hF
      rw [kl_X9_mostAlike_2] at hF
      cases hF
    | succ n ih =>
      intro x3_1 σ_1 k H locs ls h hl K hF
      rw [kl_X9_mostAlike_2] at hF
      refine kp_iload_n C dX9_mostAlike_2 rfl (lv_at hl 3 rfl) ?_
      refine kp_aload_n C dX9_mostAlike_3 rfl (lv_at hl 0 rfl) ?_
      refine kp_getr C G h kp_lK0 rfl inWX9 (j := 0) (by decide) q2_12 rfl dX9_mostAlike_4 ?_
      refine kp_getr C G h kp_lK1 rfl inWX1 (j := 3) (by decide) q1_162 rfl dX9_mostAlike_7 ?_
      refine kp_geti C G h kp_lK11 rfl inWX3 (j := 5) (by decide) q1_118 rfl dX9_mostAlike_10 ?_
      refine kp_icmp_ge (tgt := 35) C dX9_mostAlike_13 (by decide) hF (fun hF => ?_) (fun hF => ?_)
      · exact K _ _ _ _ h (lv_sub hl [0] rfl) hF
      · refine kp_aload_n C dX9_mostAlike_16 rfl (lv_at hl 0 rfl) ?_
        refine kp_getr C G h kp_lK0 rfl inWX9 (j := 7) (by decide) q2_19 rfl dX9_mostAlike_17 ?_
        refine kp_iload_n C dX9_mostAlike_20 rfl (lv_at hl 3 rfl) ?_
        refine kp_aload_n C dX9_mostAlike_21 rfl (lv_at hl 0 rfl) ?_
        refine kp_iload_n C dX9_mostAlike_22 rfl (lv_at hl 3 rfl) ?_
        refine kp_iload_n C dX9_mostAlike_23 rfl (lv_at hl 1 rfl) ?_
        refine kp_iload_n C dX9_mostAlike_24 rfl (lv_at hl 2 rfl) ?_
        obtain ⟨r_0, σ_3, hc, hF⟩ := kp_bd_s hF
        refine kp_ci h (kp_rV (k := 0) (As := [kp_iv x3_1, kp_iv a1, kp_iv a2]) (rest := [kp_iv x3_1, .ref (kp_ad X 43)]) C G h (kc_X9_heardAlone  hc) q3_94 q3_96 q0_2_1 q1_1 q3_97 ⟨rfl, hd_X9_heardAlone⟩ (by decide) kp_lK0 rfl rfl hl.1 rfl (Nat.le_of_ble_eq_true rfl) dX9_mostAlike_25) (fun H locs h => ?_)
        refine kp_iast C G h (n := 120) kp_lK43 (by decide) dX9_mostAlike_28 hF (fun σ_4 H locs h hF => ?_)
        refine kp_iinc (k := 3) (lv' := fun x3_6 => [(3, kp_iv x3_6), (0, .ref (kp_ad X 0)), (1, kp_iv a1), (2, kp_iv a2)]) C dX9_mostAlike_29 hl rfl (by decide) (fun _ => rfl) hF (fun x3_6 ls hl hF => ?_)
        refine kp_goto (tgt := 2) C dX9_mostAlike_32 (by decide) ?_
        exact ih _ _ k _ _ _ h (lv_sub hl [1, 2, 3, 0] rfl) K hF
  refine L2 kp_fu _ _ _ _ _ _ h (lv_sub hl [1, 2, 3, 0] rfl) (fun σ_2 H locs ls h hl hF => ?_) hF
  clear L2
  refine kp_iconst C dX9_mostAlike_35 ?_
  refine kp_istore_n (lv' := fun x3_2 => [(3, kp_iv x3_2), (0, .ref (kp_ad X 0))]) C dX9_mostAlike_36 rfl hl (by decide) (fun _ => rfl) hF (fun x3_2 ls hl hF => ?_)
  refine kp_iconst C dX9_mostAlike_37 ?_
  refine kp_istore (lv' := fun x4_0 => [(4, kp_iv x4_0), (3, kp_iv x3_2), (0, .ref (kp_ad X 0))]) C dX9_mostAlike_38 hl (by decide) (fun _ => rfl) hF (fun x4_0 ls hl hF => ?_)
  have L40 : ∀ (n : Nat) (x3_3 : Int) (x4_1 : Int) (k : Int → kp_R) (H : Heap) (locs : List Loc) (ls : Array Slot), kp_H X kp_lK 55 s σ_2 H locs → lv_has ls 7 [(0, .ref (kp_ad X 0)), (3, kp_iv x3_3), (4, kp_iv x4_1)] → (∀ (x3_4 : Int) (H : Heap) (locs : List Loc) (ls : Array Slot), kp_H X kp_lK 55 s σ_2 H locs → lv_has ls 7 [(3, kp_iv x3_4)] → k x3_4 = some (r, σ') → W p l e (kp_rm 4) s m args below meth c H locs 0 0 (MQ below (kp_Qi X kp_lK 55 σ' r) args s 0 0 (kp_A X 55)) (F0 m 116 ls [])) → kl_X9_mostAlike_40 σ_2 n x3_3 x4_1 k = some (r, σ') → W p l e (kp_rm 4) s m args below meth c H locs 0 0 (MQ below (kp_Qi X kp_lK 55 σ' r) args s 0 0 (kp_A X 55)) (F0 m 40 ls []) := by
    intro n
    induction n with
    | zero =>
      intro x3_3 x4_1 k H locs ls h hl K hF
      rw [kl_X9_mostAlike_40] at hF
      cases hF
    | succ n ih =>
      intro x3_3 x4_1 k H locs ls h hl K hF
      rw [kl_X9_mostAlike_40] at hF
      refine kp_iload C dX9_mostAlike_40 (lv_at hl 2 rfl) ?_
      refine kp_aload_n C dX9_mostAlike_42 rfl (lv_at hl 0 rfl) ?_
      refine kp_getr C G h kp_lK0 rfl inWX9 (j := 0) (by decide) q2_12 rfl dX9_mostAlike_43 ?_
      refine kp_getr C G h kp_lK1 rfl inWX1 (j := 3) (by decide) q1_162 rfl dX9_mostAlike_46 ?_
      refine kp_geti C G h kp_lK11 rfl inWX3 (j := 5) (by decide) q1_118 rfl dX9_mostAlike_49 ?_
      refine kp_icmp_ge (tgt := 116) C dX9_mostAlike_52 (by decide) hF (fun hF => ?_) (fun hF => ?_)
      · exact K _ _ _ _ h (lv_sub hl [1] rfl) hF
      · refine kp_iconst C dX9_mostAlike_55 ?_
        refine kp_istore (lv' := fun x5_0 => [(5, kp_iv x5_0), (0, .ref (kp_ad X 0)), (3, kp_iv x3_3), (4, kp_iv x4_1)]) C dX9_mostAlike_56 hl (by decide) (fun _ => rfl) hF (fun x5_0 ls hl hF => ?_)
        refine kp_iload C dX9_mostAlike_58 (lv_at hl 3 rfl) ?_
        refine kp_istore (lv' := fun x6_0 => [(6, kp_iv x6_0), (5, kp_iv x5_0), (0, .ref (kp_ad X 0)), (3, kp_iv x3_3), (4, kp_iv x4_1)]) C dX9_mostAlike_60 hl (by decide) (fun _ => rfl) hF (fun x6_0 ls hl hF => ?_)
        have L62 : ∀ (n : Nat) (x5_1 : Int) (x6_1 : Int) (k : Int → kp_R) (H : Heap) (locs : List Loc) (ls : Array Slot), kp_H X kp_lK 55 s σ_2 H locs → lv_has ls 7 [(0, .ref (kp_ad X 0)), (3, kp_iv x3_3), (4, kp_iv x4_1), (5, kp_iv x5_1), (6, kp_iv x6_1)] → (∀ (x5_2 : Int) (H : Heap) (locs : List Loc) (ls : Array Slot), kp_H X kp_lK 55 s σ_2 H locs → lv_has ls 7 [(0, .ref (kp_ad X 0)), (3, kp_iv x3_3), (4, kp_iv x4_1), (5, kp_iv x5_2)] → k x5_2 = some (r, σ') → W p l e (kp_rm 4) s m args below meth c H locs 0 0 (MQ below (kp_Qi X kp_lK 55 σ' r) args s 0 0 (kp_A X 55)) (F0 m 103 ls [])) → kl_X9_mostAlike_62 σ_2 x4_1 n x5_1 x6_1 k = some (r, σ') → W p l e (kp_rm 4) s m args below meth c H locs 0 0 (MQ below (kp_Qi X kp_lK 55 σ' r) args s 0 0 (kp_A X 55)) (F0 m 62 ls []) := by
          intro n
          induction n with
          | zero =>
            intro x5_1 x6_1 k H locs ls h hl K hF
            rw [kl_X9_mostAlike_62] at hF
            cases hF
          | succ n ih =>
            intro x5_1 x6_1 k H locs ls h hl K hF
            rw [kl_X9_mostAlike_62] at hF
            refine kp_iload C dX9_mostAlike_62 (lv_at hl 4 rfl) ?_
            refine kp_aload_n C dX9_mostAlike_64 rfl (lv_at hl 0 rfl) ?_
            refine kp_getr C G h kp_lK0 rfl inWX9 (j := 0) (by decide) q2_12 rfl dX9_mostAlike_65 ?_
            refine kp_getr C G h kp_lK1 rfl inWX1 (j := 3) (by decide) q1_162 rfl dX9_mostAlike_68 ?_
            refine kp_geti C G h kp_lK11 rfl inWX3 (j := 5) (by decide) q1_118 rfl dX9_mostAlike_71 ?_
            refine kp_icmp_ge (tgt := 103) C dX9_mostAlike_74 (by decide) hF (fun hF => ?_) (fun hF => ?_)
            · exact K _ _ _ _ h (lv_sub hl [0, 1, 2, 3] rfl) hF
            · refine kp_aload_n C dX9_mostAlike_77 rfl (lv_at hl 0 rfl) ?_
              refine kp_getr C G h kp_lK0 rfl inWX9 (j := 7) (by decide) q2_19 rfl dX9_mostAlike_78 ?_
              refine kp_iload C dX9_mostAlike_81 (lv_at hl 2 rfl) ?_
              refine kp_iald C G h (n := 120) kp_lK43 (by decide) dX9_mostAlike_83 hF (fun hF => ?_)
              refine kp_aload_n C dX9_mostAlike_84 rfl (lv_at hl 0 rfl) ?_
              refine kp_getr C G h kp_lK0 rfl inWX9 (j := 7) (by decide) q2_19 rfl dX9_mostAlike_85 ?_
              refine kp_iload C dX9_mostAlike_88 (lv_at hl 4 rfl) ?_
              refine kp_iald C G h (n := 120) kp_lK43 (by decide) dX9_mostAlike_90 hF (fun hF => ?_)
              refine kp_icmp_ne (tgt := 97) C dX9_mostAlike_91 (by decide) hF (fun hF => ?_) (fun hF => ?_)
              · refine kp_iinc (k := 4) (lv' := fun x6_2 => [(6, kp_iv x6_2), (0, .ref (kp_ad X 0)), (3, kp_iv x3_3), (4, kp_iv x4_1), (5, kp_iv x5_1)]) C dX9_mostAlike_97 hl rfl (by decide) (fun _ => rfl) hF (fun x6_2 ls hl hF => ?_)
                refine kp_goto (tgt := 62) C dX9_mostAlike_100 (by decide) ?_
                exact ih _ _ k _ _ _ h (lv_sub hl [1, 2, 3, 4, 0] rfl) K hF
              · refine kp_iinc (k := 3) (lv' := fun x5_3 => [(5, kp_iv x5_3), (0, .ref (kp_ad X 0)), (3, kp_iv x3_3), (4, kp_iv x4_1), (6, kp_iv x6_1)]) C dX9_mostAlike_94 hl rfl (by decide) (fun _ => rfl) hF (fun x5_3 ls hl hF => ?_)
                refine kp_iinc (k := 4) (lv' := fun x6_3 => [(6, kp_iv x6_3), (5, kp_iv x5_3), (0, .ref (kp_ad X 0)), (3, kp_iv x3_3), (4, kp_iv x4_1)]) C dX9_mostAlike_97 hl rfl (by decide) (fun _ => rfl) hF (fun x6_3 ls hl hF => ?_)
                refine kp_goto (tgt := 62) C dX9_mostAlike_100 (by decide) ?_
                exact ih _ _ k _ _ _ h (lv_sub hl [2, 3, 4, 1, 0] rfl) K hF
        refine L62 kp_fu _ _ _ _ _ _ h (lv_sub hl [2, 3, 4, 1, 0] rfl) (fun x5_2 H locs ls h hl hF => ?_) hF
        clear L62
        refine kp_iload_n C dX9_mostAlike_103 rfl (lv_at hl 1 rfl) ?_
        refine kp_iload C dX9_mostAlike_104 (lv_at hl 3 rfl) ?_
        refine kp_mmax C hl.1 q3_75 q2_237 q1_18 q2_238 (by decide) (Nat.le_of_ble_eq_true rfl) dX9_mostAlike_106 hF (fun hF => ?_)
        refine kp_istore_n (lv' := fun x3_5 => [(3, kp_iv x3_5), (0, .ref (kp_ad X 0)), (4, kp_iv x4_1), (5, kp_iv x5_2)]) C dX9_mostAlike_109 rfl hl (by decide) (fun _ => rfl) hF (fun x3_5 ls hl hF => ?_)
        refine kp_iinc (k := 2) (lv' := fun x4_2 => [(4, kp_iv x4_2), (3, kp_iv x3_5), (0, .ref (kp_ad X 0)), (5, kp_iv x5_2)]) C dX9_mostAlike_110 hl rfl (by decide) (fun _ => rfl) hF (fun x4_2 ls hl hF => ?_)
        refine kp_goto (tgt := 40) C dX9_mostAlike_113 (by decide) ?_
        exact ih _ _ k _ _ _ h (lv_sub hl [2, 1, 0] rfl) K hF
  refine L40 kp_fu _ _ _ _ _ _ h (lv_sub hl [2, 1, 0] rfl) (fun x3_4 H locs ls h hl hF => ?_) hF
  clear L40
  refine kp_iload_n C dX9_mostAlike_116 rfl (lv_at hl 0 rfl) ?_
  exact kp_reti C hr hlk G h dX9_mostAlike_117 hF
def kl_X9_next_37 (x3_1 : Int) : Nat → Int → Int → Int → kp_W → (Int → Int → kp_W → kp_R) → kp_R
  | 0, _, _, _, _, _ => none
  | n + 1, x1_3, x2_2, x4_1, σ_4, k => kp_ls x4_1 40 (kp_bd (kf_X9_mostAlike x3_1 x4_1 σ_4) (fun r_1 σ_6 => kp_lt (r_1 : Int) (fun x5_0 => kp_ls x5_0 x2_2 (kp_lt (x5_0 : Int) (fun x2_4 => kp_lt (((100 * x3_1) + x4_1) : Int) (fun x1_5 => kp_lt (x4_1 + 1) (fun x4_3 => kl_X9_next_37 x3_1 n x1_5 x2_4 x4_3 σ_6 k)))) (kp_lt (x4_1 + 1) (fun x4_2 => kl_X9_next_37 x3_1 n x1_3 x2_2 x4_2 σ_6 k))))) (k x1_3 x2_2 σ_4)
def kl_X9_next_28  : Nat → Int → Int → Int → kp_W → (Int → kp_W → kp_R) → kp_R
  | 0, _, _, _, _, _ => none
  | n + 1, x1_1, x2_1, x3_1, σ_2, k => kp_ls x3_1 10 (kp_lt (0 : Int) (fun x4_0 => kl_X9_next_37 x3_1 kp_fu x1_1 x2_1 x4_0 σ_2 (fun (x1_4 : Int) (x2_3 : Int) (σ_5 : kp_W) => kp_lt (x3_1 + 1) (fun x3_2 => kl_X9_next_28 n x1_4 x2_3 x3_2 σ_5 k)))) (k x1_1 σ_2)
def kf_X9_next   (σ_0 : kp_W) : kp_R :=
  kp_eq (σ_0 11 5) 0 (some ((-5), σ_0)) (kp_bd (kf_X9_settle σ_0) (fun r_0 σ_1 => kp_lt ((-5) : Int) (fun x1_0 => kp_lt (11 : Int) (fun x2_0 => kp_lt (0 : Int) (fun x3_0 => kl_X9_next_28 kp_fu x1_0 x2_0 x3_0 σ_1 (fun (x1_2 : Int) (σ_3 : kp_W) => some (x1_2, σ_3)))))))
set_option maxRecDepth 100000 in
set_option maxHeartbeats 4000000 in
theorem kc_X9_next {l : Launch} {X : kp_X}  {σ_0 σ' : kp_W} {r : Int}   (hF : (kf_X9_next σ_0) = some (r, σ')) : kp_Met l yX9_next cX9_next 6 (some .int) 6 X kp_lK 55 σ_0 [.ref (kp_ad X 0)] (kp_Qi X kp_lK 55 σ' r) := by
  refine kp_body pnX9 (Nat.le_of_ble_eq_true rfl) ?_
  intro p e s m args below meth c ls C hr hlk G h hl
  unfold kf_X9_next at hF
  have hl : lv_has ls 6 [(0, .ref (kp_ad X 0))] := hl
  refine kp_aload_n C dX9_next_0 rfl (lv_at hl 0 rfl) ?_
  refine kp_getr C G h kp_lK0 rfl inWX9 (j := 0) (by decide) q2_12 rfl dX9_next_1 ?_
  refine kp_getr C G h kp_lK1 rfl inWX1 (j := 3) (by decide) q1_162 rfl dX9_next_4 ?_
  refine kp_geti C G h kp_lK11 rfl inWX3 (j := 5) (by decide) q1_118 rfl dX9_next_7 ?_
  refine kp_if_ne (tgt := 16) C dX9_next_10 (by decide) hF (fun hF => ?_) (fun hF => ?_)
  · refine kp_aload_n C dX9_next_16 rfl (lv_at hl 0 rfl) ?_
    obtain ⟨r_0, σ_1, hc, hF⟩ := kp_bd_s hF
    refine kp_cv h (kp_rV (k := 0) (As := []) (rest := []) C G h (kc_X9_settle  hc) q2_184 q2_186 q0_1_9 q1_1 q2_187 ⟨rfl, hd_X9_settle⟩ (by decide) kp_lK0 rfl rfl hl.1 rfl (Nat.le_of_ble_eq_true rfl) dX9_next_17) (fun H locs h => ?_)
    refine kp_bipush C dX9_next_20 rfl ?_
    refine kp_istore_n (lv' := fun x1_0 => [(1, kp_iv x1_0), (0, .ref (kp_ad X 0))]) C dX9_next_22 rfl hl (by decide) (fun _ => rfl) hF (fun x1_0 ls hl hF => ?_)
    refine kp_bipush C dX9_next_23 rfl ?_
    refine kp_istore_n (lv' := fun x2_0 => [(2, kp_iv x2_0), (1, kp_iv x1_0), (0, .ref (kp_ad X 0))]) C dX9_next_25 rfl hl (by decide) (fun _ => rfl) hF (fun x2_0 ls hl hF => ?_)
    refine kp_iconst C dX9_next_26 ?_
    refine kp_istore_n (lv' := fun x3_0 => [(3, kp_iv x3_0), (2, kp_iv x2_0), (1, kp_iv x1_0), (0, .ref (kp_ad X 0))]) C dX9_next_27 rfl hl (by decide) (fun _ => rfl) hF (fun x3_0 ls hl hF => ?_)
    have L28 : ∀ (n : Nat) (x1_1 : Int) (x2_1 : Int) (x3_1 : Int) (σ_2 : kp_W) (k : Int → kp_W → kp_R) (H : Heap) (locs : List Loc) (ls : Array Slot), kp_H X kp_lK 55 s σ_2 H locs → lv_has ls 6 [(0, .ref (kp_ad X 0)), (1, kp_iv x1_1), (2, kp_iv x2_1), (3, kp_iv x3_1)] → (∀ (x1_2 : Int) (σ_3 : kp_W) (H : Heap) (locs : List Loc) (ls : Array Slot), kp_H X kp_lK 55 s σ_3 H locs → lv_has ls 6 [(1, kp_iv x1_2)] → k x1_2 σ_3 = some (r, σ') → W p l e (kp_rm 6) s m args below meth c H locs 0 0 (MQ below (kp_Qi X kp_lK 55 σ' r) args s 0 0 (kp_A X 55)) (F0 m 82 ls [])) → kl_X9_next_28 n x1_1 x2_1 x3_1 σ_2 k = some (r, σ') → W p l e (kp_rm 6) s m args below meth c H locs 0 0 (MQ below (kp_Qi X kp_lK 55 σ' r) args s 0 0 (kp_A X 55)) (F0 m 28 ls []) := by
      intro n
      induction n with
      | zero =>
        intro x1_1 x2_1 x3_1 σ_2 k H locs ls h hl K hF
        rw [kl_X9_next_28] at hF
        cases hF
      | succ n ih =>
        intro x1_1 x2_1 x3_1 σ_2 k H locs ls h hl K hF
        rw [kl_X9_next_28] at hF
        refine kp_iload_n C dX9_next_28 rfl (lv_at hl 3 rfl) ?_
        refine kp_bipush C dX9_next_29 rfl ?_
        refine kp_icmp_ge (tgt := 82) C dX9_next_31 (by decide) hF (fun hF => ?_) (fun hF => ?_)
        · exact K _ _ _ _ _ h (lv_sub hl [1] rfl) hF
        · refine kp_iconst C dX9_next_34 ?_
          refine kp_istore (lv' := fun x4_0 => [(4, kp_iv x4_0), (0, .ref (kp_ad X 0)), (1, kp_iv x1_1), (2, kp_iv x2_1), (3, kp_iv x3_1)]) C dX9_next_35 hl (by decide) (fun _ => rfl) hF (fun x4_0 ls hl hF => ?_)
          have L37 : ∀ (n : Nat) (x1_3 : Int) (x2_2 : Int) (x4_1 : Int) (σ_4 : kp_W) (k : Int → Int → kp_W → kp_R) (H : Heap) (locs : List Loc) (ls : Array Slot), kp_H X kp_lK 55 s σ_4 H locs → lv_has ls 6 [(0, .ref (kp_ad X 0)), (1, kp_iv x1_3), (2, kp_iv x2_2), (3, kp_iv x3_1), (4, kp_iv x4_1)] → (∀ (x1_4 : Int) (x2_3 : Int) (σ_5 : kp_W) (H : Heap) (locs : List Loc) (ls : Array Slot), kp_H X kp_lK 55 s σ_5 H locs → lv_has ls 6 [(0, .ref (kp_ad X 0)), (1, kp_iv x1_4), (2, kp_iv x2_3), (3, kp_iv x3_1)] → k x1_4 x2_3 σ_5 = some (r, σ') → W p l e (kp_rm 6) s m args below meth c H locs 0 0 (MQ below (kp_Qi X kp_lK 55 σ' r) args s 0 0 (kp_A X 55)) (F0 m 76 ls [])) → kl_X9_next_37 x3_1 n x1_3 x2_2 x4_1 σ_4 k = some (r, σ') → W p l e (kp_rm 6) s m args below meth c H locs 0 0 (MQ below (kp_Qi X kp_lK 55 σ' r) args s 0 0 (kp_A X 55)) (F0 m 37 ls []) := by
            intro n
            induction n with
            | zero =>
              intro x1_3 x2_2 x4_1 σ_4 k H locs ls h hl K hF
              rw [kl_X9_next_37] at hF
              cases hF
            | succ n ih =>
              intro x1_3 x2_2 x4_1 σ_4 k H locs ls h hl K hF
              rw [kl_X9_next_37] at hF
              refine kp_iload C dX9_next_37 (lv_at hl 4 rfl) ?_
              refine kp_bipush C dX9_next_39 rfl ?_
              refine kp_icmp_ge (tgt := 76) C dX9_next_41 (by decide) hF (fun hF => ?_) (fun hF => ?_)
              · exact K _ _ _ _ _ _ h (lv_sub hl [0, 1, 2, 3] rfl) hF
              · refine kp_aload_n C dX9_next_44 rfl (lv_at hl 0 rfl) ?_
                refine kp_iload_n C dX9_next_45 rfl (lv_at hl 3 rfl) ?_
                refine kp_iload C dX9_next_46 (lv_at hl 4 rfl) ?_
                obtain ⟨r_1, σ_6, hc, hF⟩ := kp_bd_s hF
                refine kp_ci h (kp_rV (k := 0) (As := [kp_iv x3_1, kp_iv x4_1]) (rest := []) C G h (kc_X9_mostAlike  hc) q3_171 q3_173 q0_2_10 q1_1 q3_174 ⟨rfl, hd_X9_mostAlike⟩ (by decide) kp_lK0 rfl rfl hl.1 rfl (Nat.le_of_ble_eq_true rfl) dX9_next_48) (fun H locs h => ?_)
                refine kp_istore (lv' := fun x5_0 => [(5, kp_iv x5_0), (0, .ref (kp_ad X 0)), (1, kp_iv x1_3), (2, kp_iv x2_2), (3, kp_iv x3_1), (4, kp_iv x4_1)]) C dX9_next_51 hl (by decide) (fun _ => rfl) hF (fun x5_0 ls hl hF => ?_)
                refine kp_iload C dX9_next_53 (lv_at hl 0 rfl) ?_
                refine kp_iload_n C dX9_next_55 rfl (lv_at hl 3 rfl) ?_
                refine kp_icmp_ge (tgt := 70) C dX9_next_56 (by decide) hF (fun hF => ?_) (fun hF => ?_)
                · refine kp_iinc (k := 5) (lv' := fun x4_2 => [(4, kp_iv x4_2), (5, kp_iv x5_0), (0, .ref (kp_ad X 0)), (1, kp_iv x1_3), (2, kp_iv x2_2), (3, kp_iv x3_1)]) C dX9_next_70 hl rfl (by decide) (fun _ => rfl) hF (fun x4_2 ls hl hF => ?_)
                  refine kp_goto (tgt := 37) C dX9_next_73 (by decide) ?_
                  exact ih _ _ _ _ k _ _ _ h (lv_sub hl [2, 3, 4, 5, 0] rfl) K hF
                · refine kp_iload C dX9_next_59 (lv_at hl 0 rfl) ?_
                  refine kp_istore_n (lv' := fun x2_4 => [(2, kp_iv x2_4), (5, kp_iv x5_0), (0, .ref (kp_ad X 0)), (1, kp_iv x1_3), (3, kp_iv x3_1), (4, kp_iv x4_1)]) C dX9_next_61 rfl hl (by decide) (fun _ => rfl) hF (fun x2_4 ls hl hF => ?_)
                  refine kp_bipush C dX9_next_62 rfl ?_
                  refine kp_iload_n C dX9_next_64 rfl (lv_at hl 4 rfl) ?_
                  refine kp_imul C dX9_next_65 ?_
                  refine kp_iload C dX9_next_66 (lv_at hl 5 rfl) ?_
                  refine kp_iadd C dX9_next_68 ?_
                  refine kp_istore_n (lv' := fun x1_5 => [(1, kp_iv x1_5), (2, kp_iv x2_4), (5, kp_iv x5_0), (0, .ref (kp_ad X 0)), (3, kp_iv x3_1), (4, kp_iv x4_1)]) C dX9_next_69 rfl hl (by decide) (fun _ => rfl) hF (fun x1_5 ls hl hF => ?_)
                  refine kp_iinc (k := 5) (lv' := fun x4_3 => [(4, kp_iv x4_3), (1, kp_iv x1_5), (2, kp_iv x2_4), (5, kp_iv x5_0), (0, .ref (kp_ad X 0)), (3, kp_iv x3_1)]) C dX9_next_70 hl rfl (by decide) (fun _ => rfl) hF (fun x4_3 ls hl hF => ?_)
                  refine kp_goto (tgt := 37) C dX9_next_73 (by decide) ?_
                  exact ih _ _ _ _ k _ _ _ h (lv_sub hl [4, 1, 2, 5, 0] rfl) K hF
          refine L37 kp_fu _ _ _ _ _ _ _ _ h (lv_sub hl [1, 2, 3, 4, 0] rfl) (fun x1_4 x2_3 σ_5 H locs ls h hl hF => ?_) hF
          clear L37
          refine kp_iinc (k := 3) (lv' := fun x3_2 => [(3, kp_iv x3_2), (0, .ref (kp_ad X 0)), (1, kp_iv x1_4), (2, kp_iv x2_3)]) C dX9_next_76 hl rfl (by decide) (fun _ => rfl) hF (fun x3_2 ls hl hF => ?_)
          refine kp_goto (tgt := 28) C dX9_next_79 (by decide) ?_
          exact ih _ _ _ _ k _ _ _ h (lv_sub hl [1, 2, 3, 0] rfl) K hF
    refine L28 kp_fu _ _ _ _ _ _ _ _ h (lv_sub hl [3, 2, 1, 0] rfl) (fun x1_2 σ_3 H locs ls h hl hF => ?_) hF
    clear L28
    refine kp_iload_n C dX9_next_82 rfl (lv_at hl 0 rfl) ?_
    exact kp_reti C hr hlk G h dX9_next_83 hF
  · refine kp_bipush C dX9_next_13 rfl ?_
    exact kp_reti C hr hlk G h dX9_next_15 hF
def kl_X9_heardInDayOf_5 (a1 : Int) (a2 : Int) : Nat → Int → Int → kp_W → (Int → kp_W → kp_R) → kp_R
  | 0, _, _, _, _ => none
  | n + 1, x3_1, x4_1, σ_1, k => kp_ls x4_1 40 (kp_bd (kf_X9_heardAlone a1 a2 x4_1 σ_1) (fun r_0 σ_3 => kp_lt ((x3_1 + r_0) : Int) (fun x3_3 => kp_lt (x4_1 + 1) (fun x4_2 => kl_X9_heardInDayOf_5 a1 a2 n x3_3 x4_2 σ_3 k)))) (k x3_1 σ_1)
def kf_X9_heardInDayOf  (a1 : Int) (a2 : Int) (σ_0 : kp_W) : kp_R :=
  kp_lt (0 : Int) (fun x3_0 => kp_lt (0 : Int) (fun x4_0 => kl_X9_heardInDayOf_5 a1 a2 kp_fu x3_0 x4_0 σ_0 (fun (x3_2 : Int) (σ_2 : kp_W) => some (x3_2, σ_2))))
set_option maxRecDepth 100000 in
set_option maxHeartbeats 4000000 in
theorem kc_X9_heardInDayOf {l : Launch} {X : kp_X} {a1 : Int} {a2 : Int}  {σ_0 σ' : kp_W} {r : Int}   (hF : (kf_X9_heardInDayOf a1 a2 σ_0) = some (r, σ')) : kp_Met l yX9_heardInDayOf cX9_heardInDayOf 5 (some .int) 4 X kp_lK 55 σ_0 [.ref (kp_ad X 0), kp_iv a1, kp_iv a2] (kp_Qi X kp_lK 55 σ' r) := by
  refine kp_body pnX9 (Nat.le_of_ble_eq_true rfl) ?_
  intro p e s m args below meth c ls C hr hlk G h hl
  unfold kf_X9_heardInDayOf at hF
  have hl : lv_has ls 5 [(0, .ref (kp_ad X 0)), (1, kp_iv a1), (2, kp_iv a2)] := hl
  refine kp_iconst C dX9_heardInDayOf_0 ?_
  refine kp_istore_n (lv' := fun x3_0 => [(3, kp_iv x3_0), (0, .ref (kp_ad X 0)), (1, kp_iv a1), (2, kp_iv a2)]) C dX9_heardInDayOf_1 rfl hl (by decide) (fun _ => rfl) hF (fun x3_0 ls hl hF => ?_)
  refine kp_iconst C dX9_heardInDayOf_2 ?_
  refine kp_istore (lv' := fun x4_0 => [(4, kp_iv x4_0), (3, kp_iv x3_0), (0, .ref (kp_ad X 0)), (1, kp_iv a1), (2, kp_iv a2)]) C dX9_heardInDayOf_3 hl (by decide) (fun _ => rfl) hF (fun x4_0 ls hl hF => ?_)
  have L5 : ∀ (n : Nat) (x3_1 : Int) (x4_1 : Int) (σ_1 : kp_W) (k : Int → kp_W → kp_R) (H : Heap) (locs : List Loc) (ls : Array Slot), kp_H X kp_lK 55 s σ_1 H locs → lv_has ls 5 [(0, .ref (kp_ad X 0)), (1, kp_iv a1), (2, kp_iv a2), (3, kp_iv x3_1), (4, kp_iv x4_1)] → (∀ (x3_2 : Int) (σ_2 : kp_W) (H : Heap) (locs : List Loc) (ls : Array Slot), kp_H X kp_lK 55 s σ_2 H locs → lv_has ls 5 [(3, kp_iv x3_2)] → k x3_2 σ_2 = some (r, σ') → W p l e (kp_rm 4) s m args below meth c H locs 0 0 (MQ below (kp_Qi X kp_lK 55 σ' r) args s 0 0 (kp_A X 55)) (F0 m 29 ls [])) → kl_X9_heardInDayOf_5 a1 a2 n x3_1 x4_1 σ_1 k = some (r, σ') → W p l e (kp_rm 4) s m args below meth c H locs 0 0 (MQ below (kp_Qi X kp_lK 55 σ' r) args s 0 0 (kp_A X 55)) (F0 m 5 ls []) := by
    intro n
    induction n with
    | zero =>
      intro x3_1 x4_1 σ_1 k H locs ls h hl K hF
      rw [kl_X9_heardInDayOf_5] at hF
      cases hF
    | succ n ih =>
      intro x3_1 x4_1 σ_1 k H locs ls h hl K hF
      rw [kl_X9_heardInDayOf_5] at hF
      refine kp_iload C dX9_heardInDayOf_5 (lv_at hl 4 rfl) ?_
      refine kp_bipush C dX9_heardInDayOf_7 rfl ?_
      refine kp_icmp_ge (tgt := 29) C dX9_heardInDayOf_9 (by decide) hF (fun hF => ?_) (fun hF => ?_)
      · exact K _ _ _ _ _ h (lv_sub hl [3] rfl) hF
      · refine kp_iload_n C dX9_heardInDayOf_12 rfl (lv_at hl 3 rfl) ?_
        refine kp_aload_n C dX9_heardInDayOf_13 rfl (lv_at hl 0 rfl) ?_
        refine kp_iload_n C dX9_heardInDayOf_14 rfl (lv_at hl 1 rfl) ?_
        refine kp_iload_n C dX9_heardInDayOf_15 rfl (lv_at hl 2 rfl) ?_
        refine kp_iload C dX9_heardInDayOf_16 (lv_at hl 4 rfl) ?_
        obtain ⟨r_0, σ_3, hc, hF⟩ := kp_bd_s hF
        refine kp_ci h (kp_rV (k := 0) (As := [kp_iv a1, kp_iv a2, kp_iv x4_1]) (rest := [kp_iv x3_1]) C G h (kc_X9_heardAlone  hc) q3_94 q3_96 q0_2_1 q1_1 q3_97 ⟨rfl, hd_X9_heardAlone⟩ (by decide) kp_lK0 rfl rfl hl.1 rfl (Nat.le_of_ble_eq_true rfl) dX9_heardInDayOf_18) (fun H locs h => ?_)
        refine kp_iadd C dX9_heardInDayOf_21 ?_
        refine kp_istore_n (lv' := fun x3_3 => [(3, kp_iv x3_3), (0, .ref (kp_ad X 0)), (1, kp_iv a1), (2, kp_iv a2), (4, kp_iv x4_1)]) C dX9_heardInDayOf_22 rfl hl (by decide) (fun _ => rfl) hF (fun x3_3 ls hl hF => ?_)
        refine kp_iinc (k := 4) (lv' := fun x4_2 => [(4, kp_iv x4_2), (3, kp_iv x3_3), (0, .ref (kp_ad X 0)), (1, kp_iv a1), (2, kp_iv a2)]) C dX9_heardInDayOf_23 hl rfl (by decide) (fun _ => rfl) hF (fun x4_2 ls hl hF => ?_)
        refine kp_goto (tgt := 5) C dX9_heardInDayOf_26 (by decide) ?_
        exact ih _ _ _ k _ _ _ h (lv_sub hl [2, 3, 4, 1, 0] rfl) K hF
  refine L5 kp_fu _ _ _ _ _ _ _ h (lv_sub hl [2, 3, 4, 1, 0] rfl) (fun x3_2 σ_2 H locs ls h hl hF => ?_) hF
  clear L5
  refine kp_iload_n C dX9_heardInDayOf_29 rfl (lv_at hl 0 rfl) ?_
  exact kp_reti C hr hlk G h dX9_heardInDayOf_30 hF
def kl_X9_least_81 (a2 : Int) (x3_0 : Int) : Nat → Int → Int → kp_W → (Int → kp_W → kp_R) → kp_R
  | 0, _, _, _, _ => none
  | n + 1, x4_3, x5_1, σ_6, k => kp_ck (0 ≤ (σ_6 11 5) ∧ (σ_6 11 5) < 32) (kp_ls x5_1 (1 * 2 ^ (Int.toNat (σ_6 11 5))) (kp_jn (fun (v_0 : Int) => kp_lt (v_0 : Int) (fun x6_0 => kp_eq x6_0 0 (kp_lt (x5_1 + 1) (fun x5_2 => kl_X9_least_81 a2 x3_0 n x4_3 x5_2 σ_6 k)) (kp_bd (kf_X9_shareOf 0 (kp_and x3_0 (kp_xor x5_1 (-1))) σ_6) (fun r_3 σ_8 => kp_ls a2 r_3 (kp_lt (x5_1 + 1) (fun x5_3 => kl_X9_least_81 a2 x3_0 n x4_3 x5_3 σ_8 k)) (kp_lt (x5_1 : Int) (fun x4_5 => kp_lt (x5_1 + 1) (fun x5_4 => kl_X9_least_81 a2 x3_0 n x4_5 x5_4 σ_8 k))))))) (fun j125 => kp_jn (fun (_ : Unit) => j125 0) (fun j124 => kp_eq (kp_and x5_1 (kp_xor x3_0 (-1))) 0 (kp_ls (kp_bc x5_1) (kp_bc x4_3) (j125 1) (j124 ())) (j124 ())))) (k x4_3 σ_6))
def kl_X9_least_40 (a1 : Int) : Nat → Int → kp_W → (kp_W → kp_R) → kp_R
  | 0, _, _, _ => none
  | n + 1, x4_1, σ_4, k => kp_ls x4_1 (σ_4 11 5) (kp_bd (kf_X9_heardInDayOf x4_1 a1 σ_4) (fun r_4 σ_9 => kp_ck (0 ≤ x4_1 ∧ x4_1 < 120) (kp_lt (kp_up σ_9 43 (Int.toNat x4_1) r_4) (fun σ_10 => kp_lt (x4_1 + 1) (fun x4_6 => kl_X9_least_40 a1 n x4_6 σ_10 k))))) (k σ_4)
def kf_X9_least  (a1 : Int) (a2 : Int) (σ_0 : kp_W) : kp_R :=
  kp_bd (kf_X9_isPlace a1 σ_0) (fun r_0 σ_1 => kp_eq r_0 0 (some ((-1), σ_1)) (kp_ls a2 0 (some ((-2), σ_1)) (kp_ls 99 a2 (some ((-2), σ_1)) (kp_bd (kf_X9_settle σ_1) (fun r_1 σ_2 => kp_bd (kf_X3_loose σ_2) (fun r_2 σ_3 => kp_lt (r_2 : Int) (fun x3_0 => kp_lt (0 : Int) (fun x4_0 => kl_X9_least_40 a1 kp_fu x4_0 σ_3 (fun (σ_5 : kp_W) => kp_lt (x3_0 : Int) (fun x4_2 => kp_lt (0 : Int) (fun x5_0 => kl_X9_least_81 a2 x3_0 kp_fu x4_2 x5_0 σ_5 (fun (x4_4 : Int) (σ_7 : kp_W) => some (x4_4, σ_7)))))))))))))
set_option maxRecDepth 100000 in
set_option maxHeartbeats 4000000 in
theorem kc_X9_least {l : Launch} {X : kp_X} {a1 : Int} {a2 : Int}  {σ_0 σ' : kp_W} {r : Int}   (hF : (kf_X9_least a1 a2 σ_0) = some (r, σ')) : kp_Met l yX9_least cX9_least 7 (some .int) 6 X kp_lK 55 σ_0 [.ref (kp_ad X 0), kp_iv a1, kp_iv a2] (kp_Qi X kp_lK 55 σ' r) := by
  refine kp_body pnX9 (Nat.le_of_ble_eq_true rfl) ?_
  intro p e s m args below meth c ls C hr hlk G h hl
  unfold kf_X9_least at hF
  have hl : lv_has ls 7 [(0, .ref (kp_ad X 0)), (1, kp_iv a1), (2, kp_iv a2)] := hl
  refine kp_iload_n C dX9_least_0 rfl (lv_at hl 1 rfl) ?_
  obtain ⟨r_0, σ_1, hc, hF⟩ := kp_bd_s hF
  refine kp_ci h (kp_rS (As := [kp_iv a1]) (rest := []) C G h (kc_X9_isPlace  hc) q3_33 q3_34 q1_1 q3_35 hd_X9_isPlace (by decide) rfl hl.1 rfl (Nat.le_of_ble_eq_true rfl) dX9_least_1) (fun H locs h => ?_)
  refine kp_if_ne (tgt := 9) C dX9_least_4 (by decide) hF (fun hF => ?_) (fun hF => ?_)
  · refine kp_iload_n C dX9_least_9 rfl (lv_at hl 2 rfl) ?_
    refine kp_if_lt (tgt := 19) C dX9_least_10 (by decide) hF (fun hF => ?_) (fun hF => ?_)
    · refine kp_bipush C dX9_least_19 rfl ?_
      exact kp_reti C hr hlk G h dX9_least_21 hF
    · refine kp_iload_n C dX9_least_13 rfl (lv_at hl 2 rfl) ?_
      refine kp_bipush C dX9_least_14 rfl ?_
      refine kp_icmp_le (tgt := 22) C dX9_least_16 (by decide) hF (fun hF => ?_) (fun hF => ?_)
      · refine kp_aload_n C dX9_least_22 rfl (lv_at hl 0 rfl) ?_
        obtain ⟨r_1, σ_2, hc, hF⟩ := kp_bd_s hF
        refine kp_cv h (kp_rV (k := 0) (As := []) (rest := []) C G h (kc_X9_settle  hc) q2_184 q2_186 q0_1_9 q1_1 q2_187 ⟨rfl, hd_X9_settle⟩ (by decide) kp_lK0 rfl rfl hl.1 rfl (Nat.le_of_ble_eq_true rfl) dX9_least_23) (fun H locs h => ?_)
        refine kp_aload_n C dX9_least_26 rfl (lv_at hl 0 rfl) ?_
        refine kp_getr C G h kp_lK0 rfl inWX9 (j := 0) (by decide) q2_12 rfl dX9_least_27 ?_
        refine kp_getr C G h kp_lK1 rfl inWX1 (j := 3) (by decide) q1_162 rfl dX9_least_30 ?_
        obtain ⟨r_2, σ_3, hc, hF⟩ := kp_bd_s hF
        refine kp_ci h (kp_rV (k := 11) (As := []) (rest := []) C G h (kc_X3_loose  hc) q3_179 q3_180 q3_181 q1_6 q3_182 ⟨rfl, hd_X3_loose⟩ (by decide) kp_lK11 rfl rfl hl.1 rfl (Nat.le_of_ble_eq_true rfl) dX9_least_33) (fun H locs h => ?_)
        refine kp_istore_n (lv' := fun x3_0 => [(3, kp_iv x3_0), (0, .ref (kp_ad X 0)), (1, kp_iv a1), (2, kp_iv a2)]) C dX9_least_36 rfl hl (by decide) (fun _ => rfl) hF (fun x3_0 ls hl hF => ?_)
        refine kp_iconst C dX9_least_37 ?_
        refine kp_istore (lv' := fun x4_0 => [(4, kp_iv x4_0), (3, kp_iv x3_0), (0, .ref (kp_ad X 0)), (1, kp_iv a1), (2, kp_iv a2)]) C dX9_least_38 hl (by decide) (fun _ => rfl) hF (fun x4_0 ls hl hF => ?_)
        have L40 : ∀ (n : Nat) (x4_1 : Int) (σ_4 : kp_W) (k : kp_W → kp_R) (H : Heap) (locs : List Loc) (ls : Array Slot), kp_H X kp_lK 55 s σ_4 H locs → lv_has ls 7 [(0, .ref (kp_ad X 0)), (1, kp_iv a1), (2, kp_iv a2), (3, kp_iv x3_0), (4, kp_iv x4_1)] → (∀ (σ_5 : kp_W) (H : Heap) (locs : List Loc) (ls : Array Slot), kp_H X kp_lK 55 s σ_5 H locs → lv_has ls 7 [(0, .ref (kp_ad X 0)), (2, kp_iv a2), (3, kp_iv x3_0)] → k σ_5 = some (r, σ') → W p l e (kp_rm 6) s m args below meth c H locs 0 0 (MQ below (kp_Qi X kp_lK 55 σ' r) args s 0 0 (kp_A X 55)) (F0 m 75 ls [])) → kl_X9_least_40 a1 n x4_1 σ_4 k = some (r, σ') → W p l e (kp_rm 6) s m args below meth c H locs 0 0 (MQ below (kp_Qi X kp_lK 55 σ' r) args s 0 0 (kp_A X 55)) (F0 m 40 ls []) := by
          intro n
          induction n with
          | zero =>
            intro x4_1 σ_4 k H locs ls h hl K hF
            rw [kl_X9_least_40] at hF
            cases hF
          | succ n ih =>
            intro x4_1 σ_4 k H locs ls h hl K hF
            rw [kl_X9_least_40] at hF
            refine kp_iload C dX9_least_40 (lv_at hl 4 rfl) ?_
            refine kp_aload_n C dX9_least_42 rfl (lv_at hl 0 rfl) ?_
            refine kp_getr C G h kp_lK0 rfl inWX9 (j := 0) (by decide) q2_12 rfl dX9_least_43 ?_
            refine kp_getr C G h kp_lK1 rfl inWX1 (j := 3) (by decide) q1_162 rfl dX9_least_46 ?_
            refine kp_geti C G h kp_lK11 rfl inWX3 (j := 5) (by decide) q1_118 rfl dX9_least_49 ?_
            refine kp_icmp_ge (tgt := 75) C dX9_least_52 (by decide) hF (fun hF => ?_) (fun hF => ?_)
            · exact K _ _ _ _ h (lv_sub hl [0, 2, 3] rfl) hF
            · refine kp_aload_n C dX9_least_55 rfl (lv_at hl 0 rfl) ?_
              refine kp_getr C G h kp_lK0 rfl inWX9 (j := 7) (by decide) q2_19 rfl dX9_least_56 ?_
              refine kp_iload C dX9_least_59 (lv_at hl 4 rfl) ?_
              refine kp_aload_n C dX9_least_61 rfl (lv_at hl 0 rfl) ?_
              refine kp_iload C dX9_least_62 (lv_at hl 4 rfl) ?_
              refine kp_iload_n C dX9_least_64 rfl (lv_at hl 1 rfl) ?_
              obtain ⟨r_4, σ_9, hc, hF⟩ := kp_bd_s hF
              refine kp_ci h (kp_rV (k := 0) (As := [kp_iv x4_1, kp_iv a1]) (rest := [kp_iv x4_1, .ref (kp_ad X 43)]) C G h (kc_X9_heardInDayOf  hc) q3_183 q3_185 q0_2_11 q1_1 q3_186 ⟨rfl, hd_X9_heardInDayOf⟩ (by decide) kp_lK0 rfl rfl hl.1 rfl (Nat.le_of_ble_eq_true rfl) dX9_least_65) (fun H locs h => ?_)
              refine kp_iast C G h (n := 120) kp_lK43 (by decide) dX9_least_68 hF (fun σ_10 H locs h hF => ?_)
              refine kp_iinc (k := 4) (lv' := fun x4_6 => [(4, kp_iv x4_6), (0, .ref (kp_ad X 0)), (1, kp_iv a1), (2, kp_iv a2), (3, kp_iv x3_0)]) C dX9_least_69 hl rfl (by decide) (fun _ => rfl) hF (fun x4_6 ls hl hF => ?_)
              refine kp_goto (tgt := 40) C dX9_least_72 (by decide) ?_
              exact ih _ _ k _ _ _ h (lv_sub hl [1, 2, 3, 4, 0] rfl) K hF
        refine L40 kp_fu _ _ _ _ _ _ h (lv_sub hl [2, 3, 4, 1, 0] rfl) (fun σ_5 H locs ls h hl hF => ?_) hF
        clear L40
        refine kp_iload_n C dX9_least_75 rfl (lv_at hl 2 rfl) ?_
        refine kp_istore (lv' := fun x4_2 => [(4, kp_iv x4_2), (0, .ref (kp_ad X 0)), (2, kp_iv a2), (3, kp_iv x3_0)]) C dX9_least_76 hl (by decide) (fun _ => rfl) hF (fun x4_2 ls hl hF => ?_)
        refine kp_iconst C dX9_least_78 ?_
        refine kp_istore (lv' := fun x5_0 => [(5, kp_iv x5_0), (4, kp_iv x4_2), (0, .ref (kp_ad X 0)), (2, kp_iv a2), (3, kp_iv x3_0)]) C dX9_least_79 hl (by decide) (fun _ => rfl) hF (fun x5_0 ls hl hF => ?_)
        have L81 : ∀ (n : Nat) (x4_3 : Int) (x5_1 : Int) (σ_6 : kp_W) (k : Int → kp_W → kp_R) (H : Heap) (locs : List Loc) (ls : Array Slot), kp_H X kp_lK 55 s σ_6 H locs → lv_has ls 7 [(0, .ref (kp_ad X 0)), (2, kp_iv a2), (3, kp_iv x3_0), (4, kp_iv x4_3), (5, kp_iv x5_1)] → (∀ (x4_4 : Int) (σ_7 : kp_W) (H : Heap) (locs : List Loc) (ls : Array Slot), kp_H X kp_lK 55 s σ_7 H locs → lv_has ls 7 [(4, kp_iv x4_4)] → k x4_4 σ_7 = some (r, σ') → W p l e (kp_rm 6) s m args below meth c H locs 0 0 (MQ below (kp_Qi X kp_lK 55 σ' r) args s 0 0 (kp_A X 55)) (F0 m 157 ls [])) → kl_X9_least_81 a2 x3_0 n x4_3 x5_1 σ_6 k = some (r, σ') → W p l e (kp_rm 6) s m args below meth c H locs 0 0 (MQ below (kp_Qi X kp_lK 55 σ' r) args s 0 0 (kp_A X 55)) (F0 m 81 ls []) := by
          intro n
          induction n with
          | zero =>
            intro x4_3 x5_1 σ_6 k H locs ls h hl K hF
            rw [kl_X9_least_81] at hF
            cases hF
          | succ n ih =>
            intro x4_3 x5_1 σ_6 k H locs ls h hl K hF
            rw [kl_X9_least_81] at hF
            refine kp_iload C dX9_least_81 (lv_at hl 4 rfl) ?_
            refine kp_iconst C dX9_least_83 ?_
            refine kp_aload_n C dX9_least_84 rfl (lv_at hl 0 rfl) ?_
            refine kp_getr C G h kp_lK0 rfl inWX9 (j := 0) (by decide) q2_12 rfl dX9_least_85 ?_
            refine kp_getr C G h kp_lK1 rfl inWX1 (j := 3) (by decide) q1_162 rfl dX9_least_88 ?_
            refine kp_geti C G h kp_lK11 rfl inWX3 (j := 5) (by decide) q1_118 rfl dX9_least_91 ?_
            refine kp_xishl C dX9_least_94 hF (fun hF => ?_)
            refine kp_icmp_ge (tgt := 157) C dX9_least_95 (by decide) hF (fun hF => ?_) (fun hF => ?_)
            · exact K _ _ _ _ _ h (lv_sub hl [3] rfl) hF
            · refine kp_iload C dX9_least_98 (lv_at hl 4 rfl) ?_
              refine kp_iload_n C dX9_least_100 rfl (lv_at hl 2 rfl) ?_
              refine kp_iconst C dX9_least_101 ?_
              refine kp_xixor C dX9_least_102 ?_
              refine kp_xiand C dX9_least_103 ?_
              obtain ⟨j125, ej125, hF⟩ := kp_jn_s hF
              have J125 : ∀ (v_0 : Int), ∀ (H : Heap) (locs : List Loc) (ls : Array Slot), kp_H X kp_lK 55 s σ_6 H locs → lv_has ls 7 [(0, .ref (kp_ad X 0)), (2, kp_iv a2), (3, kp_iv x3_0), (4, kp_iv x4_3), (5, kp_iv x5_1)] → j125 v_0 = some (r, σ') → W p l e (kp_rm 6) s m args below meth c H locs 0 0 (MQ below (kp_Qi X kp_lK 55 σ' r) args s 0 0 (kp_A X 55)) (F0 m 125 ls [kp_iv v_0]) := by
                intro v_0 H locs ls h hl hF
                rw [ej125] at hF
                refine kp_istore (lv' := fun x6_0 => [(6, kp_iv x6_0), (0, .ref (kp_ad X 0)), (2, kp_iv a2), (3, kp_iv x3_0), (4, kp_iv x4_3), (5, kp_iv x5_1)]) C dX9_least_125 hl (by decide) (fun _ => rfl) hF (fun x6_0 ls hl hF => ?_)
                refine kp_iload C dX9_least_127 (lv_at hl 0 rfl) ?_
                refine kp_if_eq (tgt := 151) C dX9_least_129 (by decide) hF (fun hF => ?_) (fun hF => ?_)
                · refine kp_iinc (k := 5) (lv' := fun x5_2 => [(5, kp_iv x5_2), (6, kp_iv x6_0), (0, .ref (kp_ad X 0)), (2, kp_iv a2), (3, kp_iv x3_0), (4, kp_iv x4_3)]) C dX9_least_151 hl rfl (by decide) (fun _ => rfl) hF (fun x5_2 ls hl hF => ?_)
                  refine kp_goto (tgt := 81) C dX9_least_154 (by decide) ?_
                  exact ih _ _ _ k _ _ _ h (lv_sub hl [2, 3, 4, 5, 0] rfl) K hF
                · refine kp_aload_n C dX9_least_132 rfl (lv_at hl 1 rfl) ?_
                  refine kp_iconst C dX9_least_133 ?_
                  refine kp_iload_n C dX9_least_134 rfl (lv_at hl 3 rfl) ?_
                  refine kp_iload C dX9_least_135 (lv_at hl 5 rfl) ?_
                  refine kp_iconst C dX9_least_137 ?_
                  refine kp_xixor C dX9_least_138 ?_
                  refine kp_xiand C dX9_least_139 ?_
                  obtain ⟨r_3, σ_8, hc, hF⟩ := kp_bd_s hF
                  refine kp_ci h (kp_rV (k := 0) (As := [kp_iv 0, kp_iv (kp_and x3_0 (kp_xor x5_1 (-1)))]) (rest := []) C G h (kc_X9_shareOf  hc) q3_155 q3_157 q0_2_7 q1_1 q3_158 ⟨rfl, hd_X9_shareOf⟩ (by decide) kp_lK0 rfl rfl hl.1 rfl (Nat.le_of_ble_eq_true rfl) dX9_least_140) (fun H locs h => ?_)
                  refine kp_iload_n C dX9_least_143 rfl (lv_at hl 2 rfl) ?_
                  refine kp_icmp_gt (tgt := 151) C dX9_least_144 (by decide) hF (fun hF => ?_) (fun hF => ?_)
                  · refine kp_iinc (k := 5) (lv' := fun x5_3 => [(5, kp_iv x5_3), (6, kp_iv x6_0), (0, .ref (kp_ad X 0)), (2, kp_iv a2), (3, kp_iv x3_0), (4, kp_iv x4_3)]) C dX9_least_151 hl rfl (by decide) (fun _ => rfl) hF (fun x5_3 ls hl hF => ?_)
                    refine kp_goto (tgt := 81) C dX9_least_154 (by decide) ?_
                    exact ih _ _ _ k _ _ _ h (lv_sub hl [2, 3, 4, 5, 0] rfl) K hF
                  · refine kp_iload C dX9_least_147 (lv_at hl 5 rfl) ?_
                    refine kp_istore (lv' := fun x4_5 => [(4, kp_iv x4_5), (6, kp_iv x6_0), (0, .ref (kp_ad X 0)), (2, kp_iv a2), (3, kp_iv x3_0), (5, kp_iv x5_1)]) C dX9_least_149 hl (by decide) (fun _ => rfl) hF (fun x4_5 ls hl hF => ?_)
                    refine kp_iinc (k := 5) (lv' := fun x5_4 => [(5, kp_iv x5_4), (4, kp_iv x4_5), (6, kp_iv x6_0), (0, .ref (kp_ad X 0)), (2, kp_iv a2), (3, kp_iv x3_0)]) C dX9_least_151 hl rfl (by decide) (fun _ => rfl) hF (fun x5_4 ls hl hF => ?_)
                    refine kp_goto (tgt := 81) C dX9_least_154 (by decide) ?_
                    exact ih _ _ _ k _ _ _ h (lv_sub hl [3, 4, 5, 1, 0] rfl) K hF
              clear ej125
              obtain ⟨j124, ej124, hF⟩ := kp_jn_s hF
              have J124 : ∀ _ : Unit, ∀ (H : Heap) (locs : List Loc) (ls : Array Slot), kp_H X kp_lK 55 s σ_6 H locs → lv_has ls 7 [(0, .ref (kp_ad X 0)), (2, kp_iv a2), (3, kp_iv x3_0), (4, kp_iv x4_3), (5, kp_iv x5_1)] → j124 () = some (r, σ') → W p l e (kp_rm 6) s m args below meth c H locs 0 0 (MQ below (kp_Qi X kp_lK 55 σ' r) args s 0 0 (kp_A X 55)) (F0 m 124 ls []) := by
                intro _ H locs ls h hl hF
                rw [ej124] at hF
                refine kp_iconst C dX9_least_124 ?_
                exact J125 _ _ _ _ h (lv_sub hl [0, 1, 2, 3, 4] rfl) hF
              clear ej124
              refine kp_if_ne (tgt := 124) C dX9_least_104 (by decide) hF (fun hF => ?_) (fun hF => ?_)
              · exact J124 () _ _ _ h (lv_sub hl [0, 1, 2, 3, 4] rfl) hF
              · refine kp_iload C dX9_least_107 (lv_at hl 4 rfl) ?_
                refine kp_ci h (kp_rS (As := [kp_iv x5_1]) (rest := []) C G h (kc_bitCount (x := x5_1)) q3_130 q3_131 q1_19 q3_132 hd_J6_bitCount_0f7a4 (by decide) rfl hl.1 rfl (Nat.le_of_ble_eq_true rfl) dX9_least_109) (fun H locs h => ?_)
                refine kp_iload C dX9_least_112 (lv_at hl 3 rfl) ?_
                refine kp_ci h (kp_rS (As := [kp_iv x4_3]) (rest := [kp_iv (kp_bc x5_1)]) C G h (kc_bitCount (x := x4_3)) q3_130 q3_131 q1_19 q3_132 hd_J6_bitCount_0f7a4 (by decide) rfl hl.1 rfl (Nat.le_of_ble_eq_true rfl) dX9_least_114) (fun H locs h => ?_)
                refine kp_icmp_ge (tgt := 124) C dX9_least_117 (by decide) hF (fun hF => ?_) (fun hF => ?_)
                · exact J124 () _ _ _ h (lv_sub hl [0, 1, 2, 3, 4] rfl) hF
                · refine kp_iconst C dX9_least_120 ?_
                  refine kp_goto (tgt := 125) C dX9_least_121 (by decide) ?_
                  exact J125 _ _ _ _ h (lv_sub hl [0, 1, 2, 3, 4] rfl) hF
        refine L81 kp_fu _ _ _ _ _ _ _ h (lv_sub hl [2, 3, 4, 1, 0] rfl) (fun x4_4 σ_7 H locs ls h hl hF => ?_) hF
        clear L81
        refine kp_iload C dX9_least_157 (lv_at hl 0 rfl) ?_
        exact kp_reti C hr hlk G h dX9_least_159 hF
      · refine kp_bipush C dX9_least_19 rfl ?_
        exact kp_reti C hr hlk G h dX9_least_21 hF
  · refine kp_iconst C dX9_least_7 ?_
    exact kp_reti C hr hlk G h dX9_least_8 hF
def kl_X9_eased_31 (a1 : Int) (a2 : Int) : Nat → Int → Int → kp_W → (Int → kp_W → kp_R) → kp_R
  | 0, _, _, _, _ => none
  | n + 1, x3_1, x4_1, σ_3, k => kp_ls x4_1 (σ_3 11 5) (kp_bd (kf_X3_isLoose x4_1 σ_3) (fun r_2 σ_5 => kp_eq r_2 0 (kp_lt (x4_1 + 1) (fun x4_2 => kl_X9_eased_31 a1 a2 n x3_1 x4_2 σ_5 k)) (kp_ck (0 ≤ x4_1 ∧ x4_1 < 10) (kp_bd (kf_X9_isUnder (σ_5 12 (Int.toNat x4_1)) 2 σ_5) (fun r_3 σ_6 => kp_eq r_3 0 (kp_lt (x4_1 + 1) (fun x4_4 => kl_X9_eased_31 a1 a2 n x3_1 x4_4 σ_6 k)) (kp_ck (0 ≤ x4_1 ∧ x4_1 < 10) (kp_lt ((σ_6 15 (Int.toNat x4_1)) : Int) (fun x5_0 => kp_bd (kf_X9_heardInDayOf x4_1 a1 σ_6) (fun r_4 σ_7 => kp_lt ((x3_1 + r_4) : Int) (fun x3_3 => kp_ck (kp_in 1 ∧ kp_in (x5_0 - a2)) (kp_ck (0 ≤ x4_1 ∧ x4_1 < 10) (kp_lt (kp_up σ_7 15 (Int.toNat x4_1) (kp_max 1 (x5_0 - a2))) (fun σ_8 => kp_bd (kf_X9_heardInDayOf x4_1 a1 σ_8) (fun r_5 σ_9 => kp_lt ((x3_3 - r_5) : Int) (fun x3_4 => kp_ck (0 ≤ x4_1 ∧ x4_1 < 10) (kp_lt (kp_up σ_9 15 (Int.toNat x4_1) x5_0) (fun σ_10 => kp_lt (x4_1 + 1) (fun x4_3 => kl_X9_eased_31 a1 a2 n x3_4 x4_3 σ_10 k)))))))))))))))))) (k x3_1 σ_3)
def kf_X9_eased  (a1 : Int) (a2 : Int) (σ_0 : kp_W) : kp_R :=
  kp_bd (kf_X9_isPlace a1 σ_0) (fun r_0 σ_1 => kp_eq r_0 0 (some ((-1), σ_1)) (kp_ls a2 0 (some ((-2), σ_1)) (kp_ls 40 a2 (some ((-2), σ_1)) (kp_bd (kf_X9_settle σ_1) (fun r_1 σ_2 => kp_lt (0 : Int) (fun x3_0 => kp_lt (0 : Int) (fun x4_0 => kl_X9_eased_31 a1 a2 kp_fu x3_0 x4_0 σ_2 (fun (x3_2 : Int) (σ_4 : kp_W) => some (x3_2, σ_4)))))))))
set_option maxRecDepth 100000 in
set_option maxHeartbeats 4000000 in
theorem kc_X9_eased {l : Launch} {X : kp_X} {a1 : Int} {a2 : Int}  {σ_0 σ' : kp_W} {r : Int}   (hF : (kf_X9_eased a1 a2 σ_0) = some (r, σ')) : kp_Met l yX9_eased cX9_eased 6 (some .int) 6 X kp_lK 55 σ_0 [.ref (kp_ad X 0), kp_iv a1, kp_iv a2] (kp_Qi X kp_lK 55 σ' r) := by
  refine kp_body pnX9 (Nat.le_of_ble_eq_true rfl) ?_
  intro p e s m args below meth c ls C hr hlk G h hl
  unfold kf_X9_eased at hF
  have hl : lv_has ls 6 [(0, .ref (kp_ad X 0)), (1, kp_iv a1), (2, kp_iv a2)] := hl
  refine kp_iload_n C dX9_eased_0 rfl (lv_at hl 1 rfl) ?_
  obtain ⟨r_0, σ_1, hc, hF⟩ := kp_bd_s hF
  refine kp_ci h (kp_rS (As := [kp_iv a1]) (rest := []) C G h (kc_X9_isPlace  hc) q3_33 q3_34 q1_1 q3_35 hd_X9_isPlace (by decide) rfl hl.1 rfl (Nat.le_of_ble_eq_true rfl) dX9_eased_1) (fun H locs h => ?_)
  refine kp_if_ne (tgt := 9) C dX9_eased_4 (by decide) hF (fun hF => ?_) (fun hF => ?_)
  · refine kp_iload_n C dX9_eased_9 rfl (lv_at hl 2 rfl) ?_
    refine kp_if_lt (tgt := 19) C dX9_eased_10 (by decide) hF (fun hF => ?_) (fun hF => ?_)
    · refine kp_bipush C dX9_eased_19 rfl ?_
      exact kp_reti C hr hlk G h dX9_eased_21 hF
    · refine kp_iload_n C dX9_eased_13 rfl (lv_at hl 2 rfl) ?_
      refine kp_bipush C dX9_eased_14 rfl ?_
      refine kp_icmp_le (tgt := 22) C dX9_eased_16 (by decide) hF (fun hF => ?_) (fun hF => ?_)
      · refine kp_aload_n C dX9_eased_22 rfl (lv_at hl 0 rfl) ?_
        obtain ⟨r_1, σ_2, hc, hF⟩ := kp_bd_s hF
        refine kp_cv h (kp_rV (k := 0) (As := []) (rest := []) C G h (kc_X9_settle  hc) q2_184 q2_186 q0_1_9 q1_1 q2_187 ⟨rfl, hd_X9_settle⟩ (by decide) kp_lK0 rfl rfl hl.1 rfl (Nat.le_of_ble_eq_true rfl) dX9_eased_23) (fun H locs h => ?_)
        refine kp_iconst C dX9_eased_26 ?_
        refine kp_istore_n (lv' := fun x3_0 => [(3, kp_iv x3_0), (0, .ref (kp_ad X 0)), (1, kp_iv a1), (2, kp_iv a2)]) C dX9_eased_27 rfl hl (by decide) (fun _ => rfl) hF (fun x3_0 ls hl hF => ?_)
        refine kp_iconst C dX9_eased_28 ?_
        refine kp_istore (lv' := fun x4_0 => [(4, kp_iv x4_0), (3, kp_iv x3_0), (0, .ref (kp_ad X 0)), (1, kp_iv a1), (2, kp_iv a2)]) C dX9_eased_29 hl (by decide) (fun _ => rfl) hF (fun x4_0 ls hl hF => ?_)
        have L31 : ∀ (n : Nat) (x3_1 : Int) (x4_1 : Int) (σ_3 : kp_W) (k : Int → kp_W → kp_R) (H : Heap) (locs : List Loc) (ls : Array Slot), kp_H X kp_lK 55 s σ_3 H locs → lv_has ls 6 [(0, .ref (kp_ad X 0)), (1, kp_iv a1), (2, kp_iv a2), (3, kp_iv x3_1), (4, kp_iv x4_1)] → (∀ (x3_2 : Int) (σ_4 : kp_W) (H : Heap) (locs : List Loc) (ls : Array Slot), kp_H X kp_lK 55 s σ_4 H locs → lv_has ls 6 [(3, kp_iv x3_2)] → k x3_2 σ_4 = some (r, σ') → W p l e (kp_rm 6) s m args below meth c H locs 0 0 (MQ below (kp_Qi X kp_lK 55 σ' r) args s 0 0 (kp_A X 55)) (F0 m 161 ls [])) → kl_X9_eased_31 a1 a2 n x3_1 x4_1 σ_3 k = some (r, σ') → W p l e (kp_rm 6) s m args below meth c H locs 0 0 (MQ below (kp_Qi X kp_lK 55 σ' r) args s 0 0 (kp_A X 55)) (F0 m 31 ls []) := by
          intro n
          induction n with
          | zero =>
            intro x3_1 x4_1 σ_3 k H locs ls h hl K hF
            rw [kl_X9_eased_31] at hF
            cases hF
          | succ n ih =>
            intro x3_1 x4_1 σ_3 k H locs ls h hl K hF
            rw [kl_X9_eased_31] at hF
            refine kp_iload C dX9_eased_31 (lv_at hl 4 rfl) ?_
            refine kp_aload_n C dX9_eased_33 rfl (lv_at hl 0 rfl) ?_
            refine kp_getr C G h kp_lK0 rfl inWX9 (j := 0) (by decide) q2_12 rfl dX9_eased_34 ?_
            refine kp_getr C G h kp_lK1 rfl inWX1 (j := 3) (by decide) q1_162 rfl dX9_eased_37 ?_
            refine kp_geti C G h kp_lK11 rfl inWX3 (j := 5) (by decide) q1_118 rfl dX9_eased_40 ?_
            refine kp_icmp_ge (tgt := 161) C dX9_eased_43 (by decide) hF (fun hF => ?_) (fun hF => ?_)
            · exact K _ _ _ _ _ h (lv_sub hl [3] rfl) hF
            · refine kp_aload_n C dX9_eased_46 rfl (lv_at hl 0 rfl) ?_
              refine kp_getr C G h kp_lK0 rfl inWX9 (j := 0) (by decide) q2_12 rfl dX9_eased_47 ?_
              refine kp_getr C G h kp_lK1 rfl inWX1 (j := 3) (by decide) q1_162 rfl dX9_eased_50 ?_
              refine kp_iload C dX9_eased_53 (lv_at hl 4 rfl) ?_
              obtain ⟨r_2, σ_5, hc, hF⟩ := kp_bd_s hF
              refine kp_ci h (kp_rV (k := 11) (As := [kp_iv x4_1]) (rest := []) C G h (kc_X3_isLoose  hc) q3_58 q3_59 q3_60 q1_6 q3_61 ⟨rfl, hd_X3_isLoose⟩ (by decide) kp_lK11 rfl rfl hl.1 rfl (Nat.le_of_ble_eq_true rfl) dX9_eased_55) (fun H locs h => ?_)
              refine kp_if_eq (tgt := 155) C dX9_eased_58 (by decide) hF (fun hF => ?_) (fun hF => ?_)
              · refine kp_iinc (k := 4) (lv' := fun x4_2 => [(4, kp_iv x4_2), (0, .ref (kp_ad X 0)), (1, kp_iv a1), (2, kp_iv a2), (3, kp_iv x3_1)]) C dX9_eased_155 hl rfl (by decide) (fun _ => rfl) hF (fun x4_2 ls hl hF => ?_)
                refine kp_goto (tgt := 31) C dX9_eased_158 (by decide) ?_
                exact ih _ _ _ k _ _ _ h (lv_sub hl [1, 2, 3, 4, 0] rfl) K hF
              · refine kp_aload_n C dX9_eased_61 rfl (lv_at hl 0 rfl) ?_
                refine kp_getr C G h kp_lK0 rfl inWX9 (j := 0) (by decide) q2_12 rfl dX9_eased_62 ?_
                refine kp_getr C G h kp_lK1 rfl inWX1 (j := 3) (by decide) q1_162 rfl dX9_eased_65 ?_
                refine kp_getr C G h kp_lK11 rfl inWX3 (j := 0) (by decide) q1_104 rfl dX9_eased_68 ?_
                refine kp_iload C dX9_eased_71 (lv_at hl 4 rfl) ?_
                refine kp_iald C G h (n := 10) kp_lK12 (by decide) dX9_eased_73 hF (fun hF => ?_)
                refine kp_iconst C dX9_eased_74 ?_
                obtain ⟨r_3, σ_6, hc, hF⟩ := kp_bd_s hF
                refine kp_ci h (kp_rS (As := [kp_iv (σ_5 12 (Int.toNat x4_1)), kp_iv 2]) (rest := []) C G h (kc_X9_isUnder  hc) q3_76 q3_77 q1_1 q3_78 hd_X9_isUnder (by decide) rfl hl.1 rfl (Nat.le_of_ble_eq_true rfl) dX9_eased_75) (fun H locs h => ?_)
                refine kp_if_ne (tgt := 84) C dX9_eased_78 (by decide) hF (fun hF => ?_) (fun hF => ?_)
                · refine kp_aload_n C dX9_eased_84 rfl (lv_at hl 0 rfl) ?_
                  refine kp_getr C G h kp_lK0 rfl inWX9 (j := 0) (by decide) q2_12 rfl dX9_eased_85 ?_
                  refine kp_getr C G h kp_lK1 rfl inWX1 (j := 3) (by decide) q1_162 rfl dX9_eased_88 ?_
                  refine kp_getr C G h kp_lK11 rfl inWX3 (j := 3) (by decide) q1_114 rfl dX9_eased_91 ?_
                  refine kp_iload C dX9_eased_94 (lv_at hl 4 rfl) ?_
                  refine kp_iald C G h (n := 10) kp_lK15 (by decide) dX9_eased_96 hF (fun hF => ?_)
                  refine kp_istore (lv' := fun x5_0 => [(5, kp_iv x5_0), (0, .ref (kp_ad X 0)), (1, kp_iv a1), (2, kp_iv a2), (3, kp_iv x3_1), (4, kp_iv x4_1)]) C dX9_eased_97 hl (by decide) (fun _ => rfl) hF (fun x5_0 ls hl hF => ?_)
                  refine kp_iload_n C dX9_eased_99 rfl (lv_at hl 4 rfl) ?_
                  refine kp_aload_n C dX9_eased_100 rfl (lv_at hl 1 rfl) ?_
                  refine kp_iload C dX9_eased_101 (lv_at hl 5 rfl) ?_
                  refine kp_iload_n C dX9_eased_103 rfl (lv_at hl 2 rfl) ?_
                  obtain ⟨r_4, σ_7, hc, hF⟩ := kp_bd_s hF
                  refine kp_ci h (kp_rV (k := 0) (As := [kp_iv x4_1, kp_iv a1]) (rest := [kp_iv x3_1]) C G h (kc_X9_heardInDayOf  hc) q3_183 q3_185 q0_2_11 q1_1 q3_186 ⟨rfl, hd_X9_heardInDayOf⟩ (by decide) kp_lK0 rfl rfl hl.1 rfl (Nat.le_of_ble_eq_true rfl) dX9_eased_104) (fun H locs h => ?_)
                  refine kp_iadd C dX9_eased_107 ?_
                  refine kp_istore_n (lv' := fun x3_3 => [(3, kp_iv x3_3), (5, kp_iv x5_0), (0, .ref (kp_ad X 0)), (1, kp_iv a1), (2, kp_iv a2), (4, kp_iv x4_1)]) C dX9_eased_108 rfl hl (by decide) (fun _ => rfl) hF (fun x3_3 ls hl hF => ?_)
                  refine kp_aload_n C dX9_eased_109 rfl (lv_at hl 2 rfl) ?_
                  refine kp_getr C G h kp_lK0 rfl inWX9 (j := 0) (by decide) q2_12 rfl dX9_eased_110 ?_
                  refine kp_getr C G h kp_lK1 rfl inWX1 (j := 3) (by decide) q1_162 rfl dX9_eased_113 ?_
                  refine kp_getr C G h kp_lK11 rfl inWX3 (j := 3) (by decide) q1_114 rfl dX9_eased_116 ?_
                  refine kp_iload C dX9_eased_119 (lv_at hl 5 rfl) ?_
                  refine kp_iconst C dX9_eased_121 ?_
                  refine kp_iload C dX9_eased_122 (lv_at hl 1 rfl) ?_
                  refine kp_iload_n C dX9_eased_124 rfl (lv_at hl 4 rfl) ?_
                  refine kp_isub C dX9_eased_125 ?_
                  refine kp_mmax C hl.1 q3_75 q2_237 q1_18 q2_238 (by decide) (Nat.le_of_ble_eq_true rfl) dX9_eased_126 hF (fun hF => ?_)
                  refine kp_iast C G h (n := 10) kp_lK15 (by decide) dX9_eased_129 hF (fun σ_8 H locs h hF => ?_)
                  refine kp_iload_n C dX9_eased_130 rfl (lv_at hl 0 rfl) ?_
                  refine kp_aload_n C dX9_eased_131 rfl (lv_at hl 2 rfl) ?_
                  refine kp_iload C dX9_eased_132 (lv_at hl 5 rfl) ?_
                  refine kp_iload_n C dX9_eased_134 rfl (lv_at hl 3 rfl) ?_
                  obtain ⟨r_5, σ_9, hc, hF⟩ := kp_bd_s hF
                  refine kp_ci h (kp_rV (k := 0) (As := [kp_iv x4_1, kp_iv a1]) (rest := [kp_iv x3_3]) C G h (kc_X9_heardInDayOf  hc) q3_183 q3_185 q0_2_11 q1_1 q3_186 ⟨rfl, hd_X9_heardInDayOf⟩ (by decide) kp_lK0 rfl rfl hl.1 rfl (Nat.le_of_ble_eq_true rfl) dX9_eased_135) (fun H locs h => ?_)
                  refine kp_isub C dX9_eased_138 ?_
                  refine kp_istore_n (lv' := fun x3_4 => [(3, kp_iv x3_4), (5, kp_iv x5_0), (0, .ref (kp_ad X 0)), (1, kp_iv a1), (2, kp_iv a2), (4, kp_iv x4_1)]) C dX9_eased_139 rfl hl (by decide) (fun _ => rfl) hF (fun x3_4 ls hl hF => ?_)
                  refine kp_aload_n C dX9_eased_140 rfl (lv_at hl 2 rfl) ?_
                  refine kp_getr C G h kp_lK0 rfl inWX9 (j := 0) (by decide) q2_12 rfl dX9_eased_141 ?_
                  refine kp_getr C G h kp_lK1 rfl inWX1 (j := 3) (by decide) q1_162 rfl dX9_eased_144 ?_
                  refine kp_getr C G h kp_lK11 rfl inWX3 (j := 3) (by decide) q1_114 rfl dX9_eased_147 ?_
                  refine kp_iload C dX9_eased_150 (lv_at hl 5 rfl) ?_
                  refine kp_iload C dX9_eased_152 (lv_at hl 1 rfl) ?_
                  refine kp_iast C G h (n := 10) kp_lK15 (by decide) dX9_eased_154 hF (fun σ_10 H locs h hF => ?_)
                  refine kp_iinc (k := 5) (lv' := fun x4_3 => [(4, kp_iv x4_3), (3, kp_iv x3_4), (5, kp_iv x5_0), (0, .ref (kp_ad X 0)), (1, kp_iv a1), (2, kp_iv a2)]) C dX9_eased_155 hl rfl (by decide) (fun _ => rfl) hF (fun x4_3 ls hl hF => ?_)
                  refine kp_goto (tgt := 31) C dX9_eased_158 (by decide) ?_
                  exact ih _ _ _ k _ _ _ h (lv_sub hl [3, 4, 5, 1, 0] rfl) K hF
                · refine kp_goto (tgt := 155) C dX9_eased_81 (by decide) ?_
                  refine kp_iinc (k := 4) (lv' := fun x4_4 => [(4, kp_iv x4_4), (0, .ref (kp_ad X 0)), (1, kp_iv a1), (2, kp_iv a2), (3, kp_iv x3_1)]) C dX9_eased_155 hl rfl (by decide) (fun _ => rfl) hF (fun x4_4 ls hl hF => ?_)
                  refine kp_goto (tgt := 31) C dX9_eased_158 (by decide) ?_
                  exact ih _ _ _ k _ _ _ h (lv_sub hl [1, 2, 3, 4, 0] rfl) K hF
        refine L31 kp_fu _ _ _ _ _ _ _ h (lv_sub hl [2, 3, 4, 1, 0] rfl) (fun x3_2 σ_4 H locs ls h hl hF => ?_) hF
        clear L31
        refine kp_iload_n C dX9_eased_161 rfl (lv_at hl 0 rfl) ?_
        exact kp_reti C hr hlk G h dX9_eased_162 hF
      · refine kp_bipush C dX9_eased_19 rfl ?_
        exact kp_reti C hr hlk G h dX9_eased_21 hF
  · refine kp_iconst C dX9_eased_7 ?_
    exact kp_reti C hr hlk G h dX9_eased_8 hF
