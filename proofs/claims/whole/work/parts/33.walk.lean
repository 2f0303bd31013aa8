-- by program (wip/whole/gen/drive.py)
def kl_X10_heardAll_5 (a1 : Int) (a2 : Int) : Nat → Int → Int → kp_W → (Int → kp_W → kp_R) → kp_R
  | 0, _, _, _, _ => none
  | n + 1, x3_1, x4_1, σ_1, k => kp_ls x4_1 40 (kp_bd (kf_X10_heardOf a1 a2 x4_1 σ_1) (fun r_0 σ_3 => kp_lt ((x3_1 + r_0) : Int) (fun x3_3 => kp_lt (x4_1 + 1) (fun x4_2 => kl_X10_heardAll_5 a1 a2 n x3_3 x4_2 σ_3 k)))) (k x3_1 σ_1)
def kf_X10_heardAll  (a1 : Int) (a2 : Int) (σ_0 : kp_W) : kp_R :=
  kp_lt (0 : Int) (fun x3_0 => kp_lt (0 : Int) (fun x4_0 => kl_X10_heardAll_5 a1 a2 kp_fu x3_0 x4_0 σ_0 (fun (x3_2 : Int) (σ_2 : kp_W) => some (x3_2, σ_2))))
set_option maxRecDepth 100000 in
set_option maxHeartbeats 4000000 in
theorem kc_X10_heardAll {l : Launch} {X : kp_X} {a1 : Int} {a2 : Int}  {σ_0 σ' : kp_W} {r : Int}   (hF : (kf_X10_heardAll a1 a2 σ_0) = some (r, σ')) : kp_Met l yX10_heardAll cX10_heardAll 5 (some .int) 4 X kp_lM 10 σ_0 [.ref (kp_ad X 0), kp_iv a1, kp_iv a2] (kp_Qi X kp_lM 10 σ' r) := by
  refine kp_body pnX10 (Nat.le_of_ble_eq_true rfl) ?_
  intro p e s m args below meth c ls C hr hlk G h hl
  unfold kf_X10_heardAll at hF
  have hl : lv_has ls 5 [(0, .ref (kp_ad X 0)), (1, kp_iv a1), (2, kp_iv a2)] := hl
  refine kp_iconst C dX10_heardAll_0 ?_
  refine kp_istore_n (lv' := fun x3_0 => [(3, kp_iv x3_0), (0, .ref (kp_ad X 0)), (1, kp_iv a1), (2, kp_iv a2)]) C dX10_heardAll_1 rfl hl (by decide) (fun _ => rfl) hF (fun x3_0 ls hl hF => ?_)
  refine kp_iconst C dX10_heardAll_2 ?_
  refine kp_istore (lv' := fun x4_0 => [(4, kp_iv x4_0), (3, kp_iv x3_0), (0, .ref (kp_ad X 0)), (1, kp_iv a1), (2, kp_iv a2)]) C dX10_heardAll_3 hl (by decide) (fun _ => rfl) hF (fun x4_0 ls hl hF => ?_)
  have L5 : ∀ (n : Nat) (x3_1 : Int) (x4_1 : Int) (σ_1 : kp_W) (k : Int → kp_W → kp_R) (H : Heap) (locs : List Loc) (ls : Array Slot), kp_H X kp_lM 10 s σ_1 H locs → lv_has ls 5 [(0, .ref (kp_ad X 0)), (1, kp_iv a1), (2, kp_iv a2), (3, kp_iv x3_1), (4, kp_iv x4_1)] → (∀ (x3_2 : Int) (σ_2 : kp_W) (H : Heap) (locs : List Loc) (ls : Array Slot), kp_H X kp_lM 10 s σ_2 H locs → lv_has ls 5 [(3, kp_iv x3_2)] → k x3_2 σ_2 = some (r, σ') → W p l e (kp_rm 4) s m args below meth c H locs 0 0 (MQ below (kp_Qi X kp_lM 10 σ' r) args s 0 0 (kp_A X 10)) (F0 m 29 ls [])) → kl_X10_heardAll_5 a1 a2 n x3_1 x4_1 σ_1 k = some (r, σ') → W p l e (kp_rm 4) s m args below meth c H locs 0 0 (MQ below (kp_Qi X kp_lM 10 σ' r) args s 0 0 (kp_A X 10)) (F0 m 5 ls []) := by
    intro n
    induction n with
    | zero =>
      intro x3_1 x4_1 σ_1 k H locs ls h hl K hF
      rw [kl_X10_heardAll_5] at hF
      cases hF
    | succ n ih =>
      intro x3_1 x4_1 σ_1 k H locs ls h hl K hF
      rw [kl_X10_heardAll_5] at hF
      refine kp_iload C dX10_heardAll_5 (lv_at hl 4 rfl) ?_
      refine kp_bipush C dX10_heardAll_7 rfl ?_
      refine kp_icmp_ge (tgt := 29) C dX10_heardAll_9 (by decide) hF (fun hF => ?_) (fun hF => ?_)
      · exact K _ _ _ _ _ h (lv_sub hl [3] rfl) hF
      · refine kp_iload_n C dX10_heardAll_12 rfl (lv_at hl 3 rfl) ?_
        refine kp_aload_n C dX10_heardAll_13 rfl (lv_at hl 0 rfl) ?_
        refine kp_iload_n C dX10_heardAll_14 rfl (lv_at hl 1 rfl) ?_
        refine kp_iload_n C dX10_heardAll_15 rfl (lv_at hl 2 rfl) ?_
        refine kp_iload C dX10_heardAll_16 (lv_at hl 4 rfl) ?_
        obtain ⟨r_0, σ_3, hc, hF⟩ := kp_bd_s hF
        refine kp_ci h (kp_rV (k := 0) (As := [kp_iv a1, kp_iv a2, kp_iv x4_1]) (rest := [kp_iv x3_1]) C G h (kc_X10_heardOf  hc) q5_74 q5_76 q0_4_13 q1_11 q5_77 ⟨rfl, hd_X10_heardOf⟩ (by decide) kp_lM0 rfl rfl hl.1 rfl (Nat.le_of_ble_eq_true rfl) dX10_heardAll_18) (fun H locs h => ?_)
        refine kp_iadd C dX10_heardAll_21 ?_
        refine kp_istore_n (lv' := fun x3_3 => [(3, kp_iv x3_3), (0, .ref (kp_ad X 0)), (1, kp_iv a1), (2, kp_iv a2), (4, kp_iv x4_1)]) C dX10_heardAll_22 rfl hl (by decide) (fun _ => rfl) hF (fun x3_3 ls hl hF => ?_)
        refine kp_iinc (k := 4) (lv' := fun x4_2 => [(4, kp_iv x4_2), (3, kp_iv x3_3), (0, .ref (kp_ad X 0)), (1, kp_iv a1), (2, kp_iv a2)]) C dX10_heardAll_23 hl rfl (by decide) (fun _ => rfl) hF (fun x4_2 ls hl hF => ?_)
        refine kp_goto (tgt := 5) C dX10_heardAll_26 (by decide) ?_
        exact ih _ _ _ k _ _ _ h (lv_sub hl [2, 3, 4, 1, 0] rfl) K hF
  refine L5 kp_fu _ _ _ _ _ _ _ h (lv_sub hl [2, 3, 4, 1, 0] rfl) (fun x3_2 σ_2 H locs ls h hl hF => ?_) hF
  clear L5
  refine kp_iload_n C dX10_heardAll_29 rfl (lv_at hl 0 rfl) ?_
  exact kp_reti C hr hlk G h dX10_heardAll_30 hF
def kf_X10_heard  (a1 : Int) (a2 : Int) (σ_0 : kp_W) : kp_R :=
  kp_bd (kf_X10_isPlace a1 σ_0) (fun r_0 σ_1 => kp_eq r_0 0 (some ((-1), σ_1)) (kp_jn (fun (σ_2 : kp_W) => kp_bd (kf_X10_goes σ_2) (fun r_1 σ_3 => kp_eq a2 (-1) (kp_bd (kf_X10_moving σ_3) (fun r_4 σ_6 => kp_bd (kf_X10_heardAll r_4 a1 σ_6) (fun r_5 σ_7 => some (r_5, σ_7)))) (kp_bd (kf_X10_moving σ_3) (fun r_2 σ_4 => kp_bd (kf_X10_heardOf r_2 a1 a2 σ_4) (fun r_3 σ_5 => some (r_3, σ_5)))))) (fun j21 => kp_eq a2 (-1) (j21 σ_1) (kp_bd (kf_X10_isMinute a2 σ_1) (fun r_6 σ_8 => kp_eq r_6 0 (some ((-1), σ_8)) (j21 σ_8))))))
set_option maxRecDepth 100000 in
set_option maxHeartbeats 4000000 in
theorem kc_X10_heard {l : Launch} {X : kp_X} {a1 : Int} {a2 : Int}  {σ_0 σ' : kp_W} {r : Int}   (hF : (kf_X10_heard a1 a2 σ_0) = some (r, σ')) : kp_Met l yX10_heard cX10_heard 3 (some .int) 6 X kp_lM 10 σ_0 [.ref (kp_ad X 0), kp_iv a1, kp_iv a2] (kp_Qi X kp_lM 10 σ' r) := by
  refine kp_body pnX10 (Nat.le_of_ble_eq_true rfl) ?_
  intro p e s m args below meth c ls C hr hlk G h hl
  unfold kf_X10_heard at hF
  have hl : lv_has ls 3 [(0, .ref (kp_ad X 0)), (1, kp_iv a1), (2, kp_iv a2)] := hl
  refine kp_iload_n C dX10_heard_0 rfl (lv_at hl 1 rfl) ?_
  obtain ⟨r_0, σ_1, hc, hF⟩ := kp_bd_s hF
  refine kp_ci h (kp_rS (As := [kp_iv a1]) (rest := []) C G h (kc_X10_isPlace  hc) q4_232 q4_233 q1_11 q4_234 hd_X10_isPlace (by decide) rfl hl.1 rfl (Nat.le_of_ble_eq_true rfl) dX10_heard_1) (fun H locs h => ?_)
  refine kp_if_eq (tgt := 19) C dX10_heard_4 (by decide) hF (fun hF => ?_) (fun hF => ?_)
  · refine kp_iconst C dX10_heard_19 ?_
    exact kp_reti C hr hlk G h dX10_heard_20 hF
  · refine kp_iload_n C dX10_heard_7 rfl (lv_at hl 2 rfl) ?_
    refine kp_iconst C dX10_heard_8 ?_
    obtain ⟨j21, ej21, hF⟩ := kp_jn_s hF
    have J21 : ∀ (σ_2 : kp_W), ∀ (H : Heap) (locs : List Loc) (ls : Array Slot), kp_H X kp_lM 10 s σ_2 H locs → lv_has ls 3 [(0, .ref (kp_ad X 0)), (1, kp_iv a1), (2, kp_iv a2)] → j21 σ_2 = some (r, σ') → W p l e (kp_rm 6) s m args below meth c H locs 0 0 (MQ below (kp_Qi X kp_lM 10 σ' r) args s 0 0 (kp_A X 10)) (F0 m 21 ls []) := by
      intro σ_2 H locs ls h hl hF
      rw [ej21] at hF
      refine kp_aload_n C dX10_heard_21 rfl (lv_at hl 0 rfl) ?_
      obtain ⟨r_1, σ_3, hc, hF⟩ := kp_bd_s hF
      refine kp_cv h (kp_rV (k := 0) (As := []) (rest := []) C G h (kc_X10_goes  hc) q5_11 q5_13 q0_4_0 q1_11 q5_14 ⟨rfl, hd_X10_goes⟩ (by decide) kp_lM0 rfl rfl hl.1 rfl (Nat.le_of_ble_eq_true rfl) dX10_heard_22) (fun H locs h => ?_)
      refine kp_iload_n C dX10_heard_25 rfl (lv_at hl 2 rfl) ?_
      refine kp_iconst C dX10_heard_26 ?_
      refine kp_icmp_ne (tgt := 42) C dX10_heard_27 (by decide) hF (fun hF => ?_) (fun hF => ?_)
      · refine kp_aload_n C dX10_heard_42 rfl (lv_at hl 0 rfl) ?_
        refine kp_aload_n C dX10_heard_43 rfl (lv_at hl 0 rfl) ?_
        obtain ⟨r_2, σ_4, hc, hF⟩ := kp_bd_s hF
        refine kp_ci h (kp_rV (k := 0) (As := []) (rest := [.ref (kp_ad X 0)]) C G h (kc_X10_moving  hc) q5_66 q5_68 q0_4_11 q1_11 q5_69 ⟨rfl, hd_X10_moving⟩ (by decide) kp_lM0 rfl rfl hl.1 rfl (Nat.le_of_ble_eq_true rfl) dX10_heard_44) (fun H locs h => ?_)
        refine kp_iload_n C dX10_heard_47 rfl (lv_at hl 1 rfl) ?_
        refine kp_iload_n C dX10_heard_48 rfl (lv_at hl 2 rfl) ?_
        obtain ⟨r_3, σ_5, hc, hF⟩ := kp_bd_s hF
        refine kp_ci h (kp_rV (k := 0) (As := [kp_iv r_2, kp_iv a1, kp_iv a2]) (rest := []) C G h (kc_X10_heardOf  hc) q5_74 q5_76 q0_4_13 q1_11 q5_77 ⟨rfl, hd_X10_heardOf⟩ (by decide) kp_lM0 rfl rfl hl.1 rfl (Nat.le_of_ble_eq_true rfl) dX10_heard_49) (fun H locs h => ?_)
        exact kp_reti C hr hlk G h dX10_heard_52 hF
      · refine kp_aload_n C dX10_heard_30 rfl (lv_at hl 0 rfl) ?_
        refine kp_aload_n C dX10_heard_31 rfl (lv_at hl 0 rfl) ?_
        obtain ⟨r_4, σ_6, hc, hF⟩ := kp_bd_s hF
        refine kp_ci h (kp_rV (k := 0) (As := []) (rest := [.ref (kp_ad X 0)]) C G h (kc_X10_moving  hc) q5_66 q5_68 q0_4_11 q1_11 q5_69 ⟨rfl, hd_X10_moving⟩ (by decide) kp_lM0 rfl rfl hl.1 rfl (Nat.le_of_ble_eq_true rfl) dX10_heard_32) (fun H locs h => ?_)
        refine kp_iload_n C dX10_heard_35 rfl (lv_at hl 1 rfl) ?_
        obtain ⟨r_5, σ_7, hc, hF⟩ := kp_bd_s hF
        refine kp_ci h (kp_rV (k := 0) (As := [kp_iv r_4, kp_iv a1]) (rest := []) C G h (kc_X10_heardAll  hc) q5_70 q5_72 q0_4_12 q1_11 q5_73 ⟨rfl, hd_X10_heardAll⟩ (by decide) kp_lM0 rfl rfl hl.1 rfl (Nat.le_of_ble_eq_true rfl) dX10_heard_36) (fun H locs h => ?_)
        refine kp_goto (tgt := 52) C dX10_heard_39 (by decide) ?_
        exact kp_reti C hr hlk G h dX10_heard_52 hF
    clear ej21
    refine kp_icmp_eq (tgt := 21) C dX10_heard_9 (by decide) hF (fun hF => ?_) (fun hF => ?_)
    · exact J21 _ _ _ _ h (lv_sub hl [0, 1, 2] rfl) hF
    · refine kp_iload_n C dX10_heard_12 rfl (lv_at hl 2 rfl) ?_
      obtain ⟨r_6, σ_8, hc, hF⟩ := kp_bd_s hF
      refine kp_ci h (kp_rS (As := [kp_iv a2]) (rest := []) C G h (kc_X10_isMinute  hc) q4_216 q4_217 q1_11 q4_218 hd_X10_isMinute (by decide) rfl hl.1 rfl (Nat.le_of_ble_eq_true rfl) dX10_heard_13) (fun H locs h => ?_)
      refine kp_if_ne (tgt := 21) C dX10_heard_16 (by decide) hF (fun hF => ?_) (fun hF => ?_)
      · exact J21 _ _ _ _ h (lv_sub hl [0, 1, 2] rfl) hF
      · refine kp_iconst C dX10_heard_19 ?_
        exact kp_reti C hr hlk G h dX10_heard_20 hF
def kl_X10_seems_91 (a1 : Int) (x2_2 : Int) (x5_1 : Int) : Nat → Int → Int → kp_W → (Int → kp_W → kp_R) → kp_R
  | 0, _, _, _, _ => none
  | n + 1, x6_1, x7_1, σ_7, k => kp_ls x7_1 (σ_7 1 0) (kp_ck (kp_in x2_2 ∧ 0 ≤ x7_1 ∧ x7_1 < 32) (kp_eq (kp_and (x2_2 / 2 ^ (Int.toNat x7_1)) 1) 1 (kp_bd (kf_X10_loudOf x7_1 x5_1 a1 σ_7) (fun r_2 σ_9 => kp_lt ((x6_1 + r_2) : Int) (fun x6_4 => kp_lt (x7_1 + 1) (fun x7_3 => kl_X10_seems_91 a1 x2_2 x5_1 n x6_4 x7_3 σ_9 k)))) (kp_lt ((x6_1 + 0) : Int) (fun x6_3 => kp_lt (x7_1 + 1) (fun x7_2 => kl_X10_seems_91 a1 x2_2 x5_1 n x6_3 x7_2 σ_7 k))))) (k x6_1 σ_7)
def kl_X10_seems_74 (a1 : Int) (x2_2 : Int) : Nat → Int → Int → Int → kp_W → (Int → kp_W → kp_R) → kp_R
  | 0, _, _, _, _, _ => none
  | n + 1, x3_3, x4_1, x5_1, σ_5, k => kp_ls x5_1 10 (kp_eq x2_2 0 (k x3_3 σ_5) (kp_lt (0 : Int) (fun x6_0 => kp_lt (0 : Int) (fun x7_0 => kl_X10_seems_91 a1 x2_2 x5_1 kp_fu x6_0 x7_0 σ_5 (fun (x6_2 : Int) (σ_8 : kp_W) => kp_jn (fun (v_0 : Int) => kp_lt (v_0 : Int) (fun x3_5 => kp_ls x4_1 x6_2 (kp_lt (x6_2 : Int) (fun x4_3 => kp_lt (x5_1 + 1) (fun x5_3 => kl_X10_seems_74 a1 x2_2 n x3_5 x4_3 x5_3 σ_8 k))) (kp_lt (x4_1 : Int) (fun x4_2 => kp_lt (x5_1 + 1) (fun x5_2 => kl_X10_seems_74 a1 x2_2 n x3_5 x4_2 x5_2 σ_8 k))))) (fun j149 => kp_ls x4_1 x6_2 (j149 x5_1) (j149 x3_3))))))) (k x3_3 σ_5)
def kl_X10_seems_17 (a1 : Int) : Nat → Int → Int → kp_W → (Int → kp_W → kp_R) → kp_R
  | 0, _, _, _, _ => none
  | n + 1, x2_1, x3_1, σ_3, k => kp_ls x3_1 (σ_3 1 0) (kp_bd (kf_X10_isStill x3_1 σ_3) (fun r_3 σ_10 => kp_eq r_3 0 (kp_ck (0 ≤ ((40 * x3_1) + a1) ∧ ((40 * x3_1) + a1) < 400) (kp_ls 0 (σ_10 6 (Int.toNat ((40 * x3_1) + a1))) (kp_ck (0 ≤ x3_1 ∧ x3_1 < 32) (kp_lt ((kp_or x2_1 (1 * 2 ^ (Int.toNat x3_1))) : Int) (fun x2_5 => kp_lt (x3_1 + 1) (fun x3_8 => kl_X10_seems_17 a1 n x2_5 x3_8 σ_10 k)))) (kp_lt ((kp_or x2_1 0) : Int) (fun x2_4 => kp_lt (x3_1 + 1) (fun x3_7 => kl_X10_seems_17 a1 n x2_4 x3_7 σ_10 k))))) (kp_lt ((kp_or x2_1 0) : Int) (fun x2_3 => kp_lt (x3_1 + 1) (fun x3_6 => kl_X10_seems_17 a1 n x2_3 x3_6 σ_10 k))))) (k x2_1 σ_3)
def kf_X10_seems  (a1 : Int) (σ_0 : kp_W) : kp_R :=
  kp_bd (kf_X10_isMinute a1 σ_0) (fun r_0 σ_1 => kp_eq r_0 0 (some ((-1), σ_1)) (kp_bd (kf_X10_goes σ_1) (fun r_1 σ_2 => kp_lt (0 : Int) (fun x2_0 => kp_lt (0 : Int) (fun x3_0 => kl_X10_seems_17 a1 kp_fu x2_0 x3_0 σ_2 (fun (x2_2 : Int) (σ_4 : kp_W) => kp_lt ((-5) : Int) (fun x3_2 => kp_lt ((-1) : Int) (fun x4_0 => kp_lt (0 : Int) (fun x5_0 => kl_X10_seems_74 a1 x2_2 kp_fu x3_2 x4_0 x5_0 σ_4 (fun (x3_4 : Int) (σ_6 : kp_W) => some (x3_4, σ_6)))))))))))
set_option maxRecDepth 100000 in
set_option maxHeartbeats 4000000 in
theorem kc_X10_seems {l : Launch} {X : kp_X} {a1 : Int}  {σ_0 σ' : kp_W} {r : Int}   (hF : (kf_X10_seems a1 σ_0) = some (r, σ')) : kp_Met l yX10_seems cX10_seems 8 (some .int) 6 X kp_lM 10 σ_0 [.ref (kp_ad X 0), kp_iv a1] (kp_Qi X kp_lM 10 σ' r) := by
  refine kp_body pnX10 (Nat.le_of_ble_eq_true rfl) ?_
  intro p e s m args below meth c ls C hr hlk G h hl
  unfold kf_X10_seems at hF
  have hl : lv_has ls 8 [(0, .ref (kp_ad X 0)), (1, kp_iv a1)] := hl
  refine kp_iload_n C dX10_seems_0 rfl (lv_at hl 1 rfl) ?_
  obtain ⟨r_0, σ_1, hc, hF⟩ := kp_bd_s hF
  refine kp_ci h (kp_rS (As := [kp_iv a1]) (rest := []) C G h (kc_X10_isMinute  hc) q4_216 q4_217 q1_11 q4_218 hd_X10_isMinute (by decide) rfl hl.1 rfl (Nat.le_of_ble_eq_true rfl) dX10_seems_1) (fun H locs h => ?_)
  refine kp_if_ne (tgt := 9) C dX10_seems_4 (by decide) hF (fun hF => ?_) (fun hF => ?_)
  · refine kp_aload_n C dX10_seems_9 rfl (lv_at hl 0 rfl) ?_
    obtain ⟨r_1, σ_2, hc, hF⟩ := kp_bd_s hF
    refine kp_cv h (kp_rV (k := 0) (As := []) (rest := []) C G h (kc_X10_goes  hc) q5_11 q5_13 q0_4_0 q1_11 q5_14 ⟨rfl, hd_X10_goes⟩ (by decide) kp_lM0 rfl rfl hl.1 rfl (Nat.le_of_ble_eq_true rfl) dX10_seems_10) (fun H locs h => ?_)
    refine kp_iconst C dX10_seems_13 ?_
    refine kp_istore_n (lv' := fun x2_0 => [(2, kp_iv x2_0), (0, .ref (kp_ad X 0)), (1, kp_iv a1)]) C dX10_seems_14 rfl hl (by decide) (fun _ => rfl) hF (fun x2_0 ls hl hF => ?_)
    refine kp_iconst C dX10_seems_15 ?_
    refine kp_istore_n (lv' := fun x3_0 => [(3, kp_iv x3_0), (2, kp_iv x2_0), (0, .ref (kp_ad X 0)), (1, kp_iv a1)]) C dX10_seems_16 rfl hl (by decide) (fun _ => rfl) hF (fun x3_0 ls hl hF => ?_)
    have L17 : ∀ (n : Nat) (x2_1 : Int) (x3_1 : Int) (σ_3 : kp_W) (k : Int → kp_W → kp_R) (H : Heap) (locs : List Loc) (ls : Array Slot), kp_H X kp_lM 10 s σ_3 H locs → lv_has ls 8 [(0, .ref (kp_ad X 0)), (1, kp_iv a1), (2, kp_iv x2_1), (3, kp_iv x3_1)] → (∀ (x2_2 : Int) (σ_4 : kp_W) (H : Heap) (locs : List Loc) (ls : Array Slot), kp_H X kp_lM 10 s σ_4 H locs → lv_has ls 8 [(0, .ref (kp_ad X 0)), (1, kp_iv a1), (2, kp_iv x2_2)] → k x2_2 σ_4 = some (r, σ') → W p l e (kp_rm 6) s m args below meth c H locs 0 0 (MQ below (kp_Qi X kp_lM 10 σ' r) args s 0 0 (kp_A X 10)) (F0 m 65 ls [])) → kl_X10_seems_17 a1 n x2_1 x3_1 σ_3 k = some (r, σ') → W p l e (kp_rm 6) s m args below meth c H locs 0 0 (MQ below (kp_Qi X kp_lM 10 σ' r) args s 0 0 (kp_A X 10)) (F0 m 17 ls []) := by
      intro n
      induction n with
      | zero =>
        intro x2_1 x3_1 σ_3 k H locs ls h hl K hF
        rw [kl_X10_seems_17] at hF
        cases hF
      | succ n ih =>
        intro x2_1 x3_1 σ_3 k H locs ls h hl K hF
        rw [kl_X10_seems_17] at hF
        refine kp_iload_n C dX10_seems_17 rfl (lv_at hl 3 rfl) ?_
        refine kp_aload_n C dX10_seems_18 rfl (lv_at hl 0 rfl) ?_
        refine kp_getr C G h kp_lM0 rfl inWX10 (j := 1) (by decide) q4_45 rfl dX10_seems_19 ?_
        refine kp_iconst C dX10_seems_22 ?_
        refine kp_iald0 C G h (i := 0) (n := 1066) kp_lM1 (by decide) (by decide) dX10_seems_23 ?_
        refine kp_icmp_ge (tgt := 65) C dX10_seems_24 (by decide) hF (fun hF => ?_) (fun hF => ?_)
        · exact K _ _ _ _ _ h (lv_sub hl [0, 1, 2] rfl) hF
        · refine kp_iload_n C dX10_seems_27 rfl (lv_at hl 2 rfl) ?_
          refine kp_aload_n C dX10_seems_28 rfl (lv_at hl 0 rfl) ?_
          refine kp_iload_n C dX10_seems_29 rfl (lv_at hl 3 rfl) ?_
          obtain ⟨r_3, σ_10, hc, hF⟩ := kp_bd_s hF
          refine kp_ci h (kp_rV (k := 0) (As := [kp_iv x3_1]) (rest := [kp_iv x2_1]) C G h (kc_X10_isStill  hc) q5_46 q5_48 q0_4_8 q1_11 q5_49 ⟨rfl, hd_X10_isStill⟩ (by decide) kp_lM0 rfl rfl hl.1 rfl (Nat.le_of_ble_eq_true rfl) dX10_seems_30) (fun H locs h => ?_)
          refine kp_if_ne (tgt := 56) C dX10_seems_33 (by decide) hF (fun hF => ?_) (fun hF => ?_)
          · refine kp_iconst C dX10_seems_56 ?_
            refine kp_xior C dX10_seems_57 ?_
            refine kp_istore_n (lv' := fun x2_3 => [(2, kp_iv x2_3), (0, .ref (kp_ad X 0)), (1, kp_iv a1), (3, kp_iv x3_1)]) C dX10_seems_58 rfl hl (by decide) (fun _ => rfl) hF (fun x2_3 ls hl hF => ?_)
            refine kp_iinc (k := 3) (lv' := fun x3_6 => [(3, kp_iv x3_6), (2, kp_iv x2_3), (0, .ref (kp_ad X 0)), (1, kp_iv a1)]) C dX10_seems_59 hl rfl (by decide) (fun _ => rfl) hF (fun x3_6 ls hl hF => ?_)
            refine kp_goto (tgt := 17) C dX10_seems_62 (by decide) ?_
            exact ih _ _ _ k _ _ _ h (lv_sub hl [2, 3, 1, 0] rfl) K hF
          · refine kp_aload_n C dX10_seems_36 rfl (lv_at hl 0 rfl) ?_
            refine kp_getr C G h kp_lM0 rfl inWX10 (j := 15) (by decide) q4_59 rfl dX10_seems_37 ?_
            refine kp_bipush C dX10_seems_40 rfl ?_
            refine kp_iload_n C dX10_seems_42 rfl (lv_at hl 3 rfl) ?_
            refine kp_imul C dX10_seems_43 ?_
            refine kp_iload_n C dX10_seems_44 rfl (lv_at hl 1 rfl) ?_
            refine kp_iadd C dX10_seems_45 ?_
            refine kp_iald C G h (n := 400) kp_lM6 (by decide) dX10_seems_46 hF (fun hF => ?_)
            refine kp_if_le (tgt := 56) C dX10_seems_47 (by decide) hF (fun hF => ?_) (fun hF => ?_)
            · refine kp_iconst C dX10_seems_56 ?_
              refine kp_xior C dX10_seems_57 ?_
              refine kp_istore_n (lv' := fun x2_4 => [(2, kp_iv x2_4), (0, .ref (kp_ad X 0)), (1, kp_iv a1), (3, kp_iv x3_1)]) C dX10_seems_58 rfl hl (by decide) (fun _ => rfl) hF (fun x2_4 ls hl hF => ?_)
              refine kp_iinc (k := 3) (lv' := fun x3_7 => [(3, kp_iv x3_7), (2, kp_iv x2_4), (0, .ref (kp_ad X 0)), (1, kp_iv a1)]) C dX10_seems_59 hl rfl (by decide) (fun _ => rfl) hF (fun x3_7 ls hl hF => ?_)
              refine kp_goto (tgt := 17) C dX10_seems_62 (by decide) ?_
              exact ih _ _ _ k _ _ _ h (lv_sub hl [2, 3, 1, 0] rfl) K hF
            · refine kp_iconst C dX10_seems_50 ?_
              refine kp_iload_n C dX10_seems_51 rfl (lv_at hl 3 rfl) ?_
              refine kp_xishl C dX10_seems_52 hF (fun hF => ?_)
              refine kp_goto (tgt := 57) C dX10_seems_53 (by decide) ?_
              refine kp_xior C dX10_seems_57 ?_
              refine kp_istore_n (lv' := fun x2_5 => [(2, kp_iv x2_5), (0, .ref (kp_ad X 0)), (1, kp_iv a1), (3, kp_iv x3_1)]) C dX10_seems_58 rfl hl (by decide) (fun _ => rfl) hF (fun x2_5 ls hl hF => ?_)
              refine kp_iinc (k := 3) (lv' := fun x3_8 => [(3, kp_iv x3_8), (2, kp_iv x2_5), (0, .ref (kp_ad X 0)), (1, kp_iv a1)]) C dX10_seems_59 hl rfl (by decide) (fun _ => rfl) hF (fun x3_8 ls hl hF => ?_)
              refine kp_goto (tgt := 17) C dX10_seems_62 (by decide) ?_
              exact ih _ _ _ k _ _ _ h (lv_sub hl [2, 3, 1, 0] rfl) K hF
    refine L17 kp_fu _ _ _ _ _ _ _ h (lv_sub hl [2, 3, 1, 0] rfl) (fun x2_2 σ_4 H locs ls h hl hF => ?_) hF
    clear L17
    refine kp_bipush C dX10_seems_65 rfl ?_
    refine kp_istore_n (lv' := fun x3_2 => [(3, kp_iv x3_2), (0, .ref (kp_ad X 0)), (1, kp_iv a1), (2, kp_iv x2_2)]) C dX10_seems_67 rfl hl (by decide) (fun _ => rfl) hF (fun x3_2 ls hl hF => ?_)
    refine kp_iconst C dX10_seems_68 ?_
    refine kp_istore (lv' := fun x4_0 => [(4, kp_iv x4_0), (3, kp_iv x3_2), (0, .ref (kp_ad X 0)), (1, kp_iv a1), (2, kp_iv x2_2)]) C dX10_seems_69 hl (by decide) (fun _ => rfl) hF (fun x4_0 ls hl hF => ?_)
    refine kp_iconst C dX10_seems_71 ?_
    refine kp_istore (lv' := fun x5_0 => [(5, kp_iv x5_0), (4, kp_iv x4_0), (3, kp_iv x3_2), (0, .ref (kp_ad X 0)), (1, kp_iv a1), (2, kp_iv x2_2)]) C dX10_seems_72 hl (by decide) (fun _ => rfl) hF (fun x5_0 ls hl hF => ?_)
    have L74 : ∀ (n : Nat) (x3_3 : Int) (x4_1 : Int) (x5_1 : Int) (σ_5 : kp_W) (k : Int → kp_W → kp_R) (H : Heap) (locs : List Loc) (ls : Array Slot), kp_H X kp_lM 10 s σ_5 H locs → lv_has ls 8 [(0, .ref (kp_ad X 0)), (1, kp_iv a1), (2, kp_iv x2_2), (3, kp_iv x3_3), (4, kp_iv x4_1), (5, kp_iv x5_1)] → (∀ (x3_4 : Int) (σ_6 : kp_W) (H : Heap) (locs : List Loc) (ls : Array Slot), kp_H X kp_lM 10 s σ_6 H locs → lv_has ls 8 [(3, kp_iv x3_4)] → k x3_4 σ_6 = some (r, σ') → W p l e (kp_rm 6) s m args below meth c H locs 0 0 (MQ below (kp_Qi X kp_lM 10 σ' r) args s 0 0 (kp_A X 10)) (F0 m 172 ls [])) → kl_X10_seems_74 a1 x2_2 n x3_3 x4_1 x5_1 σ_5 k = some (r, σ') → W p l e (kp_rm 6) s m args below meth c H locs 0 0 (MQ below (kp_Qi X kp_lM 10 σ' r) args s 0 0 (kp_A X 10)) (F0 m 74 ls []) := by
      intro n
      induction n with
      | zero =>
        intro x3_3 x4_1 x5_1 σ_5 k H locs ls h hl K hF
        rw [kl_X10_seems_74] at hF
        cases hF
      | succ n ih =>
        intro x3_3 x4_1 x5_1 σ_5 k H locs ls h hl K hF
        rw [kl_X10_seems_74] at hF
        refine kp_iload C dX10_seems_74 (lv_at hl 5 rfl) ?_
        refine kp_bipush C dX10_seems_76 rfl ?_
        refine kp_icmp_ge (tgt := 172) C dX10_seems_78 (by decide) hF (fun hF => ?_) (fun hF => ?_)
        · exact K _ _ _ _ _ h (lv_sub hl [3] rfl) hF
        · refine kp_iload_n C dX10_seems_81 rfl (lv_at hl 2 rfl) ?_
          refine kp_if_eq (tgt := 172) C dX10_seems_82 (by decide) hF (fun hF => ?_) (fun hF => ?_)
          · exact K _ _ _ _ _ h (lv_sub hl [3] rfl) hF
          · refine kp_iconst C dX10_seems_85 ?_
            refine kp_istore (lv' := fun x6_0 => [(6, kp_iv x6_0), (0, .ref (kp_ad X 0)), (1, kp_iv a1), (2, kp_iv x2_2), (3, kp_iv x3_3), (4, kp_iv x4_1), (5, kp_iv x5_1)]) C dX10_seems_86 hl (by decide) (fun _ => rfl) hF (fun x6_0 ls hl hF => ?_)
            refine kp_iconst C dX10_seems_88 ?_
            refine kp_istore (lv' := fun x7_0 => [(7, kp_iv x7_0), (6, kp_iv x6_0), (0, .ref (kp_ad X 0)), (1, kp_iv a1), (2, kp_iv x2_2), (3, kp_iv x3_3), (4, kp_iv x4_1), (5, kp_iv x5_1)]) C dX10_seems_89 hl (by decide) (fun _ => rfl) hF (fun x7_0 ls hl hF => ?_)
            have L91 : ∀ (n : Nat) (x6_1 : Int) (x7_1 : Int) (σ_7 : kp_W) (k : Int → kp_W → kp_R) (H : Heap) (locs : List Loc) (ls : Array Slot), kp_H X kp_lM 10 s σ_7 H locs → lv_has ls 8 [(0, .ref (kp_ad X 0)), (1, kp_iv a1), (2, kp_iv x2_2), (3, kp_iv x3_3), (4, kp_iv x4_1), (5, kp_iv x5_1), (6, kp_iv x6_1), (7, kp_iv x7_1)] → (∀ (x6_2 : Int) (σ_8 : kp_W) (H : Heap) (locs : List Loc) (ls : Array Slot), kp_H X kp_lM 10 s σ_8 H locs → lv_has ls 8 [(0, .ref (kp_ad X 0)), (1, kp_iv a1), (2, kp_iv x2_2), (3, kp_iv x3_3), (4, kp_iv x4_1), (5, kp_iv x5_1), (6, kp_iv x6_2)] → k x6_2 σ_8 = some (r, σ') → W p l e (kp_rm 6) s m args below meth c H locs 0 0 (MQ below (kp_Qi X kp_lM 10 σ' r) args s 0 0 (kp_A X 10)) (F0 m 136 ls [])) → kl_X10_seems_91 a1 x2_2 x5_1 n x6_1 x7_1 σ_7 k = some (r, σ') → W p l e (kp_rm 6) s m args below meth c H locs 0 0 (MQ below (kp_Qi X kp_lM 10 σ' r) args s 0 0 (kp_A X 10)) (F0 m 91 ls []) := by
              intro n
              induction n with
              | zero =>
                intro x6_1 x7_1 σ_7 k H locs ls h hl K hF
                rw [kl_X10_seems_91] at hF
                cases hF
              | succ n ih =>
                intro x6_1 x7_1 σ_7 k H locs ls h hl K hF
                rw [kl_X10_seems_91] at hF
                refine kp_iload C dX10_seems_91 (lv_at hl 7 rfl) ?_
                refine kp_aload_n C dX10_seems_93 rfl (lv_at hl 0 rfl) ?_
                refine kp_getr C G h kp_lM0 rfl inWX10 (j := 1) (by decide) q4_45 rfl dX10_seems_94 ?_
                refine kp_iconst C dX10_seems_97 ?_
                refine kp_iald0 C G h (i := 0) (n := 1066) kp_lM1 (by decide) (by decide) dX10_seems_98 ?_
                refine kp_icmp_ge (tgt := 136) C dX10_seems_99 (by decide) hF (fun hF => ?_) (fun hF => ?_)
                · exact K _ _ _ _ _ h (lv_sub hl [0, 1, 2, 3, 4, 5, 6] rfl) hF
                · refine kp_iload C dX10_seems_102 (lv_at hl 6 rfl) ?_
                  refine kp_iload_n C dX10_seems_104 rfl (lv_at hl 2 rfl) ?_
                  refine kp_iload C dX10_seems_105 (lv_at hl 7 rfl) ?_
                  refine kp_xishr C dX10_seems_107 hF (fun hF => ?_)
                  refine kp_iconst C dX10_seems_108 ?_
                  refine kp_xiand C dX10_seems_109 ?_
                  refine kp_iconst C dX10_seems_110 ?_
                  refine kp_icmp_ne (tgt := 126) C dX10_seems_111 (by decide) hF (fun hF => ?_) (fun hF => ?_)
                  · refine kp_iconst C dX10_seems_126 ?_
                    refine kp_iadd C dX10_seems_127 ?_
                    refine kp_istore (lv' := fun x6_3 => [(6, kp_iv x6_3), (0, .ref (kp_ad X 0)), (1, kp_iv a1), (2, kp_iv x2_2), (3, kp_iv x3_3), (4, kp_iv x4_1), (5, kp_iv x5_1), (7, kp_iv x7_1)]) C dX10_seems_128 hl (by decide) (fun _ => rfl) hF (fun x6_3 ls hl hF => ?_)
                    refine kp_iinc (k := 7) (lv' := fun x7_2 => [(7, kp_iv x7_2), (6, kp_iv x6_3), (0, .ref (kp_ad X 0)), (1, kp_iv a1), (2, kp_iv x2_2), (3, kp_iv x3_3), (4, kp_iv x4_1), (5, kp_iv x5_1)]) C dX10_seems_130 hl rfl (by decide) (fun _ => rfl) hF (fun x7_2 ls hl hF => ?_)
                    refine kp_goto (tgt := 91) C dX10_seems_133 (by decide) ?_
                    exact ih _ _ _ k _ _ _ h (lv_sub hl [2, 3, 4, 5, 6, 7, 1, 0] rfl) K hF
                  · refine kp_aload_n C dX10_seems_114 rfl (lv_at hl 0 rfl) ?_
                    refine kp_iload C dX10_seems_115 (lv_at hl 7 rfl) ?_
                    refine kp_iload C dX10_seems_117 (lv_at hl 5 rfl) ?_
                    refine kp_iload_n C dX10_seems_119 rfl (lv_at hl 1 rfl) ?_
                    obtain ⟨r_2, σ_9, hc, hF⟩ := kp_bd_s hF
                    refine kp_ci h (kp_rV (k := 0) (As := [kp_iv x7_1, kp_iv x5_1, kp_iv a1]) (rest := [kp_iv x6_1]) C G h (kc_X10_loudOf  hc) q5_54 q5_56 q0_4_9 q1_11 q5_57 ⟨rfl, hd_X10_loudOf⟩ (by decide) kp_lM0 rfl rfl hl.1 rfl (Nat.le_of_ble_eq_true rfl) dX10_seems_120) (fun H locs h => ?_)
                    refine kp_goto (tgt := 127) C dX10_seems_123 (by decide) ?_
                    refine kp_iadd C dX10_seems_127 ?_
                    refine kp_istore (lv' := fun x6_4 => [(6, kp_iv x6_4), (0, .ref (kp_ad X 0)), (1, kp_iv a1), (2, kp_iv x2_2), (3, kp_iv x3_3), (4, kp_iv x4_1), (5, kp_iv x5_1), (7, kp_iv x7_1)]) C dX10_seems_128 hl (by decide) (fun _ => rfl) hF (fun x6_4 ls hl hF => ?_)
                    refine kp_iinc (k := 7) (lv' := fun x7_3 => [(7, kp_iv x7_3), (6, kp_iv x6_4), (0, .ref (kp_ad X 0)), (1, kp_iv a1), (2, kp_iv x2_2), (3, kp_iv x3_3), (4, kp_iv x4_1), (5, kp_iv x5_1)]) C dX10_seems_130 hl rfl (by decide) (fun _ => rfl) hF (fun x7_3 ls hl hF => ?_)
                    refine kp_goto (tgt := 91) C dX10_seems_133 (by decide) ?_
                    exact ih _ _ _ k _ _ _ h (lv_sub hl [2, 3, 4, 5, 6, 7, 1, 0] rfl) K hF
            refine L91 kp_fu _ _ _ _ _ _ _ h (lv_sub hl [2, 3, 4, 5, 6, 7, 1, 0] rfl) (fun x6_2 σ_8 H locs ls h hl hF => ?_) hF
            clear L91
            refine kp_iload C dX10_seems_136 (lv_at hl 6 rfl) ?_
            refine kp_iload C dX10_seems_138 (lv_at hl 4 rfl) ?_
            obtain ⟨j149, ej149, hF⟩ := kp_jn_s hF
            have J149 : ∀ (v_0 : Int), ∀ (H : Heap) (locs : List Loc) (ls : Array Slot), kp_H X kp_lM 10 s σ_8 H locs → lv_has ls 8 [(0, .ref (kp_ad X 0)), (1, kp_iv a1), (2, kp_iv x2_2), (4, kp_iv x4_1), (5, kp_iv x5_1), (6, kp_iv x6_2)] → j149 v_0 = some (r, σ') → W p l e (kp_rm 6) s m args below meth c H locs 0 0 (MQ below (kp_Qi X kp_lM 10 σ' r) args s 0 0 (kp_A X 10)) (F0 m 149 ls [kp_iv v_0]) := by
              intro v_0 H locs ls h hl hF
              rw [ej149] at hF
              refine kp_istore_n (lv' := fun x3_5 => [(3, kp_iv x3_5), (0, .ref (kp_ad X 0)), (1, kp_iv a1), (2, kp_iv x2_2), (4, kp_iv x4_1), (5, kp_iv x5_1), (6, kp_iv x6_2)]) C dX10_seems_149 rfl hl (by decide) (fun _ => rfl) hF (fun x3_5 ls hl hF => ?_)
              refine kp_iload C dX10_seems_150 (lv_at hl 6 rfl) ?_
              refine kp_iload C dX10_seems_152 (lv_at hl 4 rfl) ?_
              refine kp_icmp_le (tgt := 162) C dX10_seems_154 (by decide) hF (fun hF => ?_) (fun hF => ?_)
              · refine kp_iload C dX10_seems_162 (lv_at hl 4 rfl) ?_
                refine kp_istore (lv' := fun x4_2 => [(4, kp_iv x4_2), (3, kp_iv x3_5), (0, .ref (kp_ad X 0)), (1, kp_iv a1), (2, kp_iv x2_2), (5, kp_iv x5_1), (6, kp_iv x6_2)]) C dX10_seems_164 hl (by decide) (fun _ => rfl) hF (fun x4_2 ls hl hF => ?_)
                refine kp_iinc (k := 5) (lv' := fun x5_2 => [(5, kp_iv x5_2), (4, kp_iv x4_2), (3, kp_iv x3_5), (0, .ref (kp_ad X 0)), (1, kp_iv a1), (2, kp_iv x2_2), (6, kp_iv x6_2)]) C dX10_seems_166 hl rfl (by decide) (fun _ => rfl) hF (fun x5_2 ls hl hF => ?_)
                refine kp_goto (tgt := 74) C dX10_seems_169 (by decide) ?_
                exact ih _ _ _ _ k _ _ _ h (lv_sub hl [3, 4, 5, 2, 1, 0] rfl) K hF
              · refine kp_iload C dX10_seems_157 (lv_at hl 6 rfl) ?_
                refine kp_goto (tgt := 164) C dX10_seems_159 (by decide) ?_
                refine kp_istore (lv' := fun x4_3 => [(4, kp_iv x4_3), (3, kp_iv x3_5), (0, .ref (kp_ad X 0)), (1, kp_iv a1), (2, kp_iv x2_2), (5, kp_iv x5_1), (6, kp_iv x6_2)]) C dX10_seems_164 hl (by decide) (fun _ => rfl) hF (fun x4_3 ls hl hF => ?_)
                refine kp_iinc (k := 5) (lv' := fun x5_3 => [(5, kp_iv x5_3), (4, kp_iv x4_3), (3, kp_iv x3_5), (0, .ref (kp_ad X 0)), (1, kp_iv a1), (2, kp_iv x2_2), (6, kp_iv x6_2)]) C dX10_seems_166 hl rfl (by decide) (fun _ => rfl) hF (fun x5_3 ls hl hF => ?_)
                refine kp_goto (tgt := 74) C dX10_seems_169 (by decide) ?_
                exact ih _ _ _ _ k _ _ _ h (lv_sub hl [3, 4, 5, 2, 1, 0] rfl) K hF
            clear ej149
            refine kp_icmp_le (tgt := 148) C dX10_seems_140 (by decide) hF (fun hF => ?_) (fun hF => ?_)
            · refine kp_iload_n C dX10_seems_148 rfl (lv_at hl 3 rfl) ?_
              exact J149 _ _ _ _ h (lv_sub hl [0, 1, 2, 4, 5, 6] rfl) hF
            · refine kp_iload C dX10_seems_143 (lv_at hl 5 rfl) ?_
              refine kp_goto (tgt := 149) C dX10_seems_145 (by decide) ?_
              exact J149 _ _ _ _ h (lv_sub hl [0, 1, 2, 4, 5, 6] rfl) hF
    refine L74 kp_fu _ _ _ _ _ _ _ _ h (lv_sub hl [3, 4, 5, 2, 1, 0] rfl) (fun x3_4 σ_6 H locs ls h hl hF => ?_) hF
    clear L74
    refine kp_iload_n C dX10_seems_172 rfl (lv_at hl 0 rfl) ?_
    exact kp_reti C hr hlk G h dX10_seems_173 hF
  · refine kp_iconst C dX10_seems_7 ?_
    exact kp_reti C hr hlk G h dX10_seems_8 hF
def kf_X10_note  (a1 : Int) (a2 : Int) (a3 : Int) (σ_0 : kp_W) : kp_R :=
  kp_bd (kf_X10_isPlace a1 σ_0) (fun r_0 σ_1 => kp_eq r_0 0 (some ((-1), σ_1)) (kp_bd (kf_X10_isMinute a2 σ_1) (fun r_1 σ_2 => kp_eq r_1 0 (some ((-1), σ_2)) (kp_bd (kf_X10_in a3 0 99 σ_2) (fun r_2 σ_3 => kp_eq r_2 0 (some ((-2), σ_3)) (kp_eq (σ_3 1 2) 12 (some ((-4), σ_3)) (kp_ck (0 ≤ (300 + (σ_3 1 2)) ∧ (300 + (σ_3 1 2)) < 1066) (kp_lt (kp_up σ_3 1 (Int.toNat (300 + (σ_3 1 2))) a1) (fun σ_4 => kp_ck (0 ≤ (312 + (σ_4 1 2)) ∧ (312 + (σ_4 1 2)) < 1066) (kp_lt (kp_up σ_4 1 (Int.toNat (312 + (σ_4 1 2))) a2) (fun σ_5 => kp_ck (0 ≤ (324 + (σ_5 1 2)) ∧ (324 + (σ_5 1 2)) < 1066) (kp_lt (kp_up σ_5 1 (Int.toNat (324 + (σ_5 1 2))) a3) (fun σ_6 => kp_lt (kp_up σ_6 1 2 ((σ_6 1 2) + 1)) (fun σ_7 => some ((σ_7 1 2), σ_7)))))))))))))))
set_option maxRecDepth 100000 in
set_option maxHeartbeats 4000000 in
theorem kc_X10_note {l : Launch} {X : kp_X} {a1 : Int} {a2 : Int} {a3 : Int}  {σ_0 σ' : kp_W} {r : Int}   (hF : (kf_X10_note a1 a2 a3 σ_0) = some (r, σ')) : kp_Met l yX10_note cX10_note 4 (some .int) 2 X kp_lM 10 σ_0 [.ref (kp_ad X 0), kp_iv a1, kp_iv a2, kp_iv a3] (kp_Qi X kp_lM 10 σ' r) := by
  refine kp_body pnX10 (Nat.le_of_ble_eq_true rfl) ?_
  intro p e s m args below meth c ls C hr hlk G h hl
  unfold kf_X10_note at hF
  have hl : lv_has ls 4 [(0, .ref (kp_ad X 0)), (1, kp_iv a1), (2, kp_iv a2), (3, kp_iv a3)] := hl
  refine kp_iload_n C dX10_note_0 rfl (lv_at hl 1 rfl) ?_
  obtain ⟨r_0, σ_1, hc, hF⟩ := kp_bd_s hF
  refine kp_ci h (kp_rS (As := [kp_iv a1]) (rest := []) C G h (kc_X10_isPlace  hc) q4_232 q4_233 q1_11 q4_234 hd_X10_isPlace (by decide) rfl hl.1 rfl (Nat.le_of_ble_eq_true rfl) dX10_note_1) (fun H locs h => ?_)
  refine kp_if_eq (tgt := 14) C dX10_note_4 (by decide) hF (fun hF => ?_) (fun hF => ?_)
  · refine kp_iconst C dX10_note_14 ?_
    exact kp_reti C hr hlk G h dX10_note_15 hF
  · refine kp_iload_n C dX10_note_7 rfl (lv_at hl 2 rfl) ?_
    obtain ⟨r_1, σ_2, hc, hF⟩ := kp_bd_s hF
    refine kp_ci h (kp_rS (As := [kp_iv a2]) (rest := []) C G h (kc_X10_isMinute  hc) q4_216 q4_217 q1_11 q4_218 hd_X10_isMinute (by decide) rfl hl.1 rfl (Nat.le_of_ble_eq_true rfl) dX10_note_8) (fun H locs h => ?_)
    refine kp_if_ne (tgt := 16) C dX10_note_11 (by decide) hF (fun hF => ?_) (fun hF => ?_)
    · refine kp_iload_n C dX10_note_16 rfl (lv_at hl 3 rfl) ?_
      refine kp_iconst C dX10_note_17 ?_
      refine kp_bipush C dX10_note_18 rfl ?_
      obtain ⟨r_2, σ_3, hc, hF⟩ := kp_bd_s hF
      refine kp_ci h (kp_rS (As := [kp_iv a3, kp_iv 0, kp_iv 99]) (rest := []) C G h (kc_X10_in  hc) q4_128 q4_129 q1_11 q4_130 hd_X10_in (by decide) rfl hl.1 rfl (Nat.le_of_ble_eq_true rfl) dX10_note_20) (fun H locs h => ?_)
      refine kp_if_ne (tgt := 29) C dX10_note_23 (by decide) hF (fun hF => ?_) (fun hF => ?_)
      · refine kp_aload_n C dX10_note_29 rfl (lv_at hl 0 rfl) ?_
        refine kp_getr C G h kp_lM0 rfl inWX10 (j := 1) (by decide) q4_45 rfl dX10_note_30 ?_
        refine kp_iconst C dX10_note_33 ?_
        refine kp_iald0 C G h (i := 2) (n := 1066) kp_lM1 (by decide) (by decide) dX10_note_34 ?_
        refine kp_bipush C dX10_note_35 rfl ?_
        refine kp_icmp_ne (tgt := 43) C dX10_note_37 (by decide) hF (fun hF => ?_) (fun hF => ?_)
        · refine kp_aload_n C dX10_note_43 rfl (lv_at hl 0 rfl) ?_
          refine kp_getr C G h kp_lM0 rfl inWX10 (j := 1) (by decide) q4_45 rfl dX10_note_44 ?_
          refine kp_sipush C dX10_note_47 rfl ?_
          refine kp_aload_n C dX10_note_50 rfl (lv_at hl 0 rfl) ?_
          refine kp_getr C G h kp_lM0 rfl inWX10 (j := 1) (by decide) q4_45 rfl dX10_note_51 ?_
          refine kp_iconst C dX10_note_54 ?_
          refine kp_iald0 C G h (i := 2) (n := 1066) kp_lM1 (by decide) (by decide) dX10_note_55 ?_
          refine kp_iadd C dX10_note_56 ?_
          refine kp_iload_n C dX10_note_57 rfl (lv_at hl 1 rfl) ?_
          refine kp_iast C G h (n := 1066) kp_lM1 (by decide) dX10_note_58 hF (fun σ_4 H locs h hF => ?_)
          refine kp_aload_n C dX10_note_59 rfl (lv_at hl 0 rfl) ?_
          refine kp_getr C G h kp_lM0 rfl inWX10 (j := 1) (by decide) q4_45 rfl dX10_note_60 ?_
          refine kp_sipush C dX10_note_63 rfl ?_
          refine kp_aload_n C dX10_note_66 rfl (lv_at hl 0 rfl) ?_
          refine kp_getr C G h kp_lM0 rfl inWX10 (j := 1) (by decide) q4_45 rfl dX10_note_67 ?_
          refine kp_iconst C dX10_note_70 ?_
          refine kp_iald0 C G h (i := 2) (n := 1066) kp_lM1 (by decide) (by decide) dX10_note_71 ?_
          refine kp_iadd C dX10_note_72 ?_
          refine kp_iload_n C dX10_note_73 rfl (lv_at hl 2 rfl) ?_
          refine kp_iast C G h (n := 1066) kp_lM1 (by decide) dX10_note_74 hF (fun σ_5 H locs h hF => ?_)
          refine kp_aload_n C dX10_note_75 rfl (lv_at hl 0 rfl) ?_
          refine kp_getr C G h kp_lM0 rfl inWX10 (j := 1) (by decide) q4_45 rfl dX10_note_76 ?_
          refine kp_sipush C dX10_note_79 rfl ?_
          refine kp_aload_n C dX10_note_82 rfl (lv_at hl 0 rfl) ?_
          refine kp_getr C G h kp_lM0 rfl inWX10 (j := 1) (by decide) q4_45 rfl dX10_note_83 ?_
          refine kp_iconst C dX10_note_86 ?_
          refine kp_iald0 C G h (i := 2) (n := 1066) kp_lM1 (by decide) (by decide) dX10_note_87 ?_
          refine kp_iadd C dX10_note_88 ?_
          refine kp_iload_n C dX10_note_89 rfl (lv_at hl 3 rfl) ?_
          refine kp_iast C G h (n := 1066) kp_lM1 (by decide) dX10_note_90 hF (fun σ_6 H locs h hF => ?_)
          refine kp_aload_n C dX10_note_91 rfl (lv_at hl 0 rfl) ?_
          refine kp_getr C G h kp_lM0 rfl inWX10 (j := 1) (by decide) q4_45 rfl dX10_note_92 ?_
          refine kp_iconst C dX10_note_95 ?_
          refine kp_dup2 C dX10_note_96 rfl rfl ?_
          refine kp_iald0 C G h (i := 2) (n := 1066) kp_lM1 (by decide) (by decide) dX10_note_97 ?_
          refine kp_iconst C dX10_note_98 ?_
          refine kp_iadd C dX10_note_99 ?_
          have hF := kp_ck_i (c := 0 ≤ (2 : Int) ∧ (2 : Int) < 1066) (by decide) hF
          refine kp_iast C G h (n := 1066) kp_lM1 (by decide) dX10_note_100 hF (fun σ_7 H locs h hF => ?_)
          refine kp_aload_n C dX10_note_101 rfl (lv_at hl 0 rfl) ?_
          refine kp_getr C G h kp_lM0 rfl inWX10 (j := 1) (by decide) q4_45 rfl dX10_note_102 ?_
          refine kp_iconst C dX10_note_105 ?_
          refine kp_iald0 C G h (i := 2) (n := 1066) kp_lM1 (by decide) (by decide) dX10_note_106 ?_
          exact kp_reti C hr hlk G h dX10_note_107 hF
        · refine kp_bipush C dX10_note_40 rfl ?_
          exact kp_reti C hr hlk G h dX10_note_42 hF
      · refine kp_bipush C dX10_note_26 rfl ?_
        exact kp_reti C hr hlk G h dX10_note_28 hF
    · refine kp_iconst C dX10_note_14 ?_
      exact kp_reti C hr hlk G h dX10_note_15 hF
def kf_X10_clear   (σ_0 : kp_W) : kp_R :=
  kp_lt ((σ_0 1 2) : Int) (fun x1_0 => kp_lt (kp_up σ_0 1 2 0) (fun σ_1 => some (x1_0, σ_1)))
set_option maxRecDepth 100000 in
set_option maxHeartbeats 4000000 in
theorem kc_X10_clear {l : Launch} {X : kp_X}  {σ_0 σ' : kp_W} {r : Int}   (hF : (kf_X10_clear σ_0) = some (r, σ')) : kp_Met l yX10_clear cX10_clear 2 (some .int) 0 X kp_lM 10 σ_0 [.ref (kp_ad X 0)] (kp_Qi X kp_lM 10 σ' r) := by
  refine kp_body pnX10 (Nat.le_of_ble_eq_true rfl) ?_
  intro p e s m args below meth c ls C hr hlk G h hl
  unfold kf_X10_clear at hF
  have hl : lv_has ls 2 [(0, .ref (kp_ad X 0))] := hl
  refine kp_aload_n C dX10_clear_0 rfl (lv_at hl 0 rfl) ?_
  refine kp_getr C G h kp_lM0 rfl inWX10 (j := 1) (by decide) q4_45 rfl dX10_clear_1 ?_
  refine kp_iconst C dX10_clear_4 ?_
  refine kp_iald0 C G h (i := 2) (n := 1066) kp_lM1 (by decide) (by decide) dX10_clear_5 ?_
  refine kp_istore_n (lv' := fun x1_0 => [(1, kp_iv x1_0), (0, .ref (kp_ad X 0))]) C dX10_clear_6 rfl hl (by decide) (fun _ => rfl) hF (fun x1_0 ls hl hF => ?_)
  refine kp_aload_n C dX10_clear_7 rfl (lv_at hl 1 rfl) ?_
  refine kp_getr C G h kp_lM0 rfl inWX10 (j := 1) (by decide) q4_45 rfl dX10_clear_8 ?_
  refine kp_iconst C dX10_clear_11 ?_
  refine kp_iconst C dX10_clear_12 ?_
  have hF := kp_ck_i (c := 0 ≤ (2 : Int) ∧ (2 : Int) < 1066) (by decide) hF
  refine kp_iast C G h (n := 1066) kp_lM1 (by decide) dX10_clear_13 hF (fun σ_1 H locs h hF => ?_)
  refine kp_iload_n C dX10_clear_14 rfl (lv_at hl 0 rfl) ?_
  exact kp_reti C hr hlk G h dX10_clear_15 hF
def kl_X10_fitsOf_4 (a1 : Int) : Nat → Int → Int → kp_W → (Int → kp_W → kp_R) → kp_R
  | 0, _, _, _, _ => none
  | n + 1, x2_1, x3_1, σ_1, k => kp_ls x3_1 (σ_1 1 2) (kp_ck (0 ≤ (300 + x3_1) ∧ (300 + x3_1) < 1066) (kp_ck (0 ≤ (312 + x3_1) ∧ (312 + x3_1) < 1066) (kp_bd (kf_X10_heardOf a1 (σ_1 1 (Int.toNat (300 + x3_1))) (σ_1 1 (Int.toNat (312 + x3_1))) σ_1) (fun r_0 σ_3 => kp_ck (0 ≤ (324 + x3_1) ∧ (324 + x3_1) < 1066) (kp_eq r_0 (σ_3 1 (Int.toNat (324 + x3_1))) (kp_ck (0 ≤ x3_1 ∧ x3_1 < 32) (kp_lt ((kp_or x2_1 (1 * 2 ^ (Int.toNat x3_1))) : Int) (fun x2_4 => kp_lt (x3_1 + 1) (fun x3_3 => kl_X10_fitsOf_4 a1 n x2_4 x3_3 σ_3 k)))) (kp_lt ((kp_or x2_1 0) : Int) (fun x2_3 => kp_lt (x3_1 + 1) (fun x3_2 => kl_X10_fitsOf_4 a1 n x2_3 x3_2 σ_3 k)))))))) (k x2_1 σ_1)
def kf_X10_fitsOf  (a1 : Int) (σ_0 : kp_W) : kp_R :=
  kp_lt (0 : Int) (fun x2_0 => kp_lt (0 : Int) (fun x3_0 => kl_X10_fitsOf_4 a1 kp_fu x2_0 x3_0 σ_0 (fun (x2_2 : Int) (σ_2 : kp_W) => some (x2_2, σ_2))))
set_option maxRecDepth 100000 in
set_option maxHeartbeats 4000000 in
theorem kc_X10_fitsOf {l : Launch} {X : kp_X} {a1 : Int}  {σ_0 σ' : kp_W} {r : Int}   (hF : (kf_X10_fitsOf a1 σ_0) = some (r, σ')) : kp_Met l yX10_fitsOf cX10_fitsOf 4 (some .int) 4 X kp_lM 10 σ_0 [.ref (kp_ad X 0), kp_iv a1] (kp_Qi X kp_lM 10 σ' r) := by
  refine kp_body pnX10 (Nat.le_of_ble_eq_true rfl) ?_
  intro p e s m args below meth c ls C hr hlk G h hl
  unfold kf_X10_fitsOf at hF
  have hl : lv_has ls 4 [(0, .ref (kp_ad X 0)), (1, kp_iv a1)] := hl
  refine kp_iconst C dX10_fitsOf_0 ?_
  refine kp_istore_n (lv' := fun x2_0 => [(2, kp_iv x2_0), (0, .ref (kp_ad X 0)), (1, kp_iv a1)]) C dX10_fitsOf_1 rfl hl (by decide) (fun _ => rfl) hF (fun x2_0 ls hl hF => ?_)
  refine kp_iconst C dX10_fitsOf_2 ?_
  refine kp_istore_n (lv' := fun x3_0 => [(3, kp_iv x3_0), (2, kp_iv x2_0), (0, .ref (kp_ad X 0)), (1, kp_iv a1)]) C dX10_fitsOf_3 rfl hl (by decide) (fun _ => rfl) hF (fun x3_0 ls hl hF => ?_)
  have L4 : ∀ (n : Nat) (x2_1 : Int) (x3_1 : Int) (σ_1 : kp_W) (k : Int → kp_W → kp_R) (H : Heap) (locs : List Loc) (ls : Array Slot), kp_H X kp_lM 10 s σ_1 H locs → lv_has ls 4 [(0, .ref (kp_ad X 0)), (1, kp_iv a1), (2, kp_iv x2_1), (3, kp_iv x3_1)] → (∀ (x2_2 : Int) (σ_2 : kp_W) (H : Heap) (locs : List Loc) (ls : Array Slot), kp_H X kp_lM 10 s σ_2 H locs → lv_has ls 4 [(2, kp_iv x2_2)] → k x2_2 σ_2 = some (r, σ') → W p l e (kp_rm 4) s m args below meth c H locs 0 0 (MQ below (kp_Qi X kp_lM 10 σ' r) args s 0 0 (kp_A X 10)) (F0 m 68 ls [])) → kl_X10_fitsOf_4 a1 n x2_1 x3_1 σ_1 k = some (r, σ') → W p l e (kp_rm 4) s m args below meth c H locs 0 0 (MQ below (kp_Qi X kp_lM 10 σ' r) args s 0 0 (kp_A X 10)) (F0 m 4 ls []) := by
    intro n
    induction n with
    | zero =>
      intro x2_1 x3_1 σ_1 k H locs ls h hl K hF
      rw [kl_X10_fitsOf_4] at hF
      cases hF
    | succ n ih =>
      intro x2_1 x3_1 σ_1 k H locs ls h hl K hF
      rw [kl_X10_fitsOf_4] at hF
      refine kp_iload_n C dX10_fitsOf_4 rfl (lv_at hl 3 rfl) ?_
      refine kp_aload_n C dX10_fitsOf_5 rfl (lv_at hl 0 rfl) ?_
      refine kp_getr C G h kp_lM0 rfl inWX10 (j := 1) (by decide) q4_45 rfl dX10_fitsOf_6 ?_
      refine kp_iconst C dX10_fitsOf_9 ?_
      refine kp_iald0 C G h (i := 2) (n := 1066) kp_lM1 (by decide) (by decide) dX10_fitsOf_10 ?_
      refine kp_icmp_ge (tgt := 68) C dX10_fitsOf_11 (by decide) hF (fun hF => ?_) (fun hF => ?_)
      · exact K _ _ _ _ _ h (lv_sub hl [2] rfl) hF
      · refine kp_iload_n C dX10_fitsOf_14 rfl (lv_at hl 2 rfl) ?_
        refine kp_aload_n C dX10_fitsOf_15 rfl (lv_at hl 0 rfl) ?_
        refine kp_iload_n C dX10_fitsOf_16 rfl (lv_at hl 1 rfl) ?_
        refine kp_aload_n C dX10_fitsOf_17 rfl (lv_at hl 0 rfl) ?_
        refine kp_getr C G h kp_lM0 rfl inWX10 (j := 1) (by decide) q4_45 rfl dX10_fitsOf_18 ?_
        refine kp_sipush C dX10_fitsOf_21 rfl ?_
        refine kp_iload_n C dX10_fitsOf_24 rfl (lv_at hl 3 rfl) ?_
        refine kp_iadd C dX10_fitsOf_25 ?_
        refine kp_iald C G h (n := 1066) kp_lM1 (by decide) dX10_fitsOf_26 hF (fun hF => ?_)
        refine kp_aload_n C dX10_fitsOf_27 rfl (lv_at hl 0 rfl) ?_
        refine kp_getr C G h kp_lM0 rfl inWX10 (j := 1) (by decide) q4_45 rfl dX10_fitsOf_28 ?_
        refine kp_sipush C dX10_fitsOf_31 rfl ?_
        refine kp_iload_n C dX10_fitsOf_34 rfl (lv_at hl 3 rfl) ?_
        refine kp_iadd C dX10_fitsOf_35 ?_
        refine kp_iald C G h (n := 1066) kp_lM1 (by decide) dX10_fitsOf_36 hF (fun hF => ?_)
        obtain ⟨r_0, σ_3, hc, hF⟩ := kp_bd_s hF
        refine kp_ci h (kp_rV (k := 0) (As := [kp_iv a1, kp_iv (σ_1 1 (Int.toNat (300 + x3_1))), kp_iv (σ_1 1 (Int.toNat (312 + x3_1)))]) (rest := [kp_iv x2_1]) C G h (kc_X10_heardOf  hc) q5_74 q5_76 q0_4_13 q1_11 q5_77 ⟨rfl, hd_X10_heardOf⟩ (by decide) kp_lM0 rfl rfl hl.1 rfl (Nat.le_of_ble_eq_true rfl) dX10_fitsOf_37) (fun H locs h => ?_)
        refine kp_aload_n C dX10_fitsOf_40 rfl (lv_at hl 0 rfl) ?_
        refine kp_getr C G h kp_lM0 rfl inWX10 (j := 1) (by decide) q4_45 rfl dX10_fitsOf_41 ?_
        refine kp_sipush C dX10_fitsOf_44 rfl ?_
        refine kp_iload_n C dX10_fitsOf_47 rfl (lv_at hl 3 rfl) ?_
        refine kp_iadd C dX10_fitsOf_48 ?_
        refine kp_iald C G h (n := 1066) kp_lM1 (by decide) dX10_fitsOf_49 hF (fun hF => ?_)
        refine kp_icmp_ne (tgt := 59) C dX10_fitsOf_50 (by decide) hF (fun hF => ?_) (fun hF => ?_)
        · refine kp_iconst C dX10_fitsOf_59 ?_
          refine kp_xior C dX10_fitsOf_60 ?_
          refine kp_istore_n (lv' := fun x2_3 => [(2, kp_iv x2_3), (0, .ref (kp_ad X 0)), (1, kp_iv a1), (3, kp_iv x3_1)]) C dX10_fitsOf_61 rfl hl (by decide) (fun _ => rfl) hF (fun x2_3 ls hl hF => ?_)
          refine kp_iinc (k := 3) (lv' := fun x3_2 => [(3, kp_iv x3_2), (2, kp_iv x2_3), (0, .ref (kp_ad X 0)), (1, kp_iv a1)]) C dX10_fitsOf_62 hl rfl (by decide) (fun _ => rfl) hF (fun x3_2 ls hl hF => ?_)
          refine kp_goto (tgt := 4) C dX10_fitsOf_65 (by decide) ?_
          exact ih _ _ _ k _ _ _ h (lv_sub hl [2, 3, 1, 0] rfl) K hF
        · refine kp_iconst C dX10_fitsOf_53 ?_
          refine kp_iload_n C dX10_fitsOf_54 rfl (lv_at hl 3 rfl) ?_
          refine kp_xishl C dX10_fitsOf_55 hF (fun hF => ?_)
          refine kp_goto (tgt := 60) C dX10_fitsOf_56 (by decide) ?_
          refine kp_xior C dX10_fitsOf_60 ?_
          refine kp_istore_n (lv' := fun x2_4 => [(2, kp_iv x2_4), (0, .ref (kp_ad X 0)), (1, kp_iv a1), (3, kp_iv x3_1)]) C dX10_fitsOf_61 rfl hl (by decide) (fun _ => rfl) hF (fun x2_4 ls hl hF => ?_)
          refine kp_iinc (k := 3) (lv' := fun x3_3 => [(3, kp_iv x3_3), (2, kp_iv x2_4), (0, .ref (kp_ad X 0)), (1, kp_iv a1)]) C dX10_fitsOf_62 hl rfl (by decide) (fun _ => rfl) hF (fun x3_3 ls hl hF => ?_)
          refine kp_goto (tgt := 4) C dX10_fitsOf_65 (by decide) ?_
          exact ih _ _ _ k _ _ _ h (lv_sub hl [2, 3, 1, 0] rfl) K hF
  refine L4 kp_fu _ _ _ _ _ _ _ h (lv_sub hl [2, 3, 1, 0] rfl) (fun x2_2 σ_2 H locs ls h hl hF => ?_) hF
  clear L4
  refine kp_iload_n C dX10_fitsOf_68 rfl (lv_at hl 0 rfl) ?_
  exact kp_reti C hr hlk G h dX10_fitsOf_69 hF
def kl_X10_count1_4 (a1 : Int) : Nat → Int → Int → (Int → kp_R) → kp_R
  | 0, _, _, _ => none
  | n + 1, x1_1, x2_1, k => kp_ls x2_1 12 (kp_ck (kp_in a1 ∧ 0 ≤ x2_1 ∧ x2_1 < 32) (kp_lt ((x1_1 + (kp_and (a1 / 2 ^ (Int.toNat x2_1)) 1)) : Int) (fun x1_3 => kp_lt (x2_1 + 1) (fun x2_2 => kl_X10_count1_4 a1 n x1_3 x2_2 k)))) (k x1_1)
def kf_X10_count1  (a1 : Int) (σ_0 : kp_W) : kp_R :=
  kp_lt (0 : Int) (fun x1_0 => kp_lt (0 : Int) (fun x2_0 => kl_X10_count1_4 a1 kp_fu x1_0 x2_0 (fun (x1_2 : Int) => some (x1_2, σ_0))))
set_option maxRecDepth 100000 in
set_option maxHeartbeats 4000000 in
theorem kc_X10_count1 {l : Launch} {X : kp_X} {a1 : Int}  {σ_0 σ' : kp_W} {r : Int}   (hF : (kf_X10_count1 a1 σ_0) = some (r, σ')) : kp_Met l yX10_count1 cX10_count1 3 (some .int) 0 X kp_lM 10 σ_0 [kp_iv a1] (kp_Qi X kp_lM 10 σ' r) := by
  refine kp_body pnX10 (Nat.le_of_ble_eq_true rfl) ?_
  intro p e s m args below meth c ls C hr hlk G h hl
  unfold kf_X10_count1 at hF
  have hl : lv_has ls 3 [(0, kp_iv a1)] := hl
  refine kp_iconst C dX10_count1_0 ?_
  refine kp_istore_n (lv' := fun x1_0 => [(1, kp_iv x1_0), (0, kp_iv a1)]) C dX10_count1_1 rfl hl (by decide) (fun _ => rfl) hF (fun x1_0 ls hl hF => ?_)
  refine kp_iconst C dX10_count1_2 ?_
  refine kp_istore_n (lv' := fun x2_0 => [(2, kp_iv x2_0), (1, kp_iv x1_0), (0, kp_iv a1)]) C dX10_count1_3 rfl hl (by decide) (fun _ => rfl) hF (fun x2_0 ls hl hF => ?_)
  have L4 : ∀ (n : Nat) (x1_1 : Int) (x2_1 : Int) (k : Int → kp_R) (H : Heap) (locs : List Loc) (ls : Array Slot), kp_H X kp_lM 10 s σ_0 H locs → lv_has ls 3 [(0, kp_iv a1), (1, kp_iv x1_1), (2, kp_iv x2_1)] → (∀ (x1_2 : Int) (H : Heap) (locs : List Loc) (ls : Array Slot), kp_H X kp_lM 10 s σ_0 H locs → lv_has ls 3 [(1, kp_iv x1_2)] → k x1_2 = some (r, σ') → W p l e (kp_rm 0) s m args below meth c H locs 0 0 (MQ below (kp_Qi X kp_lM 10 σ' r) args s 0 0 (kp_A X 10)) (F0 m 24 ls [])) → kl_X10_count1_4 a1 n x1_1 x2_1 k = some (r, σ') → W p l e (kp_rm 0) s m args below meth c H locs 0 0 (MQ below (kp_Qi X kp_lM 10 σ' r) args s 0 0 (kp_A X 10)) (F0 m 4 ls []) := by
    intro n
    induction n with
    | zero =>
      intro x1_1 x2_1 k H locs ls h hl K hF
      rw [kl_X10_count1_4] at hF
      cases hF
    | succ n ih =>
      intro x1_1 x2_1 k H locs ls h hl K hF
      rw [kl_X10_count1_4] at hF
      refine kp_iload_n C dX10_count1_4 rfl (lv_at hl 2 rfl) ?_
      refine kp_bipush C dX10_count1_5 rfl ?_
      refine kp_icmp_ge (tgt := 24) C dX10_count1_7 (by decide) hF (fun hF => ?_) (fun hF => ?_)
      · exact K _ _ _ _ h (lv_sub hl [1] rfl) hF
      · refine kp_iload_n C dX10_count1_10 rfl (lv_at hl 1 rfl) ?_
        refine kp_iload_n C dX10_count1_11 rfl (lv_at hl 0 rfl) ?_
        refine kp_iload_n C dX10_count1_12 rfl (lv_at hl 2 rfl) ?_
        refine kp_xishr C dX10_count1_13 hF (fun hF => ?_)
        refine kp_iconst C dX10_count1_14 ?_
        refine kp_xiand C dX10_count1_15 ?_
        refine kp_iadd C dX10_count1_16 ?_
        refine kp_istore_n (lv' := fun x1_3 => [(1, kp_iv x1_3), (0, kp_iv a1), (2, kp_iv x2_1)]) C dX10_count1_17 rfl hl (by decide) (fun _ => rfl) hF (fun x1_3 ls hl hF => ?_)
        refine kp_iinc (k := 2) (lv' := fun x2_2 => [(2, kp_iv x2_2), (1, kp_iv x1_3), (0, kp_iv a1)]) C dX10_count1_18 hl rfl (by decide) (fun _ => rfl) hF (fun x2_2 ls hl hF => ?_)
        refine kp_goto (tgt := 4) C dX10_count1_21 (by decide) ?_
        exact ih _ _ k _ _ _ h (lv_sub hl [2, 1, 0] rfl) K hF
  refine L4 kp_fu _ _ _ _ _ _ h (lv_sub hl [2, 1, 0] rfl) (fun x1_2 H locs ls h hl hF => ?_) hF
  clear L4
  refine kp_iload_n C dX10_count1_24 rfl (lv_at hl 0 rfl) ?_
  exact kp_reti C hr hlk G h dX10_count1_25 hF
def kf_X10_fits  (a1 : Int) (σ_0 : kp_W) : kp_R :=
  kp_bd (kf_X10_isNoise a1 σ_0) (fun r_0 σ_1 => kp_eq r_0 0 (some ((-1), σ_1)) (kp_bd (kf_X10_goes σ_1) (fun r_1 σ_2 => kp_ck (0 ≤ a1 ∧ a1 < 32) (kp_bd (kf_X10_fitsOf (1 * 2 ^ (Int.toNat a1)) σ_2) (fun r_2 σ_3 => some (r_2, σ_3))))))
set_option maxRecDepth 100000 in
set_option maxHeartbeats 4000000 in
theorem kc_X10_fits {l : Launch} {X : kp_X} {a1 : Int}  {σ_0 σ' : kp_W} {r : Int}   (hF : (kf_X10_fits a1 σ_0) = some (r, σ')) : kp_Met l yX10_fits cX10_fits 2 (some .int) 6 X kp_lM 10 σ_0 [.ref (kp_ad X 0), kp_iv a1] (kp_Qi X kp_lM 10 σ' r) := by
  refine kp_body pnX10 (Nat.le_of_ble_eq_true rfl) ?_
  intro p e s m args below meth c ls C hr hlk G h hl
  unfold kf_X10_fits at hF
  have hl : lv_has ls 2 [(0, .ref (kp_ad X 0)), (1, kp_iv a1)] := hl
  refine kp_aload_n C dX10_fits_0 rfl (lv_at hl 0 rfl) ?_
  refine kp_iload_n C dX10_fits_1 rfl (lv_at hl 1 rfl) ?_
  obtain ⟨r_0, σ_1, hc, hF⟩ := kp_bd_s hF
  refine kp_ci h (kp_rV (k := 0) (As := [kp_iv a1]) (rest := []) C G h (kc_X10_isNoise  hc) q4_239 q5_1 q0_3_15 q1_11 q5_2 ⟨rfl, hd_X10_isNoise⟩ (by decide) kp_lM0 rfl rfl hl.1 rfl (Nat.le_of_ble_eq_true rfl) dX10_fits_2) (fun H locs h => ?_)
  refine kp_if_ne (tgt := 10) C dX10_fits_5 (by decide) hF (fun hF => ?_) (fun hF => ?_)
  · refine kp_aload_n C dX10_fits_10 rfl (lv_at hl 0 rfl) ?_
    obtain ⟨r_1, σ_2, hc, hF⟩ := kp_bd_s hF
    refine kp_cv h (kp_rV (k := 0) (As := []) (rest := []) C G h (kc_X10_goes  hc) q5_11 q5_13 q0_4_0 q1_11 q5_14 ⟨rfl, hd_X10_goes⟩ (by decide) kp_lM0 rfl rfl hl.1 rfl (Nat.le_of_ble_eq_true rfl) dX10_fits_11) (fun H locs h => ?_)
    refine kp_aload_n C dX10_fits_14 rfl (lv_at hl 0 rfl) ?_
    refine kp_iconst C dX10_fits_15 ?_
    refine kp_iload_n C dX10_fits_16 rfl (lv_at hl 1 rfl) ?_
    refine kp_xishl C dX10_fits_17 hF (fun hF => ?_)
    obtain ⟨r_2, σ_3, hc, hF⟩ := kp_bd_s hF
    refine kp_ci h (kp_rV (k := 0) (As := [kp_iv (1 * 2 ^ (Int.toNat a1))]) (rest := []) C G h (kc_X10_fitsOf  hc) q5_94 q5_96 q0_4_14 q1_11 q5_97 ⟨rfl, hd_X10_fitsOf⟩ (by decide) kp_lM0 rfl rfl hl.1 rfl (Nat.le_of_ble_eq_true rfl) dX10_fits_18) (fun H locs h => ?_)
    exact kp_reti C hr hlk G h dX10_fits_21 hF
  · refine kp_iconst C dX10_fits_8 ?_
    exact kp_reti C hr hlk G h dX10_fits_9 hF
def kl_X10_divisor_4  : Nat → Int → Int → (Int → kp_R) → kp_R
  | 0, _, _, _ => none
  | n + 1, x2_1, x3_1, k => kp_eq x3_1 0 (k x2_1) (kp_ck (0 ≤ x2_1 ∧ x2_1 ≤ 2147483647 ∧ 0 < x3_1 ∧ x3_1 ≤ 2147483647) (kp_lt ((x2_1 % x3_1) : Int) (fun x4_0 => kp_lt (x3_1 : Int) (fun x2_3 => kp_lt (x4_0 : Int) (fun x3_2 => kl_X10_divisor_4 n x2_3 x3_2 k)))))
def kf_X10_divisor  (a1 : Int) (a2 : Int) (σ_0 : kp_W) : kp_R :=
  kp_lt (a1 : Int) (fun x2_0 => kp_lt (a2 : Int) (fun x3_0 => kl_X10_divisor_4 kp_fu x2_0 x3_0 (fun (x2_2 : Int) => some (x2_2, σ_0))))
set_option maxRecDepth 100000 in
set_option maxHeartbeats 4000000 in
theorem kc_X10_divisor {l : Launch} {X : kp_X} {a1 : Int} {a2 : Int}  {σ_0 σ' : kp_W} {r : Int}   (hF : (kf_X10_divisor a1 a2 σ_0) = some (r, σ')) : kp_Met l yX10_divisor cX10_divisor 5 (some .int) 0 X kp_lM 10 σ_0 [kp_iv a1, kp_iv a2] (kp_Qi X kp_lM 10 σ' r) := by
  refine kp_body pnX10 (Nat.le_of_ble_eq_true rfl) ?_
  intro p e s m args below meth c ls C hr hlk G h hl
  unfold kf_X10_divisor at hF
  have hl : lv_has ls 5 [(0, kp_iv a1), (1, kp_iv a2)] := hl
  refine kp_iload_n C dX10_divisor_0 rfl (lv_at hl 0 rfl) ?_
  refine kp_istore_n (lv' := fun x2_0 => [(2, kp_iv x2_0), (0, kp_iv a1), (1, kp_iv a2)]) C dX10_divisor_1 rfl hl (by decide) (fun _ => rfl) hF (fun x2_0 ls hl hF => ?_)
  refine kp_iload_n C dX10_divisor_2 rfl (lv_at hl 2 rfl) ?_
  refine kp_istore_n (lv' := fun x3_0 => [(3, kp_iv x3_0), (2, kp_iv x2_0), (0, kp_iv a1), (1, kp_iv a2)]) C dX10_divisor_3 rfl hl (by decide) (fun _ => rfl) hF (fun x3_0 ls hl hF => ?_)
  have L4 : ∀ (n : Nat) (x2_1 : Int) (x3_1 : Int) (k : Int → kp_R) (H : Heap) (locs : List Loc) (ls : Array Slot), kp_H X kp_lM 10 s σ_0 H locs → lv_has ls 5 [(2, kp_iv x2_1), (3, kp_iv x3_1)] → (∀ (x2_2 : Int) (H : Heap) (locs : List Loc) (ls : Array Slot), kp_H X kp_lM 10 s σ_0 H locs → lv_has ls 5 [(2, kp_iv x2_2)] → k x2_2 = some (r, σ') → W p l e (kp_rm 0) s m args below meth c H locs 0 0 (MQ below (kp_Qi X kp_lM 10 σ' r) args s 0 0 (kp_A X 10)) (F0 m 21 ls [])) → kl_X10_divisor_4 n x2_1 x3_1 k = some (r, σ') → W p l e (kp_rm 0) s m args below meth c H locs 0 0 (MQ below (kp_Qi X kp_lM 10 σ' r) args s 0 0 (kp_A X 10)) (F0 m 4 ls []) := by
    intro n
    induction n with
    | zero =>
      intro x2_1 x3_1 k H locs ls h hl K hF
      rw [kl_X10_divisor_4] at hF
      cases hF
    | succ n ih =>
      intro x2_1 x3_1 k H locs ls h hl K hF
      rw [kl_X10_divisor_4] at hF
      refine kp_iload_n C dX10_divisor_4 rfl (lv_at hl 1 rfl) ?_
      refine kp_if_eq (tgt := 21) C dX10_divisor_5 (by decide) hF (fun hF => ?_) (fun hF => ?_)
      · exact K _ _ _ _ h (lv_sub hl [0] rfl) hF
      · refine kp_iload_n C dX10_divisor_8 rfl (lv_at hl 0 rfl) ?_
        refine kp_iload_n C dX10_divisor_9 rfl (lv_at hl 1 rfl) ?_
        refine kp_irem C dX10_divisor_10 hF (fun hF => ?_)
        refine kp_istore (lv' := fun x4_0 => [(4, kp_iv x4_0), (2, kp_iv x2_1), (3, kp_iv x3_1)]) C dX10_divisor_11 hl (by decide) (fun _ => rfl) hF (fun x4_0 ls hl hF => ?_)
        refine kp_iload_n C dX10_divisor_13 rfl (lv_at hl 2 rfl) ?_
        refine kp_istore_n (lv' := fun x2_3 => [(2, kp_iv x2_3), (4, kp_iv x4_0), (3, kp_iv x3_1)]) C dX10_divisor_14 rfl hl (by decide) (fun _ => rfl) hF (fun x2_3 ls hl hF => ?_)
        refine kp_iload C dX10_divisor_15 (lv_at hl 1 rfl) ?_
        refine kp_istore_n (lv' := fun x3_2 => [(3, kp_iv x3_2), (2, kp_iv x2_3), (4, kp_iv x4_0)]) C dX10_divisor_17 rfl hl (by decide) (fun _ => rfl) hF (fun x3_2 ls hl hF => ?_)
        refine kp_goto (tgt := 4) C dX10_divisor_18 (by decide) ?_
        exact ih _ _ k _ _ _ h (lv_sub hl [1, 0] rfl) K hF
  refine L4 kp_fu _ _ _ _ _ _ h (lv_sub hl [1, 0] rfl) (fun x2_2 H locs ls h hl hF => ?_) hF
  clear L4
  refine kp_iload_n C dX10_divisor_21 rfl (lv_at hl 0 rfl) ?_
  exact kp_reti C hr hlk G h dX10_divisor_22 hF
def kl_X10_odds_28  : Nat → Int → Int → kp_W → (Int → kp_W → kp_R) → kp_R
  | 0, _, _, _, _ => none
  | n + 1, x3_1, x4_1, σ_4, k => kp_ls x4_1 (σ_4 1 0) (kp_ck (0 ≤ x4_1 ∧ x4_1 < 32) (kp_bd (kf_X10_fitsOf (1 * 2 ^ (Int.toNat x4_1)) σ_4) (fun r_6 σ_9 => kp_bd (kf_X10_count1 r_6 σ_9) (fun r_7 σ_10 => kp_lt ((x3_1 + r_7) : Int) (fun x3_3 => kp_lt (x4_1 + 1) (fun x4_3 => kl_X10_odds_28 n x3_3 x4_3 σ_10 k)))))) (k x3_1 σ_4)
def kf_X10_odds  (a1 : Int) (a2 : Int) (σ_0 : kp_W) : kp_R :=
  kp_bd (kf_X10_isNoise a1 σ_0) (fun r_0 σ_1 => kp_eq r_0 0 (some ((-1), σ_1)) (kp_bd (kf_X10_in a2 0 1 σ_1) (fun r_1 σ_2 => kp_eq r_1 0 (some ((-1), σ_2)) (kp_bd (kf_X10_goes σ_2) (fun r_2 σ_3 => kp_lt (0 : Int) (fun x3_0 => kp_lt (0 : Int) (fun x4_0 => kl_X10_odds_28 kp_fu x3_0 x4_0 σ_3 (fun (x3_2 : Int) (σ_5 : kp_W) => kp_eq x3_2 0 (some (a2, σ_5)) (kp_ck (0 ≤ a1 ∧ a1 < 32) (kp_bd (kf_X10_fitsOf (1 * 2 ^ (Int.toNat a1)) σ_5) (fun r_3 σ_6 => kp_bd (kf_X10_count1 r_3 σ_6) (fun r_4 σ_7 => kp_lt (r_4 : Int) (fun x4_2 => kp_jn (fun (v_0 : Int) => kp_bd (kf_X10_divisor x4_2 x3_2 σ_7) (fun r_5 σ_8 => kp_ck (0 ≤ v_0 ∧ v_0 ≤ 2147483647 ∧ 0 < r_5 ∧ r_5 ≤ 2147483647) (some ((v_0 / r_5), σ_8)))) (fun j87 => kp_eq a2 0 (j87 x4_2) (j87 x3_2)))))))))))))))
set_option maxRecDepth 100000 in
set_option maxHeartbeats 4000000 in
theorem kc_X10_odds {l : Launch} {X : kp_X} {a1 : Int} {a2 : Int}  {σ_0 σ' : kp_W} {r : Int}   (hF : (kf_X10_odds a1 a2 σ_0) = some (r, σ')) : kp_Met l yX10_odds cX10_odds 5 (some .int) 6 X kp_lM 10 σ_0 [.ref (kp_ad X 0), kp_iv a1, kp_iv a2] (kp_Qi X kp_lM 10 σ' r) := by
  refine kp_body pnX10 (Nat.le_of_ble_eq_true rfl) ?_
  intro p e s m args below meth c ls C hr hlk G h hl
  unfold kf_X10_odds at hF
  have hl : lv_has ls 5 [(0, .ref (kp_ad X 0)), (1, kp_iv a1), (2, kp_iv a2)] := hl
  refine kp_aload_n C dX10_odds_0 rfl (lv_at hl 0 rfl) ?_
  refine kp_iload_n C dX10_odds_1 rfl (lv_at hl 1 rfl) ?_
  obtain ⟨r_0, σ_1, hc, hF⟩ := kp_bd_s hF
  refine kp_ci h (kp_rV (k := 0) (As := [kp_iv a1]) (rest := []) C G h (kc_X10_isNoise  hc) q4_239 q5_1 q0_3_15 q1_11 q5_2 ⟨rfl, hd_X10_isNoise⟩ (by decide) kp_lM0 rfl rfl hl.1 rfl (Nat.le_of_ble_eq_true rfl) dX10_odds_2) (fun H locs h => ?_)
  refine kp_if_eq (tgt := 17) C dX10_odds_5 (by decide) hF (fun hF => ?_) (fun hF => ?_)
  · refine kp_iconst C dX10_odds_17 ?_
    exact kp_reti C hr hlk G h dX10_odds_18 hF
  · refine kp_iload_n C dX10_odds_8 rfl (lv_at hl 2 rfl) ?_
    refine kp_iconst C dX10_odds_9 ?_
    refine kp_iconst C dX10_odds_10 ?_
    obtain ⟨r_1, σ_2, hc, hF⟩ := kp_bd_s hF
    refine kp_ci h (kp_rS (As := [kp_iv a2, kp_iv 0, kp_iv 1]) (rest := []) C G h (kc_X10_in  hc) q4_128 q4_129 q1_11 q4_130 hd_X10_in (by decide) rfl hl.1 rfl (Nat.le_of_ble_eq_true rfl) dX10_odds_11) (fun H locs h => ?_)
    refine kp_if_ne (tgt := 19) C dX10_odds_14 (by decide) hF (fun hF => ?_) (fun hF => ?_)
    · refine kp_aload_n C dX10_odds_19 rfl (lv_at hl 0 rfl) ?_
      obtain ⟨r_2, σ_3, hc, hF⟩ := kp_bd_s hF
      refine kp_cv h (kp_rV (k := 0) (As := []) (rest := []) C G h (kc_X10_goes  hc) q5_11 q5_13 q0_4_0 q1_11 q5_14 ⟨rfl, hd_X10_goes⟩ (by decide) kp_lM0 rfl rfl hl.1 rfl (Nat.le_of_ble_eq_true rfl) dX10_odds_20) (fun H locs h => ?_)
      refine kp_iconst C dX10_odds_23 ?_
      refine kp_istore_n (lv' := fun x3_0 => [(3, kp_iv x3_0), (0, .ref (kp_ad X 0)), (1, kp_iv a1), (2, kp_iv a2)]) C dX10_odds_24 rfl hl (by decide) (fun _ => rfl) hF (fun x3_0 ls hl hF => ?_)
      refine kp_iconst C dX10_odds_25 ?_
      refine kp_istore (lv' := fun x4_0 => [(4, kp_iv x4_0), (3, kp_iv x3_0), (0, .ref (kp_ad X 0)), (1, kp_iv a1), (2, kp_iv a2)]) C dX10_odds_26 hl (by decide) (fun _ => rfl) hF (fun x4_0 ls hl hF => ?_)
      have L28 : ∀ (n : Nat) (x3_1 : Int) (x4_1 : Int) (σ_4 : kp_W) (k : Int → kp_W → kp_R) (H : Heap) (locs : List Loc) (ls : Array Slot), kp_H X kp_lM 10 s σ_4 H locs → lv_has ls 5 [(0, .ref (kp_ad X 0)), (1, kp_iv a1), (2, kp_iv a2), (3, kp_iv x3_1), (4, kp_iv x4_1)] → (∀ (x3_2 : Int) (σ_5 : kp_W) (H : Heap) (locs : List Loc) (ls : Array Slot), kp_H X kp_lM 10 s σ_5 H locs → lv_has ls 5 [(0, .ref (kp_ad X 0)), (1, kp_iv a1), (2, kp_iv a2), (3, kp_iv x3_2)] → k x3_2 σ_5 = some (r, σ') → W p l e (kp_rm 6) s m args below meth c H locs 0 0 (MQ below (kp_Qi X kp_lM 10 σ' r) args s 0 0 (kp_A X 10)) (F0 m 59 ls [])) → kl_X10_odds_28 n x3_1 x4_1 σ_4 k = some (r, σ') → W p l e (kp_rm 6) s m args below meth c H locs 0 0 (MQ below (kp_Qi X kp_lM 10 σ' r) args s 0 0 (kp_A X 10)) (F0 m 28 ls []) := by
        intro n
        induction n with
        | zero =>
          intro x3_1 x4_1 σ_4 k H locs ls h hl K hF
          rw [kl_X10_odds_28] at hF
          cases hF
        | succ n ih =>
          intro x3_1 x4_1 σ_4 k H locs ls h hl K hF
          rw [kl_X10_odds_28] at hF
          refine kp_iload C dX10_odds_28 (lv_at hl 4 rfl) ?_
          refine kp_aload_n C dX10_odds_30 rfl (lv_at hl 0 rfl) ?_
          refine kp_getr C G h kp_lM0 rfl inWX10 (j := 1) (by decide) q4_45 rfl dX10_odds_31 ?_
          refine kp_iconst C dX10_odds_34 ?_
          refine kp_iald0 C G h (i := 0) (n := 1066) kp_lM1 (by decide) (by decide) dX10_odds_35 ?_
          refine kp_icmp_ge (tgt := 59) C dX10_odds_36 (by decide) hF (fun hF => ?_) (fun hF => ?_)
          · exact K _ _ _ _ _ h (lv_sub hl [0, 1, 2, 3] rfl) hF
          · refine kp_iload_n C dX10_odds_39 rfl (lv_at hl 3 rfl) ?_
            refine kp_aload_n C dX10_odds_40 rfl (lv_at hl 0 rfl) ?_
            refine kp_iconst C dX10_odds_41 ?_
            refine kp_iload C dX10_odds_42 (lv_at hl 4 rfl) ?_
            refine kp_xishl C dX10_odds_44 hF (fun hF => ?_)
            obtain ⟨r_6, σ_9, hc, hF⟩ := kp_bd_s hF
            refine kp_ci h (kp_rV (k := 0) (As := [kp_iv (1 * 2 ^ (Int.toNat x4_1))]) (rest := [kp_iv x3_1]) C G h (kc_X10_fitsOf  hc) q5_94 q5_96 q0_4_14 q1_11 q5_97 ⟨rfl, hd_X10_fitsOf⟩ (by decide) kp_lM0 rfl rfl hl.1 rfl (Nat.le_of_ble_eq_true rfl) dX10_odds_45) (fun H locs h => ?_)
            obtain ⟨r_7, σ_10, hc, hF⟩ := kp_bd_s hF
            refine kp_ci h (kp_rS (As := [kp_iv r_6]) (rest := [kp_iv x3_1]) C G h (kc_X10_count1  hc) q5_102 q5_103 q1_11 q5_104 hd_X10_count1 (by decide) rfl hl.1 rfl (Nat.le_of_ble_eq_true rfl) dX10_odds_48) (fun H locs h => ?_)
            refine kp_iadd C dX10_odds_51 ?_
            refine kp_istore_n (lv' := fun x3_3 => [(3, kp_iv x3_3), (0, .ref (kp_ad X 0)), (1, kp_iv a1), (2, kp_iv a2), (4, kp_iv x4_1)]) C dX10_odds_52 rfl hl (by decide) (fun _ => rfl) hF (fun x3_3 ls hl hF => ?_)
            refine kp_iinc (k := 4) (lv' := fun x4_3 => [(4, kp_iv x4_3), (3, kp_iv x3_3), (0, .ref (kp_ad X 0)), (1, kp_iv a1), (2, kp_iv a2)]) C dX10_odds_53 hl rfl (by decide) (fun _ => rfl) hF (fun x4_3 ls hl hF => ?_)
            refine kp_goto (tgt := 28) C dX10_odds_56 (by decide) ?_
            exact ih _ _ _ k _ _ _ h (lv_sub hl [2, 3, 4, 1, 0] rfl) K hF
      refine L28 kp_fu _ _ _ _ _ _ _ h (lv_sub hl [2, 3, 4, 1, 0] rfl) (fun x3_2 σ_5 H locs ls h hl hF => ?_) hF
      clear L28
      refine kp_iload_n C dX10_odds_59 rfl (lv_at hl 3 rfl) ?_
      refine kp_if_ne (tgt := 65) C dX10_odds_60 (by decide) hF (fun hF => ?_) (fun hF => ?_)
      · refine kp_aload_n C dX10_odds_65 rfl (lv_at hl 0 rfl) ?_
        refine kp_iconst C dX10_odds_66 ?_
        refine kp_iload_n C dX10_odds_67 rfl (lv_at hl 1 rfl) ?_
        refine kp_xishl C dX10_odds_68 hF (fun hF => ?_)
        obtain ⟨r_3, σ_6, hc, hF⟩ := kp_bd_s hF
        refine kp_ci h (kp_rV (k := 0) (As := [kp_iv (1 * 2 ^ (Int.toNat a1))]) (rest := []) C G h (kc_X10_fitsOf  hc) q5_94 q5_96 q0_4_14 q1_11 q5_97 ⟨rfl, hd_X10_fitsOf⟩ (by decide) kp_lM0 rfl rfl hl.1 rfl (Nat.le_of_ble_eq_true rfl) dX10_odds_69) (fun H locs h => ?_)
        obtain ⟨r_4, σ_7, hc, hF⟩ := kp_bd_s hF
        refine kp_ci h (kp_rS (As := [kp_iv r_3]) (rest := []) C G h (kc_X10_count1  hc) q5_102 q5_103 q1_11 q5_104 hd_X10_count1 (by decide) rfl hl.1 rfl (Nat.le_of_ble_eq_true rfl) dX10_odds_72) (fun H locs h => ?_)
        refine kp_istore (lv' := fun x4_2 => [(4, kp_iv x4_2), (0, .ref (kp_ad X 0)), (1, kp_iv a1), (2, kp_iv a2), (3, kp_iv x3_2)]) C dX10_odds_75 hl (by decide) (fun _ => rfl) hF (fun x4_2 ls hl hF => ?_)
        refine kp_iload_n C dX10_odds_77 rfl (lv_at hl 3 rfl) ?_
        obtain ⟨j87, ej87, hF⟩ := kp_jn_s hF
        have J87 : ∀ (v_0 : Int), ∀ (H : Heap) (locs : List Loc) (ls : Array Slot), kp_H X kp_lM 10 s σ_7 H locs → lv_has ls 5 [(3, kp_iv x3_2), (4, kp_iv x4_2)] → j87 v_0 = some (r, σ') → W p l e (kp_rm 6) s m args below meth c H locs 0 0 (MQ below (kp_Qi X kp_lM 10 σ' r) args s 0 0 (kp_A X 10)) (F0 m 87 ls [kp_iv v_0]) := by
          intro v_0 H locs ls h hl hF
          rw [ej87] at hF
          refine kp_iload C dX10_odds_87 (lv_at hl 1 rfl) ?_
          refine kp_iload_n C dX10_odds_89 rfl (lv_at hl 0 rfl) ?_
          obtain ⟨r_5, σ_8, hc, hF⟩ := kp_bd_s hF
          refine kp_ci h (kp_rS (As := [kp_iv x4_2, kp_iv x3_2]) (rest := [kp_iv v_0]) C G h (kc_X10_divisor  hc) q5_105 q5_106 q1_11 q5_107 hd_X10_divisor (by decide) rfl hl.1 rfl (Nat.le_of_ble_eq_true rfl) dX10_odds_90) (fun H locs h => ?_)
          refine kp_idiv C dX10_odds_93 hF (fun hF => ?_)
          exact kp_reti C hr hlk G h dX10_odds_94 hF
        clear ej87
        refine kp_if_ne (tgt := 86) C dX10_odds_78 (by decide) hF (fun hF => ?_) (fun hF => ?_)
        · refine kp_iload_n C dX10_odds_86 rfl (lv_at hl 4 rfl) ?_
          exact J87 _ _ _ _ h (lv_sub hl [4, 0] rfl) hF
        · refine kp_iload C dX10_odds_81 (lv_at hl 0 rfl) ?_
          refine kp_goto (tgt := 87) C dX10_odds_83 (by decide) ?_
          exact J87 _ _ _ _ h (lv_sub hl [4, 0] rfl) hF
      · refine kp_iload_n C dX10_odds_63 rfl (lv_at hl 2 rfl) ?_
        exact kp_reti C hr hlk G h dX10_odds_64 hF
    · refine kp_iconst C dX10_odds_17 ?_
      exact kp_reti C hr hlk G h dX10_odds_18 hF
