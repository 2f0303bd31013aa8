-- by program (wip/whole/gen/ctors.py): a constructor
def kp_sK0 : kp_W := fun k => match k with
  | 6 => kp_sH 1
  | 25 => kp_sH 1
  | 41 => kp_sH 1
  | _ => fun _ => 0
theorem hd_X9_init : yX9_init.cls ≠ "java/lang/invoke/MethodHandle" ∧ yX9_init.cls ≠ "java/lang/invoke/VarHandle" ∧ (parseMethodDescriptor yX9_init.desc).map (fun d => d.parameters.length) = some 0 := by decide +kernel
set_option maxRecDepth 100000 in
set_option maxHeartbeats 4000000 in
theorem kC_X9 {l : Launch} {X : kp_X} : kp_Cn l yX9_init cX9_init 4 57 2462 X 8 [.null, .null, kp_iv 0, .null, .null, .null, kp_iv 0, .null] kp_lK 58 kp_sK0 := by
  refine cr_body pnX9 rfl ?_
  intro h p e s m args below meth c ls C hin2 hr hlk G S hl
  refine cr_obj C hl q1_25 dX9_init_0 dX9_init_1 ⟨by decide, by decide⟩ ?_
  generalize hH : s.heap = H at S ⊢
  generalize ([] : List Loc) = locs at S ⊢
  refine lv_aload_n C.1 C.2.1 dX9_init_4 rfl (lv_at hl 0 rfl) ?_
  refine cs_new (k := 1) C G S (by simp [kp_ws_len]) inWX1 tyX1 tyX1_ok q1_28 q1_29 q1_2 (ci := 1) rfl (fs := [.null, .null, .null, .null, .null, kp_iv 0]) (fun j hj => by rcases (show j = 0 ∨ j = 1 ∨ j = 2 ∨ j = 3 ∨ j = 4 ∨ j = 5 by omega) with rfl | rfl | rfl | rfl | rfl | rfl <;> rfl) (Nat.le_of_ble_eq_true rfl) (Nat.le_of_ble_eq_true rfl) dX9_init_5 (fun H S => ?_)
  refine lv_dup C.1 C.2.1 dX9_init_8 rfl ?_
  refine cs_mkN (wr := []) (k := 1) C G hl.1 S (by simp [kp_ws_len]) kC_X1 rfl (host := "KnockPipes") (List.mem_of_getElem? (l := kp_nm) (i := 0) rfl) q1_31 q1_2 q1_32 rfl hd_X1_init (by exact ⟨Nat.le_of_ble_eq_true rfl, Nat.le_of_ble_eq_true rfl⟩) (by exact ⟨Nat.le_of_ble_eq_true rfl, Nat.le_of_ble_eq_true rfl⟩) (by exact Nat.le_of_ble_eq_true rfl) dX9_init_9 (fun H locs S => ?_)
  have S : kp_CS X h s ((h, .inr (8, [.null, .null, kp_iv 0, .null, .null, .null, kp_iv 0, .null])) :: (kp_ws (kp_Xh X (h + 1)) kp_lX1 19 kp_sO)) H locs 19 := S
  refine cr_putF C hin2 G S inWX9 tyX9 tyX9_ok nmX9 (ci := 8) rfl 0 (by decide) q2_14 rfl rfl (v := .ref (h + 1)) (tyX9_ok 0 (by decide)) rfl rfl (Nat.le_of_ble_eq_true rfl) dX9_init_12 (fun H locs S => ?_)
  have S : kp_CS X h s ((h, .inr (8, [.ref (h + 1), .null, kp_iv 0, .null, .null, .null, kp_iv 0, .null])) :: (kp_ws (kp_Xh X (h + 1)) kp_lX1 19 kp_sO)) H locs 19 := S
  refine lv_aload_n C.1 C.2.1 dX9_init_15 rfl (lv_at hl 0 rfl) ?_
  refine cs_new (k := 20) C G S (by simp [kp_ws_len]) inWX1 tyX1 tyX1_ok q1_28 q1_29 q1_2 (ci := 1) rfl (fs := [.null, .null, .null, .null, .null, kp_iv 0]) (fun j hj => by rcases (show j = 0 ∨ j = 1 ∨ j = 2 ∨ j = 3 ∨ j = 4 ∨ j = 5 by omega) with rfl | rfl | rfl | rfl | rfl | rfl <;> rfl) (Nat.le_of_ble_eq_true rfl) (Nat.le_of_ble_eq_true rfl) dX9_init_16 (fun H S => ?_)
  refine lv_dup C.1 C.2.1 dX9_init_19 rfl ?_
  refine cs_mkN (wr := (kp_ws (kp_Xh X (h + 1)) kp_lX1 19 kp_sO)) (k := 20) C G hl.1 S (by simp [kp_ws_len]) kC_X1 rfl (host := "KnockPipes") (List.mem_of_getElem? (l := kp_nm) (i := 0) rfl) q1_31 q1_2 q1_32 rfl hd_X1_init (by exact ⟨Nat.le_of_ble_eq_true rfl, Nat.le_of_ble_eq_true rfl⟩) (by exact ⟨Nat.le_of_ble_eq_true rfl, Nat.le_of_ble_eq_true rfl⟩) (by exact Nat.le_of_ble_eq_true rfl) dX9_init_20 (fun H locs S => ?_)
  have S : kp_CS X h s ((h, .inr (8, [.ref (h + 1), .null, kp_iv 0, .null, .null, .null, kp_iv 0, .null])) :: (kp_ws (kp_Xh X (h + 1)) kp_lX1 19 kp_sO ++ kp_ws (kp_Xh X (h + 20)) kp_lX1 19 kp_sO)) H locs 38 := S
  refine cr_putF C hin2 G S inWX9 tyX9 tyX9_ok nmX9 (ci := 8) rfl 1 (by decide) q2_15 rfl rfl (v := .ref (h + 20)) (tyX9_ok 1 (by decide)) rfl rfl (Nat.le_of_ble_eq_true rfl) dX9_init_23 (fun H locs S => ?_)
  have S : kp_CS X h s ((h, .inr (8, [.ref (h + 1), .ref (h + 20), kp_iv 0, .null, .null, .null, kp_iv 0, .null])) :: (kp_ws (kp_Xh X (h + 1)) kp_lX1 19 kp_sO ++ kp_ws (kp_Xh X (h + 20)) kp_lX1 19 kp_sO)) H locs 38 := S
  refine lv_aload_n C.1 C.2.1 dX9_init_26 rfl (lv_at hl 0 rfl) ?_
  refine lv_iconst (v := Int32.ofInt 0) C.1 C.2.1 dX9_init_27 rfl ?_
  refine cr_put C G S inWX9 tyX9 tyX9_ok nmX9 (ci := 8) rfl 2 (by decide) q2_16 rfl (v := kp_iv 0) (tyX9_ok 2 (by decide)) rfl rfl (Nat.le_of_ble_eq_true rfl) dX9_init_28 (fun H locs S => ?_)
  have S : kp_CS X h s ((h, .inr (8, [.ref (h + 1), .ref (h + 20), kp_iv 0, .null, .null, .null, kp_iv 0, .null])) :: (kp_ws (kp_Xh X (h + 1)) kp_lX1 19 kp_sO ++ kp_ws (kp_Xh X (h + 20)) kp_lX1 19 kp_sO)) H locs 38 := S
  refine lv_aload_n C.1 C.2.1 dX9_init_31 rfl (lv_at hl 0 rfl) ?_
  refine cs_new (k := 39) C G S (by simp [kp_ws_len]) inWX5 tyX5 tyX5_ok q1_182 q1_183 q1_8 (ci := 5) rfl (fs := [.null, .null, kp_iv 0]) (fun j hj => by rcases (show j = 0 ∨ j = 1 ∨ j = 2 by omega) with rfl | rfl | rfl <;> rfl) (Nat.le_of_ble_eq_true rfl) (Nat.le_of_ble_eq_true rfl) dX9_init_32 (fun H S => ?_)
  refine lv_dup C.1 C.2.1 dX9_init_35 rfl ?_
  refine cs_mkN (wr := (kp_ws (kp_Xh X (h + 1)) kp_lX1 19 kp_sO ++ kp_ws (kp_Xh X (h + 20)) kp_lX1 19 kp_sO)) (k := 39) C G hl.1 S (by simp [kp_ws_len]) kC_X5 rfl (host := "KnockPipes") (List.mem_of_getElem? (l := kp_nm) (i := 1) rfl) q1_185 q1_8 q1_186 rfl hd_X5_init (by exact ⟨Nat.le_of_ble_eq_true rfl, Nat.le_of_ble_eq_true rfl⟩) (by exact ⟨Nat.le_of_ble_eq_true rfl, Nat.le_of_ble_eq_true rfl⟩) (by exact Nat.le_of_ble_eq_true rfl) dX9_init_36 (fun H locs S => ?_)
  have S : kp_CS X h s ((h, .inr (8, [.ref (h + 1), .ref (h + 20), kp_iv 0, .null, .null, .null, kp_iv 0, .null])) :: (kp_ws (kp_Xh X (h + 1)) kp_lX1 19 kp_sO ++ kp_ws (kp_Xh X (h + 20)) kp_lX1 19 kp_sO ++ kp_ws (kp_Xh X (h + 39)) kp_lX5 9 kp_sR)) H locs 47 := S
  refine cr_putF C hin2 G S inWX9 tyX9 tyX9_ok nmX9 (ci := 8) rfl 3 (by decide) q2_17 rfl rfl (v := .ref (h + 39)) (tyX9_ok 3 (by decide)) rfl rfl (Nat.le_of_ble_eq_true rfl) dX9_init_39 (fun H locs S => ?_)
  have S : kp_CS X h s ((h, .inr (8, [.ref (h + 1), .ref (h + 20), kp_iv 0, .ref (h + 39), .null, .null, kp_iv 0, .null])) :: (kp_ws (kp_Xh X (h + 1)) kp_lX1 19 kp_sO ++ kp_ws (kp_Xh X (h + 20)) kp_lX1 19 kp_sO ++ kp_ws (kp_Xh X (h + 39)) kp_lX5 9 kp_sR)) H locs 47 := S
  refine lv_aload_n C.1 C.2.1 dX9_init_42 rfl (lv_at hl 0 rfl) ?_
  refine cs_new (k := 48) C G S (by simp [kp_ws_len]) inWX6 tyX6 tyX6_ok q1_204 q1_205 q1_9 (ci := 6) rfl (fs := [.null, .null, .null, .null, .null, .null]) (fun j hj => by rcases (show j = 0 ∨ j = 1 ∨ j = 2 ∨ j = 3 ∨ j = 4 ∨ j = 5 by omega) with rfl | rfl | rfl | rfl | rfl | rfl <;> rfl) (Nat.le_of_ble_eq_true rfl) (Nat.le_of_ble_eq_true rfl) dX9_init_43 (fun H S => ?_)
  refine lv_dup C.1 C.2.1 dX9_init_46 rfl ?_
  refine cs_mkN (wr := (kp_ws (kp_Xh X (h + 1)) kp_lX1 19 kp_sO ++ kp_ws (kp_Xh X (h + 20)) kp_lX1 19 kp_sO ++ kp_ws (kp_Xh X (h + 39)) kp_lX5 9 kp_sR)) (k := 48) C G hl.1 S (by simp [kp_ws_len]) kC_X6 rfl (host := "KnockPipes") (List.mem_of_getElem? (l := kp_nm) (i := 2) rfl) q1_207 q1_9 q1_208 rfl hd_X6_init (by exact ⟨Nat.le_of_ble_eq_true rfl, Nat.le_of_ble_eq_true rfl⟩) (by exact ⟨Nat.le_of_ble_eq_true rfl, Nat.le_of_ble_eq_true rfl⟩) (by exact Nat.le_of_ble_eq_true rfl) dX9_init_47 (fun H locs S => ?_)
  have S : kp_CS X h s ((h, .inr (8, [.ref (h + 1), .ref (h + 20), kp_iv 0, .ref (h + 39), .null, .null, kp_iv 0, .null])) :: (kp_ws (kp_Xh X (h + 1)) kp_lX1 19 kp_sO ++ kp_ws (kp_Xh X (h + 20)) kp_lX1 19 kp_sO ++ kp_ws (kp_Xh X (h + 39)) kp_lX5 9 kp_sR ++ kp_ws (kp_Xh X (h + 48)) kp_lX6 7 kp_s0)) H locs 54 := S
  refine cr_putF C hin2 G S inWX9 tyX9 tyX9_ok nmX9 (ci := 8) rfl 4 (by decide) q2_18 rfl rfl (v := .ref (h + 48)) (tyX9_ok 4 (by decide)) rfl rfl (Nat.le_of_ble_eq_true rfl) dX9_init_50 (fun H locs S => ?_)
  have S : kp_CS X h s ((h, .inr (8, [.ref (h + 1), .ref (h + 20), kp_iv 0, .ref (h + 39), .ref (h + 48), .null, kp_iv 0, .null])) :: (kp_ws (kp_Xh X (h + 1)) kp_lX1 19 kp_sO ++ kp_ws (kp_Xh X (h + 20)) kp_lX1 19 kp_sO ++ kp_ws (kp_Xh X (h + 39)) kp_lX5 9 kp_sR ++ kp_ws (kp_Xh X (h + 48)) kp_lX6 7 kp_s0)) H locs 54 := S
  refine lv_aload_n C.1 C.2.1 dX9_init_53 rfl (lv_at hl 0 rfl) ?_
  refine cs_new (k := 55) C G S (by simp [kp_ws_len]) inWX0 tyX0 tyX0_ok q1_230 q1_231 q1_10 (ci := 0) rfl (fs := [.null, kp_iv 0, kp_iv 0, kp_iv 0, kp_iv 0]) (fun j hj => by rcases (show j = 0 ∨ j = 1 ∨ j = 2 ∨ j = 3 ∨ j = 4 by omega) with rfl | rfl | rfl | rfl | rfl <;> rfl) (Nat.le_of_ble_eq_true rfl) (Nat.le_of_ble_eq_true rfl) dX9_init_54 (fun H S => ?_)
  refine lv_dup C.1 C.2.1 dX9_init_57 rfl ?_
  refine cs_mkN (wr := (kp_ws (kp_Xh X (h + 1)) kp_lX1 19 kp_sO ++ kp_ws (kp_Xh X (h + 20)) kp_lX1 19 kp_sO ++ kp_ws (kp_Xh X (h + 39)) kp_lX5 9 kp_sR ++ kp_ws (kp_Xh X (h + 48)) kp_lX6 7 kp_s0)) (k := 55) C G hl.1 S (by simp [kp_ws_len]) kC_X0 rfl (host := "KnockPipes") (List.mem_of_getElem? (l := kp_nm) (i := 3) rfl) q1_233 q1_10 q1_234 rfl hd_X0_init (by exact ⟨Nat.le_of_ble_eq_true rfl, Nat.le_of_ble_eq_true rfl⟩) (by exact ⟨Nat.le_of_ble_eq_true rfl, Nat.le_of_ble_eq_true rfl⟩) (by exact Nat.le_of_ble_eq_true rfl) dX9_init_58 (fun H locs S => ?_)
  have S : kp_CS X h s ((h, .inr (8, [.ref (h + 1), .ref (h + 20), kp_iv 0, .ref (h + 39), .ref (h + 48), .null, kp_iv 0, .null])) :: (kp_ws (kp_Xh X (h + 1)) kp_lX1 19 kp_sO ++ kp_ws (kp_Xh X (h + 20)) kp_lX1 19 kp_sO ++ kp_ws (kp_Xh X (h + 39)) kp_lX5 9 kp_sR ++ kp_ws (kp_Xh X (h + 48)) kp_lX6 7 kp_s0 ++ kp_ws (kp_Xh X (h + 55)) kp_lX0 2 kp_s0)) H locs 56 := S
  refine cr_putF C hin2 G S inWX9 tyX9 tyX9_ok nmX9 (ci := 8) rfl 5 (by decide) q2_19 rfl rfl (v := .ref (h + 55)) (tyX9_ok 5 (by decide)) rfl rfl (Nat.le_of_ble_eq_true rfl) dX9_init_61 (fun H locs S => ?_)
  have S : kp_CS X h s ((h, .inr (8, [.ref (h + 1), .ref (h + 20), kp_iv 0, .ref (h + 39), .ref (h + 48), .ref (h + 55), kp_iv 0, .null])) :: (kp_ws (kp_Xh X (h + 1)) kp_lX1 19 kp_sO ++ kp_ws (kp_Xh X (h + 20)) kp_lX1 19 kp_sO ++ kp_ws (kp_Xh X (h + 39)) kp_lX5 9 kp_sR ++ kp_ws (kp_Xh X (h + 48)) kp_lX6 7 kp_s0 ++ kp_ws (kp_Xh X (h + 55)) kp_lX0 2 kp_s0)) H locs 56 := S
  refine lv_aload_n C.1 C.2.1 dX9_init_64 rfl (lv_at hl 0 rfl) ?_
  refine lv_iconst (v := Int32.ofInt 0) C.1 C.2.1 dX9_init_65 rfl ?_
  refine cr_put C G S inWX9 tyX9 tyX9_ok nmX9 (ci := 8) rfl 6 (by decide) q2_20 rfl (v := kp_iv 0) (tyX9_ok 6 (by decide)) rfl rfl (Nat.le_of_ble_eq_true rfl) dX9_init_66 (fun H locs S => ?_)
  have S : kp_CS X h s ((h, .inr (8, [.ref (h + 1), .ref (h + 20), kp_iv 0, .ref (h + 39), .ref (h + 48), .ref (h + 55), kp_iv 0, .null])) :: (kp_ws (kp_Xh X (h + 1)) kp_lX1 19 kp_sO ++ kp_ws (kp_Xh X (h + 20)) kp_lX1 19 kp_sO ++ kp_ws (kp_Xh X (h + 39)) kp_lX5 9 kp_sR ++ kp_ws (kp_Xh X (h + 48)) kp_lX6 7 kp_s0 ++ kp_ws (kp_Xh X (h + 55)) kp_lX0 2 kp_s0)) H locs 56 := S
  refine lv_aload_n C.1 C.2.1 dX9_init_69 rfl (lv_at hl 0 rfl) ?_
  refine lv_bipush (v := Int32.ofInt 120) C.1 C.2.1 dX9_init_70 rfl ?_
  refine cs_newa (k := 57) C G S (by simp [kp_ws_len]) (ty := .int) (t0 := 0) (N' := 120) (a0 := (120, .inl fun _ => Int32.ofInt 0)) rfl rfl (fun _ _ z => z) q1_51 (fun _ => rfl) (by decide) (by decide) (Nat.le_of_ble_eq_true rfl) (Nat.le_of_ble_eq_true rfl) (Nat.le_of_ble_eq_true rfl) dX9_init_72 (fun H S => ?_)
  have S : kp_CS X h s ((h, .inr (8, [.ref (h + 1), .ref (h + 20), kp_iv 0, .ref (h + 39), .ref (h + 48), .ref (h + 55), kp_iv 0, .null])) :: (kp_ws (kp_Xh X (h + 1)) kp_lX1 19 kp_sO ++ kp_ws (kp_Xh X (h + 20)) kp_lX1 19 kp_sO ++ kp_ws (kp_Xh X (h + 39)) kp_lX5 9 kp_sR ++ kp_ws (kp_Xh X (h + 48)) kp_lX6 7 kp_s0 ++ kp_ws (kp_Xh X (h + 55)) kp_lX0 2 kp_s0 ++ [(h + 57, .inl (kp_cy X 0, 120, .inl fun _ => Int32.ofInt 0))])) H locs 57 := S
  refine cr_putF C hin2 G S inWX9 tyX9 tyX9_ok nmX9 (ci := 8) rfl 7 (by decide) q2_21 rfl rfl (v := .ref (h + 57)) (tyX9_ok 7 (by decide)) rfl rfl (Nat.le_of_ble_eq_true rfl) dX9_init_74 (fun H locs S => ?_)
  have S : kp_CS X h s ((h, .inr (8, [.ref (h + 1), .ref (h + 20), kp_iv 0, .ref (h + 39), .ref (h + 48), .ref (h + 55), kp_iv 0, .ref (h + 57)])) :: (kp_ws (kp_Xh X (h + 1)) kp_lX1 19 kp_sO ++ kp_ws (kp_Xh X (h + 20)) kp_lX1 19 kp_sO ++ kp_ws (kp_Xh X (h + 39)) kp_lX5 9 kp_sR ++ kp_ws (kp_Xh X (h + 48)) kp_lX6 7 kp_s0 ++ kp_ws (kp_Xh X (h + 55)) kp_lX0 2 kp_s0 ++ [(h + 57, .inl (kp_cy X 0, 120, .inl fun _ => Int32.ofInt 0))])) H locs 57 := S
  have w0 : [(h, .inr (8, [.ref (h + 1), .ref (h + 20), kp_iv 0, .ref (h + 39), .ref (h + 48), .ref (h + 55), kp_iv 0, .ref (h + 57)]))] = kp_ws (kp_Xh X h) kp_lK 1 kp_sK0 := rfl
  have w1 := kp_wsA (a := 1) (n := 19) (lay' := kp_lX1) (σ' := kp_sO) w0 (fun k hk => by match k, hk with | 0, _ => rfl | 1, _ => rfl | 2, _ => rfl | 3, _ => rfl | 4, _ => rfl | 5, _ => rfl | 6, _ => rfl | 7, _ => rfl | 8, _ => rfl | 9, _ => rfl | 10, _ => rfl | 11, _ => rfl | 12, _ => rfl | 13, _ => rfl | 14, _ => rfl | 15, _ => rfl | 16, _ => rfl | 17, _ => rfl | 18, _ => rfl | k + 19, hk => omega)
  have w2 := kp_wsA (a := 20) (n := 19) (lay' := kp_lX1) (σ' := kp_sO) w1 (fun k hk => by match k, hk with | 0, _ => rfl | 1, _ => rfl | 2, _ => rfl | 3, _ => rfl | 4, _ => rfl | 5, _ => rfl | 6, _ => rfl | 7, _ => rfl | 8, _ => rfl | 9, _ => rfl | 10, _ => rfl | 11, _ => rfl | 12, _ => rfl | 13, _ => rfl | 14, _ => rfl | 15, _ => rfl | 16, _ => rfl | 17, _ => rfl | 18, _ => rfl | k + 19, hk => omega)
  have w3 := kp_wsA (a := 39) (n := 9) (lay' := kp_lX5) (σ' := kp_sR) w2 (fun k hk => by match k, hk with | 0, _ => rfl | 1, _ => rfl | 2, _ => rfl | 3, _ => rfl | 4, _ => rfl | 5, _ => rfl | 6, _ => rfl | 7, _ => rfl | 8, _ => rfl | k + 9, hk => omega)
  have w4 := kp_wsA (a := 48) (n := 7) (lay' := kp_lX6) (σ' := kp_s0) w3 (fun k hk => by match k, hk with | 0, _ => rfl | 1, _ => rfl | 2, _ => rfl | 3, _ => rfl | 4, _ => rfl | 5, _ => rfl | 6, _ => rfl | k + 7, hk => omega)
  have w5 := kp_wsA (a := 55) (n := 2) (lay' := kp_lX0) (σ' := kp_s0) w4 (fun k hk => by match k, hk with | 0, _ => rfl | 1, _ => rfl | k + 2, hk => omega)
  have w6 := kp_wsB (a := 57) (e := .inl (kp_cy X 0, 120, .inl fun _ => Int32.ofInt 0)) w5 rfl
  exact cr_ret (lay := kp_lK) (n := 58) (σ := kp_sK0) C hr hlk G S w6 (Nat.le_refl _) (Nat.le_refl _) dX9_init_77
