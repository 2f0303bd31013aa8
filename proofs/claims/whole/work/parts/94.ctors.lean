-- by program (wip/whole/gen/ctors.py): the constructors
def kp_lX7L : List kp_D := [(0, 7, [some 1, none]), (1, 120, [])]
def kp_lX7 : Nat → kp_D := fun k => kp_lX7L.getD k (1, 0, [])
theorem hd_X7_init : yX7_init.cls ≠ "java/lang/invoke/MethodHandle" ∧ yX7_init.cls ≠ "java/lang/invoke/VarHandle" ∧ (parseMethodDescriptor yX7_init.desc).map (fun d => d.parameters.length) = some 0 := by decide +kernel
set_option maxRecDepth 100000 in
set_option maxHeartbeats 4000000 in
theorem kC_X7 {l : Launch} {X : kp_X} : kp_Cn l yX7_init cX7_init 1 1 120 X 7 [.null, kp_iv 0] kp_lX7 2 kp_s0 := by
  refine cr_body pnX7 rfl ?_
  intro h p e s m args below meth c ls C hin2 hr hlk G S hl
  refine cr_obj C hl q1_39 dX7_init_0 dX7_init_1 ⟨by decide, by decide⟩ ?_
  generalize hH : s.heap = H at S ⊢
  generalize ([] : List Loc) = locs at S ⊢
  refine lv_aload_n C.1 C.2.1 dX7_init_4 rfl (lv_at hl 0 rfl) ?_
  refine lv_bipush (v := Int32.ofInt 120) C.1 C.2.1 dX7_init_5 rfl ?_
  refine cr_newa C G S (ty := .int) (t0 := 0) (N' := 120) (a0 := (120, .inl fun _ => Int32.ofInt 0)) rfl rfl (fun _ _ z => z) q1_51 (fun _ => rfl) (by decide) (by decide) (Nat.le_of_ble_eq_true rfl) (Nat.le_of_ble_eq_true rfl) (Nat.le_of_ble_eq_true rfl) dX7_init_7 (fun H S => ?_)
  have S : kp_CS X h s ((h, .inr (7, [.null, kp_iv 0])) :: ([(h + 1, .inl (kp_cy X 0, 120, .inl fun _ => Int32.ofInt 0))])) H locs 1 := S
  refine cr_putF C hin2 G S inWX7 tyX7 tyX7_ok nmX7 (ci := 7) rfl 0 (by decide) q1_40 rfl rfl (v := .ref (h + 1)) (tyX7_ok 0 (by decide)) rfl rfl (by decide) dX7_init_9 (fun H locs S => ?_)
  have S : kp_CS X h s ((h, .inr (7, [.ref (h + 1), kp_iv 0])) :: ([(h + 1, .inl (kp_cy X 0, 120, .inl fun _ => Int32.ofInt 0))])) H locs 1 := S
  refine lv_aload_n C.1 C.2.1 dX7_init_12 rfl (lv_at hl 0 rfl) ?_
  refine lv_iconst (v := Int32.ofInt 0) C.1 C.2.1 dX7_init_13 rfl ?_
  refine cr_put C G S inWX7 tyX7 tyX7_ok nmX7 (ci := 7) rfl 1 (by decide) q1_42 rfl (v := kp_iv 0) (tyX7_ok 1 (by decide)) rfl rfl (by decide) dX7_init_14 (fun H locs S => ?_)
  have S : kp_CS X h s ((h, .inr (7, [.ref (h + 1), kp_iv 0])) :: ([(h + 1, .inl (kp_cy X 0, 120, .inl fun _ => Int32.ofInt 0))])) H locs 1 := S
  exact cr_ret C hr hlk G S rfl (Nat.le_refl _) (Nat.le_refl _) dX7_init_17
theorem hd_X2_init : yX2_init.cls ≠ "java/lang/invoke/MethodHandle" ∧ yX2_init.cls ≠ "java/lang/invoke/VarHandle" ∧ (parseMethodDescriptor yX2_init.desc).map (fun d => d.parameters.length) = some 0 := by decide +kernel
set_option maxRecDepth 100000 in
set_option maxHeartbeats 4000000 in
theorem kC_X2 {l : Launch} {X : kp_X} : kp_Cn l yX2_init cX2_init 2 5 155 X 2 [.null, .null, .null, .null, .null, kp_iv 0, kp_iv 0] kp_lH 6 kp_sH := by
  refine cr_body pnX2 rfl ?_
  intro h p e s m args below meth c ls C hin2 hr hlk G S hl
  refine cr_obj C hl q1_57 dX2_init_0 dX2_init_1 ⟨by decide, by decide⟩ ?_
  generalize hH : s.heap = H at S ⊢
  generalize ([] : List Loc) = locs at S ⊢
  refine lv_aload_n C.1 C.2.1 dX2_init_4 rfl (lv_at hl 0 rfl) ?_
  refine lv_iconst (v := Int32.ofInt 5) C.1 C.2.1 dX2_init_5 rfl ?_
  refine cr_newa C G S (ty := .int) (t0 := 0) (N' := 5) (a0 := (5, .inl fun _ => Int32.ofInt 0)) rfl rfl (fun _ _ z => z) q1_51 (fun _ => rfl) (by decide) (by decide) (Nat.le_of_ble_eq_true rfl) (Nat.le_of_ble_eq_true rfl) (Nat.le_of_ble_eq_true rfl) dX2_init_6 (fun H S => ?_)
  have S : kp_CS X h s ((h, .inr (2, [.null, .null, .null, .null, .null, kp_iv 0, kp_iv 0])) :: ([(h + 1, .inl (kp_cy X 0, 5, .inl fun _ => Int32.ofInt 0))])) H locs 1 := S
  refine cr_putF C hin2 G S inWX2 tyX2 tyX2_ok nmX2 (ci := 2) rfl 0 (by decide) q1_67 rfl rfl (v := .ref (h + 1)) (tyX2_ok 0 (by decide)) rfl rfl (by decide) dX2_init_8 (fun H locs S => ?_)
  have S : kp_CS X h s ((h, .inr (2, [.ref (h + 1), .null, .null, .null, .null, kp_iv 0, kp_iv 0])) :: ([(h + 1, .inl (kp_cy X 0, 5, .inl fun _ => Int32.ofInt 0))])) H locs 1 := S
  refine lv_aload_n C.1 C.2.1 dX2_init_11 rfl (lv_at hl 0 rfl) ?_
  refine lv_bipush (v := Int32.ofInt 120) C.1 C.2.1 dX2_init_12 rfl ?_
  refine cr_newa C G S (ty := .int) (t0 := 0) (N' := 120) (a0 := (120, .inl fun _ => Int32.ofInt 0)) rfl rfl (fun _ _ z => z) q1_51 (fun _ => rfl) (by decide) (by decide) (Nat.le_of_ble_eq_true rfl) (Nat.le_of_ble_eq_true rfl) (Nat.le_of_ble_eq_true rfl) dX2_init_14 (fun H S => ?_)
  have S : kp_CS X h s ((h, .inr (2, [.ref (h + 1), .null, .null, .null, .null, kp_iv 0, kp_iv 0])) :: ([(h + 1, .inl (kp_cy X 0, 5, .inl fun _ => Int32.ofInt 0))] ++ [(h + 2, .inl (kp_cy X 0, 120, .inl fun _ => Int32.ofInt 0))])) H locs 2 := S
  refine cr_putF C hin2 G S inWX2 tyX2 tyX2_ok nmX2 (ci := 2) rfl 1 (by decide) q1_71 rfl rfl (v := .ref (h + 2)) (tyX2_ok 1 (by decide)) rfl rfl (by decide) dX2_init_16 (fun H locs S => ?_)
  have S : kp_CS X h s ((h, .inr (2, [.ref (h + 1), .ref (h + 2), .null, .null, .null, kp_iv 0, kp_iv 0])) :: ([(h + 1, .inl (kp_cy X 0, 5, .inl fun _ => Int32.ofInt 0))] ++ [(h + 2, .inl (kp_cy X 0, 120, .inl fun _ => Int32.ofInt 0))])) H locs 2 := S
  refine lv_aload_n C.1 C.2.1 dX2_init_19 rfl (lv_at hl 0 rfl) ?_
  refine lv_bipush (v := Int32.ofInt 10) C.1 C.2.1 dX2_init_20 rfl ?_
  refine cr_newa C G S (ty := .boolean) (t0 := 2) (N' := 10) (a0 := (10, .inl fun _ => Int32.ofInt 0)) rfl rfl (fun _ _ z => z) q1_97 (fun _ => rfl) (by decide) (by decide) (Nat.le_of_ble_eq_true rfl) (Nat.le_of_ble_eq_true rfl) (Nat.le_of_ble_eq_true rfl) dX2_init_22 (fun H S => ?_)
  have S : kp_CS X h s ((h, .inr (2, [.ref (h + 1), .ref (h + 2), .null, .null, .null, kp_iv 0, kp_iv 0])) :: ([(h + 1, .inl (kp_cy X 0, 5, .inl fun _ => Int32.ofInt 0))] ++ [(h + 2, .inl (kp_cy X 0, 120, .inl fun _ => Int32.ofInt 0))] ++ [(h + 3, .inl (kp_cy X 2, 10, .inl fun _ => Int32.ofInt 0))])) H locs 3 := S
  refine cr_putF C hin2 G S inWX2 tyX2 tyX2_ok nmX2 (ci := 2) rfl 2 (by decide) q1_73 rfl rfl (v := .ref (h + 3)) (tyX2_ok 2 (by decide)) rfl rfl (by decide) dX2_init_24 (fun H locs S => ?_)
  have S : kp_CS X h s ((h, .inr (2, [.ref (h + 1), .ref (h + 2), .ref (h + 3), .null, .null, kp_iv 0, kp_iv 0])) :: ([(h + 1, .inl (kp_cy X 0, 5, .inl fun _ => Int32.ofInt 0))] ++ [(h + 2, .inl (kp_cy X 0, 120, .inl fun _ => Int32.ofInt 0))] ++ [(h + 3, .inl (kp_cy X 2, 10, .inl fun _ => Int32.ofInt 0))])) H locs 3 := S
  refine lv_aload_n C.1 C.2.1 dX2_init_27 rfl (lv_at hl 0 rfl) ?_
  refine lv_bipush (v := Int32.ofInt 10) C.1 C.2.1 dX2_init_28 rfl ?_
  refine cr_newa C G S (ty := .int) (t0 := 0) (N' := 10) (a0 := (10, .inl fun _ => Int32.ofInt 0)) rfl rfl (fun _ _ z => z) q1_51 (fun _ => rfl) (by decide) (by decide) (Nat.le_of_ble_eq_true rfl) (Nat.le_of_ble_eq_true rfl) (Nat.le_of_ble_eq_true rfl) dX2_init_30 (fun H S => ?_)
  have S : kp_CS X h s ((h, .inr (2, [.ref (h + 1), .ref (h + 2), .ref (h + 3), .null, .null, kp_iv 0, kp_iv 0])) :: ([(h + 1, .inl (kp_cy X 0, 5, .inl fun _ => Int32.ofInt 0))] ++ [(h + 2, .inl (kp_cy X 0, 120, .inl fun _ => Int32.ofInt 0))] ++ [(h + 3, .inl (kp_cy X 2, 10, .inl fun _ => Int32.ofInt 0))] ++ [(h + 4, .inl (kp_cy X 0, 10, .inl fun _ => Int32.ofInt 0))])) H locs 4 := S
  refine cr_putF C hin2 G S inWX2 tyX2 tyX2_ok nmX2 (ci := 2) rfl 3 (by decide) q1_75 rfl rfl (v := .ref (h + 4)) (tyX2_ok 3 (by decide)) rfl rfl (by decide) dX2_init_32 (fun H locs S => ?_)
  have S : kp_CS X h s ((h, .inr (2, [.ref (h + 1), .ref (h + 2), .ref (h + 3), .ref (h + 4), .null, kp_iv 0, kp_iv 0])) :: ([(h + 1, .inl (kp_cy X 0, 5, .inl fun _ => Int32.ofInt 0))] ++ [(h + 2, .inl (kp_cy X 0, 120, .inl fun _ => Int32.ofInt 0))] ++ [(h + 3, .inl (kp_cy X 2, 10, .inl fun _ => Int32.ofInt 0))] ++ [(h + 4, .inl (kp_cy X 0, 10, .inl fun _ => Int32.ofInt 0))])) H locs 4 := S
  refine lv_aload_n C.1 C.2.1 dX2_init_35 rfl (lv_at hl 0 rfl) ?_
  refine lv_bipush (v := Int32.ofInt 10) C.1 C.2.1 dX2_init_36 rfl ?_
  refine cr_newa C G S (ty := .int) (t0 := 0) (N' := 10) (a0 := (10, .inl fun _ => Int32.ofInt 0)) rfl rfl (fun _ _ z => z) q1_51 (fun _ => rfl) (by decide) (by decide) (Nat.le_of_ble_eq_true rfl) (Nat.le_of_ble_eq_true rfl) (Nat.le_of_ble_eq_true rfl) dX2_init_38 (fun H S => ?_)
  have S : kp_CS X h s ((h, .inr (2, [.ref (h + 1), .ref (h + 2), .ref (h + 3), .ref (h + 4), .null, kp_iv 0, kp_iv 0])) :: ([(h + 1, .inl (kp_cy X 0, 5, .inl fun _ => Int32.ofInt 0))] ++ [(h + 2, .inl (kp_cy X 0, 120, .inl fun _ => Int32.ofInt 0))] ++ [(h + 3, .inl (kp_cy X 2, 10, .inl fun _ => Int32.ofInt 0))] ++ [(h + 4, .inl (kp_cy X 0, 10, .inl fun _ => Int32.ofInt 0))] ++ [(h + 5, .inl (kp_cy X 0, 10, .inl fun _ => Int32.ofInt 0))])) H locs 5 := S
  refine cr_putF C hin2 G S inWX2 tyX2 tyX2_ok nmX2 (ci := 2) rfl 4 (by decide) q1_77 rfl rfl (v := .ref (h + 5)) (tyX2_ok 4 (by decide)) rfl rfl (by decide) dX2_init_40 (fun H locs S => ?_)
  have S : kp_CS X h s ((h, .inr (2, [.ref (h + 1), .ref (h + 2), .ref (h + 3), .ref (h + 4), .ref (h + 5), kp_iv 0, kp_iv 0])) :: ([(h + 1, .inl (kp_cy X 0, 5, .inl fun _ => Int32.ofInt 0))] ++ [(h + 2, .inl (kp_cy X 0, 120, .inl fun _ => Int32.ofInt 0))] ++ [(h + 3, .inl (kp_cy X 2, 10, .inl fun _ => Int32.ofInt 0))] ++ [(h + 4, .inl (kp_cy X 0, 10, .inl fun _ => Int32.ofInt 0))] ++ [(h + 5, .inl (kp_cy X 0, 10, .inl fun _ => Int32.ofInt 0))])) H locs 5 := S
  refine lv_aload_n C.1 C.2.1 dX2_init_43 rfl (lv_at hl 0 rfl) ?_
  refine lv_iconst (v := Int32.ofInt 0) C.1 C.2.1 dX2_init_44 rfl ?_
  refine cr_put C G S inWX2 tyX2 tyX2_ok nmX2 (ci := 2) rfl 5 (by decide) q1_79 rfl (v := kp_iv 0) (tyX2_ok 5 (by decide)) rfl rfl (by decide) dX2_init_45 (fun H locs S => ?_)
  have S : kp_CS X h s ((h, .inr (2, [.ref (h + 1), .ref (h + 2), .ref (h + 3), .ref (h + 4), .ref (h + 5), kp_iv 0, kp_iv 0])) :: ([(h + 1, .inl (kp_cy X 0, 5, .inl fun _ => Int32.ofInt 0))] ++ [(h + 2, .inl (kp_cy X 0, 120, .inl fun _ => Int32.ofInt 0))] ++ [(h + 3, .inl (kp_cy X 2, 10, .inl fun _ => Int32.ofInt 0))] ++ [(h + 4, .inl (kp_cy X 0, 10, .inl fun _ => Int32.ofInt 0))] ++ [(h + 5, .inl (kp_cy X 0, 10, .inl fun _ => Int32.ofInt 0))])) H locs 5 := S
  refine lv_aload_n C.1 C.2.1 dX2_init_48 rfl (lv_at hl 0 rfl) ?_
  refine lv_iconst (v := Int32.ofInt 0) C.1 C.2.1 dX2_init_49 rfl ?_
  refine cr_put C G S inWX2 tyX2 tyX2_ok nmX2 (ci := 2) rfl 6 (by decide) q1_81 rfl (v := kp_iv 0) (tyX2_ok 6 (by decide)) rfl rfl (by decide) dX2_init_50 (fun H locs S => ?_)
  have S : kp_CS X h s ((h, .inr (2, [.ref (h + 1), .ref (h + 2), .ref (h + 3), .ref (h + 4), .ref (h + 5), kp_iv 0, kp_iv 0])) :: ([(h + 1, .inl (kp_cy X 0, 5, .inl fun _ => Int32.ofInt 0))] ++ [(h + 2, .inl (kp_cy X 0, 120, .inl fun _ => Int32.ofInt 0))] ++ [(h + 3, .inl (kp_cy X 2, 10, .inl fun _ => Int32.ofInt 0))] ++ [(h + 4, .inl (kp_cy X 0, 10, .inl fun _ => Int32.ofInt 0))] ++ [(h + 5, .inl (kp_cy X 0, 10, .inl fun _ => Int32.ofInt 0))])) H locs 5 := S
  exact cr_empty C hr hlk G S hl (Nat.le_of_ble_eq_true rfl)
def kp_lX3L : List kp_D := [(0, 3, [some 1, some 2, some 3, some 4, none, none]), (1, 10, []), (1, 10, []), (1, 10, []), (1, 10, [])]
def kp_lX3 : Nat → kp_D := fun k => kp_lX3L.getD k (1, 0, [])
theorem hd_X3_init : yX3_init.cls ≠ "java/lang/invoke/MethodHandle" ∧ yX3_init.cls ≠ "java/lang/invoke/VarHandle" ∧ (parseMethodDescriptor yX3_init.desc).map (fun d => d.parameters.length) = some 0 := by decide +kernel
set_option maxRecDepth 100000 in
set_option maxHeartbeats 4000000 in
theorem kC_X3 {l : Launch} {X : kp_X} : kp_Cn l yX3_init cX3_init 1 4 40 X 3 [.null, .null, .null, .null, kp_iv 0, kp_iv 0] kp_lX3 5 kp_s0 := by
  refine cr_body pnX3 rfl ?_
  intro h p e s m args below meth c ls C hin2 hr hlk G S hl
  refine cr_obj C hl q1_103 dX3_init_0 dX3_init_1 ⟨by decide, by decide⟩ ?_
  generalize hH : s.heap = H at S ⊢
  generalize ([] : List Loc) = locs at S ⊢
  refine lv_aload_n C.1 C.2.1 dX3_init_4 rfl (lv_at hl 0 rfl) ?_
  refine lv_bipush (v := Int32.ofInt 10) C.1 C.2.1 dX3_init_5 rfl ?_
  refine cr_newa C G S (ty := .int) (t0 := 0) (N' := 10) (a0 := (10, .inl fun _ => Int32.ofInt 0)) rfl rfl (fun _ _ z => z) q1_51 (fun _ => rfl) (by decide) (by decide) (Nat.le_of_ble_eq_true rfl) (Nat.le_of_ble_eq_true rfl) (Nat.le_of_ble_eq_true rfl) dX3_init_7 (fun H S => ?_)
  have S : kp_CS X h s ((h, .inr (3, [.null, .null, .null, .null, kp_iv 0, kp_iv 0])) :: ([(h + 1, .inl (kp_cy X 0, 10, .inl fun _ => Int32.ofInt 0))])) H locs 1 := S
  refine cr_putF C hin2 G S inWX3 tyX3 tyX3_ok nmX3 (ci := 3) rfl 0 (by decide) q1_104 rfl rfl (v := .ref (h + 1)) (tyX3_ok 0 (by decide)) rfl rfl (by decide) dX3_init_9 (fun H locs S => ?_)
  have S : kp_CS X h s ((h, .inr (3, [.ref (h + 1), .null, .null, .null, kp_iv 0, kp_iv 0])) :: ([(h + 1, .inl (kp_cy X 0, 10, .inl fun _ => Int32.ofInt 0))])) H locs 1 := S
  refine lv_aload_n C.1 C.2.1 dX3_init_12 rfl (lv_at hl 0 rfl) ?_
  refine lv_bipush (v := Int32.ofInt 10) C.1 C.2.1 dX3_init_13 rfl ?_
  refine cr_newa C G S (ty := .int) (t0 := 0) (N' := 10) (a0 := (10, .inl fun _ => Int32.ofInt 0)) rfl rfl (fun _ _ z => z) q1_51 (fun _ => rfl) (by decide) (by decide) (Nat.le_of_ble_eq_true rfl) (Nat.le_of_ble_eq_true rfl) (Nat.le_of_ble_eq_true rfl) dX3_init_15 (fun H S => ?_)
  have S : kp_CS X h s ((h, .inr (3, [.ref (h + 1), .null, .null, .null, kp_iv 0, kp_iv 0])) :: ([(h + 1, .inl (kp_cy X 0, 10, .inl fun _ => Int32.ofInt 0))] ++ [(h + 2, .inl (kp_cy X 0, 10, .inl fun _ => Int32.ofInt 0))])) H locs 2 := S
  refine cr_putF C hin2 G S inWX3 tyX3 tyX3_ok nmX3 (ci := 3) rfl 1 (by decide) q1_108 rfl rfl (v := .ref (h + 2)) (tyX3_ok 1 (by decide)) rfl rfl (by decide) dX3_init_17 (fun H locs S => ?_)
  have S : kp_CS X h s ((h, .inr (3, [.ref (h + 1), .ref (h + 2), .null, .null, kp_iv 0, kp_iv 0])) :: ([(h + 1, .inl (kp_cy X 0, 10, .inl fun _ => Int32.ofInt 0))] ++ [(h + 2, .inl (kp_cy X 0, 10, .inl fun _ => Int32.ofInt 0))])) H locs 2 := S
  refine lv_aload_n C.1 C.2.1 dX3_init_20 rfl (lv_at hl 0 rfl) ?_
  refine lv_bipush (v := Int32.ofInt 10) C.1 C.2.1 dX3_init_21 rfl ?_
  refine cr_newa C G S (ty := .int) (t0 := 0) (N' := 10) (a0 := (10, .inl fun _ => Int32.ofInt 0)) rfl rfl (fun _ _ z => z) q1_51 (fun _ => rfl) (by decide) (by decide) (Nat.le_of_ble_eq_true rfl) (Nat.le_of_ble_eq_true rfl) (Nat.le_of_ble_eq_true rfl) dX3_init_23 (fun H S => ?_)
  have S : kp_CS X h s ((h, .inr (3, [.ref (h + 1), .ref (h + 2), .null, .null, kp_iv 0, kp_iv 0])) :: ([(h + 1, .inl (kp_cy X 0, 10, .inl fun _ => Int32.ofInt 0))] ++ [(h + 2, .inl (kp_cy X 0, 10, .inl fun _ => Int32.ofInt 0))] ++ [(h + 3, .inl (kp_cy X 0, 10, .inl fun _ => Int32.ofInt 0))])) H locs 3 := S
  refine cr_putF C hin2 G S inWX3 tyX3 tyX3_ok nmX3 (ci := 3) rfl 2 (by decide) q1_111 rfl rfl (v := .ref (h + 3)) (tyX3_ok 2 (by decide)) rfl rfl (by decide) dX3_init_25 (fun H locs S => ?_)
  have S : kp_CS X h s ((h, .inr (3, [.ref (h + 1), .ref (h + 2), .ref (h + 3), .null, kp_iv 0, kp_iv 0])) :: ([(h + 1, .inl (kp_cy X 0, 10, .inl fun _ => Int32.ofInt 0))] ++ [(h + 2, .inl (kp_cy X 0, 10, .inl fun _ => Int32.ofInt 0))] ++ [(h + 3, .inl (kp_cy X 0, 10, .inl fun _ => Int32.ofInt 0))])) H locs 3 := S
  refine lv_aload_n C.1 C.2.1 dX3_init_28 rfl (lv_at hl 0 rfl) ?_
  refine lv_bipush (v := Int32.ofInt 10) C.1 C.2.1 dX3_init_29 rfl ?_
  refine cr_newa C G S (ty := .int) (t0 := 0) (N' := 10) (a0 := (10, .inl fun _ => Int32.ofInt 0)) rfl rfl (fun _ _ z => z) q1_51 (fun _ => rfl) (by decide) (by decide) (Nat.le_of_ble_eq_true rfl) (Nat.le_of_ble_eq_true rfl) (Nat.le_of_ble_eq_true rfl) dX3_init_31 (fun H S => ?_)
  have S : kp_CS X h s ((h, .inr (3, [.ref (h + 1), .ref (h + 2), .ref (h + 3), .null, kp_iv 0, kp_iv 0])) :: ([(h + 1, .inl (kp_cy X 0, 10, .inl fun _ => Int32.ofInt 0))] ++ [(h + 2, .inl (kp_cy X 0, 10, .inl fun _ => Int32.ofInt 0))] ++ [(h + 3, .inl (kp_cy X 0, 10, .inl fun _ => Int32.ofInt 0))] ++ [(h + 4, .inl (kp_cy X 0, 10, .inl fun _ => Int32.ofInt 0))])) H locs 4 := S
  refine cr_putF C hin2 G S inWX3 tyX3 tyX3_ok nmX3 (ci := 3) rfl 3 (by decide) q1_115 rfl rfl (v := .ref (h + 4)) (tyX3_ok 3 (by decide)) rfl rfl (by decide) dX3_init_33 (fun H locs S => ?_)
  have S : kp_CS X h s ((h, .inr (3, [.ref (h + 1), .ref (h + 2), .ref (h + 3), .ref (h + 4), kp_iv 0, kp_iv 0])) :: ([(h + 1, .inl (kp_cy X 0, 10, .inl fun _ => Int32.ofInt 0))] ++ [(h + 2, .inl (kp_cy X 0, 10, .inl fun _ => Int32.ofInt 0))] ++ [(h + 3, .inl (kp_cy X 0, 10, .inl fun _ => Int32.ofInt 0))] ++ [(h + 4, .inl (kp_cy X 0, 10, .inl fun _ => Int32.ofInt 0))])) H locs 4 := S
  refine lv_aload_n C.1 C.2.1 dX3_init_36 rfl (lv_at hl 0 rfl) ?_
  refine lv_iconst (v := Int32.ofInt 0) C.1 C.2.1 dX3_init_37 rfl ?_
  refine cr_put C G S inWX3 tyX3 tyX3_ok nmX3 (ci := 3) rfl 4 (by decide) q1_117 rfl (v := kp_iv 0) (tyX3_ok 4 (by decide)) rfl rfl (by decide) dX3_init_38 (fun H locs S => ?_)
  have S : kp_CS X h s ((h, .inr (3, [.ref (h + 1), .ref (h + 2), .ref (h + 3), .ref (h + 4), kp_iv 0, kp_iv 0])) :: ([(h + 1, .inl (kp_cy X 0, 10, .inl fun _ => Int32.ofInt 0))] ++ [(h + 2, .inl (kp_cy X 0, 10, .inl fun _ => Int32.ofInt 0))] ++ [(h + 3, .inl (kp_cy X 0, 10, .inl fun _ => Int32.ofInt 0))] ++ [(h + 4, .inl (kp_cy X 0, 10, .inl fun _ => Int32.ofInt 0))])) H locs 4 := S
  refine lv_aload_n C.1 C.2.1 dX3_init_41 rfl (lv_at hl 0 rfl) ?_
  refine lv_iconst (v := Int32.ofInt 0) C.1 C.2.1 dX3_init_42 rfl ?_
  refine cr_put C G S inWX3 tyX3 tyX3_ok nmX3 (ci := 3) rfl 5 (by decide) q1_119 rfl (v := kp_iv 0) (tyX3_ok 5 (by decide)) rfl rfl (by decide) dX3_init_43 (fun H locs S => ?_)
  have S : kp_CS X h s ((h, .inr (3, [.ref (h + 1), .ref (h + 2), .ref (h + 3), .ref (h + 4), kp_iv 0, kp_iv 0])) :: ([(h + 1, .inl (kp_cy X 0, 10, .inl fun _ => Int32.ofInt 0))] ++ [(h + 2, .inl (kp_cy X 0, 10, .inl fun _ => Int32.ofInt 0))] ++ [(h + 3, .inl (kp_cy X 0, 10, .inl fun _ => Int32.ofInt 0))] ++ [(h + 4, .inl (kp_cy X 0, 10, .inl fun _ => Int32.ofInt 0))])) H locs 4 := S
  exact cr_ret C hr hlk G S rfl (Nat.le_refl _) (Nat.le_refl _) dX3_init_46
def kp_lX4L : List kp_D := [(0, 4, [some 1, some 2, some 3, none]), (1, 12, []), (1, 12, []), (1, 12, [])]
def kp_lX4 : Nat → kp_D := fun k => kp_lX4L.getD k (1, 0, [])
theorem hd_X4_init : yX4_init.cls ≠ "java/lang/invoke/MethodHandle" ∧ yX4_init.cls ≠ "java/lang/invoke/VarHandle" ∧ (parseMethodDescriptor yX4_init.desc).map (fun d => d.parameters.length) = some 0 := by decide +kernel
set_option maxRecDepth 100000 in
set_option maxHeartbeats 4000000 in
theorem kC_X4 {l : Launch} {X : kp_X} : kp_Cn l yX4_init cX4_init 1 3 36 X 4 [.null, .null, .null, kp_iv 0] kp_lX4 4 kp_s0 := by
  refine cr_body pnX4 rfl ?_
  intro h p e s m args below meth c ls C hin2 hr hlk G S hl
  refine cr_obj C hl q1_139 dX4_init_0 dX4_init_1 ⟨by decide, by decide⟩ ?_
  generalize hH : s.heap = H at S ⊢
  generalize ([] : List Loc) = locs at S ⊢
  refine lv_aload_n C.1 C.2.1 dX4_init_4 rfl (lv_at hl 0 rfl) ?_
  refine lv_bipush (v := Int32.ofInt 12) C.1 C.2.1 dX4_init_5 rfl ?_
  refine cr_newa C G S (ty := .int) (t0 := 0) (N' := 12) (a0 := (12, .inl fun _ => Int32.ofInt 0)) rfl rfl (fun _ _ z => z) q1_51 (fun _ => rfl) (by decide) (by decide) (Nat.le_of_ble_eq_true rfl) (Nat.le_of_ble_eq_true rfl) (Nat.le_of_ble_eq_true rfl) dX4_init_7 (fun H S => ?_)
  have S : kp_CS X h s ((h, .inr (4, [.null, .null, .null, kp_iv 0])) :: ([(h + 1, .inl (kp_cy X 0, 12, .inl fun _ => Int32.ofInt 0))])) H locs 1 := S
  refine cr_putF C hin2 G S inWX4 tyX4 tyX4_ok nmX4 (ci := 4) rfl 0 (by decide) q1_140 rfl rfl (v := .ref (h + 1)) (tyX4_ok 0 (by decide)) rfl rfl (by decide) dX4_init_9 (fun H locs S => ?_)
  have S : kp_CS X h s ((h, .inr (4, [.ref (h + 1), .null, .null, kp_iv 0])) :: ([(h + 1, .inl (kp_cy X 0, 12, .inl fun _ => Int32.ofInt 0))])) H locs 1 := S
  refine lv_aload_n C.1 C.2.1 dX4_init_12 rfl (lv_at hl 0 rfl) ?_
  refine lv_bipush (v := Int32.ofInt 12) C.1 C.2.1 dX4_init_13 rfl ?_
  refine cr_newa C G S (ty := .int) (t0 := 0) (N' := 12) (a0 := (12, .inl fun _ => Int32.ofInt 0)) rfl rfl (fun _ _ z => z) q1_51 (fun _ => rfl) (by decide) (by decide) (Nat.le_of_ble_eq_true rfl) (Nat.le_of_ble_eq_true rfl) (Nat.le_of_ble_eq_true rfl) dX4_init_15 (fun H S => ?_)
  have S : kp_CS X h s ((h, .inr (4, [.ref (h + 1), .null, .null, kp_iv 0])) :: ([(h + 1, .inl (kp_cy X 0, 12, .inl fun _ => Int32.ofInt 0))] ++ [(h + 2, .inl (kp_cy X 0, 12, .inl fun _ => Int32.ofInt 0))])) H locs 2 := S
  refine cr_putF C hin2 G S inWX4 tyX4 tyX4_ok nmX4 (ci := 4) rfl 1 (by decide) q1_142 rfl rfl (v := .ref (h + 2)) (tyX4_ok 1 (by decide)) rfl rfl (by decide) dX4_init_17 (fun H locs S => ?_)
  have S : kp_CS X h s ((h, .inr (4, [.ref (h + 1), .ref (h + 2), .null, kp_iv 0])) :: ([(h + 1, .inl (kp_cy X 0, 12, .inl fun _ => Int32.ofInt 0))] ++ [(h + 2, .inl (kp_cy X 0, 12, .inl fun _ => Int32.ofInt 0))])) H locs 2 := S
  refine lv_aload_n C.1 C.2.1 dX4_init_20 rfl (lv_at hl 0 rfl) ?_
  refine lv_bipush (v := Int32.ofInt 12) C.1 C.2.1 dX4_init_21 rfl ?_
  refine cr_newa C G S (ty := .int) (t0 := 0) (N' := 12) (a0 := (12, .inl fun _ => Int32.ofInt 0)) rfl rfl (fun _ _ z => z) q1_51 (fun _ => rfl) (by decide) (by decide) (Nat.le_of_ble_eq_true rfl) (Nat.le_of_ble_eq_true rfl) (Nat.le_of_ble_eq_true rfl) dX4_init_23 (fun H S => ?_)
  have S : kp_CS X h s ((h, .inr (4, [.ref (h + 1), .ref (h + 2), .null, kp_iv 0])) :: ([(h + 1, .inl (kp_cy X 0, 12, .inl fun _ => Int32.ofInt 0))] ++ [(h + 2, .inl (kp_cy X 0, 12, .inl fun _ => Int32.ofInt 0))] ++ [(h + 3, .inl (kp_cy X 0, 12, .inl fun _ => Int32.ofInt 0))])) H locs 3 := S
  refine cr_putF C hin2 G S inWX4 tyX4 tyX4_ok nmX4 (ci := 4) rfl 2 (by decide) q1_144 rfl rfl (v := .ref (h + 3)) (tyX4_ok 2 (by decide)) rfl rfl (by decide) dX4_init_25 (fun H locs S => ?_)
  have S : kp_CS X h s ((h, .inr (4, [.ref (h + 1), .ref (h + 2), .ref (h + 3), kp_iv 0])) :: ([(h + 1, .inl (kp_cy X 0, 12, .inl fun _ => Int32.ofInt 0))] ++ [(h + 2, .inl (kp_cy X 0, 12, .inl fun _ => Int32.ofInt 0))] ++ [(h + 3, .inl (kp_cy X 0, 12, .inl fun _ => Int32.ofInt 0))])) H locs 3 := S
  refine lv_aload_n C.1 C.2.1 dX4_init_28 rfl (lv_at hl 0 rfl) ?_
  refine lv_iconst (v := Int32.ofInt 0) C.1 C.2.1 dX4_init_29 rfl ?_
  refine cr_put C G S inWX4 tyX4 tyX4_ok nmX4 (ci := 4) rfl 3 (by decide) q1_146 rfl (v := kp_iv 0) (tyX4_ok 3 (by decide)) rfl rfl (by decide) dX4_init_30 (fun H locs S => ?_)
  have S : kp_CS X h s ((h, .inr (4, [.ref (h + 1), .ref (h + 2), .ref (h + 3), kp_iv 0])) :: ([(h + 1, .inl (kp_cy X 0, 12, .inl fun _ => Int32.ofInt 0))] ++ [(h + 2, .inl (kp_cy X 0, 12, .inl fun _ => Int32.ofInt 0))] ++ [(h + 3, .inl (kp_cy X 0, 12, .inl fun _ => Int32.ofInt 0))])) H locs 3 := S
  exact cr_ret C hr hlk G S rfl (Nat.le_refl _) (Nat.le_refl _) dX4_init_33
def kp_lX1L : List kp_D := [(0, 1, [some 1, some 2, some 4, some 10, some 15, none]), (2, 3, []), (0, 7, [some 3, none]), (1, 120, []), (0, 2, [some 5, some 6, some 7, some 8, some 9, none, none]), (1, 5, []), (1, 120, []), (3, 10, []), (1, 10, []), (1, 10, []), (0, 3, [some 11, some 12, some 13, some 14, none, none]), (1, 10, []), (1, 10, []), (1, 10, []), (1, 10, []), (0, 4, [some 16, some 17, some 18, none]), (1, 12, []), (1, 12, []), (1, 12, [])]
def kp_lX1 : Nat → kp_D := fun k => kp_lX1L.getD k (1, 0, [])
def kp_sO : kp_W := fun k => match k with
  | 5 => kp_sH 1
  | _ => fun _ => 0
theorem hd_X1_init : yX1_init.cls ≠ "java/lang/invoke/MethodHandle" ∧ yX1_init.cls ≠ "java/lang/invoke/VarHandle" ∧ (parseMethodDescriptor yX1_init.desc).map (fun d => d.parameters.length) = some 0 := by decide +kernel
set_option maxRecDepth 100000 in
set_option maxHeartbeats 4000000 in
theorem kC_X1 {l : Launch} {X : kp_X} : kp_Cn l yX1_init cX1_init 3 18 373 X 1 [.null, .null, .null, .null, .null, kp_iv 0] kp_lX1 19 kp_sO := by
  refine cr_body pnX1 rfl ?_
  intro h p e s m args below meth c ls C hin2 hr hlk G S hl
  refine cr_obj C hl q1_33 dX1_init_0 dX1_init_1 ⟨by decide, by decide⟩ ?_
  generalize hH : s.heap = H at S ⊢
  generalize ([] : List Loc) = locs at S ⊢
  refine lv_aload_n C.1 C.2.1 dX1_init_4 rfl (lv_at hl 0 rfl) ?_
  refine lv_iconst (v := Int32.ofInt 3) C.1 C.2.1 dX1_init_5 rfl ?_
  refine cr_newa C G S (ty := .long) (t0 := 1) (N' := 3) (a0 := (3, .inr (.inl fun _ => Int64.ofInt 0))) rfl rfl (fun _ _ z => z) q1_50 (fun _ => rfl) (by decide) (by decide) (Nat.le_of_ble_eq_true rfl) (Nat.le_of_ble_eq_true rfl) (Nat.le_of_ble_eq_true rfl) dX1_init_6 (fun H S => ?_)
  have S : kp_CS X h s ((h, .inr (1, [.null, .null, .null, .null, .null, kp_iv 0])) :: ([(h + 1, .inl (kp_cy X 1, 3, .inr (.inl fun _ => Int64.ofInt 0)))])) H locs 1 := S
  refine cr_putF C hin2 G S inWX1 tyX1 tyX1_ok nmX1 (ci := 1) rfl 0 (by decide) q1_157 rfl rfl (v := .ref (h + 1)) (tyX1_ok 0 (by decide)) rfl rfl (by decide) dX1_init_8 (fun H locs S => ?_)
  have S : kp_CS X h s ((h, .inr (1, [.ref (h + 1), .null, .null, .null, .null, kp_iv 0])) :: ([(h + 1, .inl (kp_cy X 1, 3, .inr (.inl fun _ => Int64.ofInt 0)))])) H locs 1 := S
  refine lv_aload_n C.1 C.2.1 dX1_init_11 rfl (lv_at hl 0 rfl) ?_
  refine cr_new C G S inWX7 tyX7 tyX7_ok q1_34 q1_35 q1_3 (ci := 7) rfl (fs := [.null, kp_iv 0]) (fun j hj => by rcases (show j = 0 ∨ j = 1 by omega) with rfl | rfl <;> rfl) (Nat.le_of_ble_eq_true rfl) (Nat.le_of_ble_eq_true rfl) dX1_init_12 (fun H S => ?_)
  refine lv_dup C.1 C.2.1 dX1_init_15 rfl ?_
  refine cr_mkN (ws := (h, .inr (1, [.ref (h + 1), .null, .null, .null, .null, kp_iv 0])) :: ([(h + 1, .inl (kp_cy X 1, 3, .inr (.inl fun _ => Int64.ofInt 0)))])) C G hl.1 S kC_X7 rfl (by simp [kp_nm]) q1_37 q1_3 q1_38 rfl hd_X7_init ⟨Nat.le_of_ble_eq_true rfl, Nat.le_of_ble_eq_true rfl⟩ ⟨Nat.le_of_ble_eq_true rfl, Nat.le_of_ble_eq_true rfl⟩ (Nat.le_of_ble_eq_true rfl) dX1_init_16 (fun H locs S => ?_)
  have S : kp_CS X h s ((h, .inr (1, [.ref (h + 1), .null, .null, .null, .null, kp_iv 0])) :: ([(h + 1, .inl (kp_cy X 1, 3, .inr (.inl fun _ => Int64.ofInt 0)))] ++ kp_ws (kp_Xh X (h + 2)) kp_lX7 2 kp_s0)) H locs 3 := S
  refine cr_putF C hin2 G S inWX1 tyX1 tyX1_ok nmX1 (ci := 1) rfl 1 (by decide) q1_159 rfl rfl (v := .ref (h + 2)) (tyX1_ok 1 (by decide)) rfl rfl (by decide) dX1_init_19 (fun H locs S => ?_)
  have S : kp_CS X h s ((h, .inr (1, [.ref (h + 1), .ref (h + 2), .null, .null, .null, kp_iv 0])) :: ([(h + 1, .inl (kp_cy X 1, 3, .inr (.inl fun _ => Int64.ofInt 0)))] ++ kp_ws (kp_Xh X (h + 2)) kp_lX7 2 kp_s0)) H locs 3 := S
  refine lv_aload_n C.1 C.2.1 dX1_init_22 rfl (lv_at hl 0 rfl) ?_
  refine cr_new C G S inWX2 tyX2 tyX2_ok q1_52 q1_53 q1_4 (ci := 2) rfl (fs := [.null, .null, .null, .null, .null, kp_iv 0, kp_iv 0]) (fun j hj => by rcases (show j = 0 ∨ j = 1 ∨ j = 2 ∨ j = 3 ∨ j = 4 ∨ j = 5 ∨ j = 6 by omega) with rfl | rfl | rfl | rfl | rfl | rfl | rfl <;> rfl) (Nat.le_of_ble_eq_true rfl) (Nat.le_of_ble_eq_true rfl) dX1_init_23 (fun H S => ?_)
  refine lv_dup C.1 C.2.1 dX1_init_26 rfl ?_
  refine cr_mk (ws := (h, .inr (1, [.ref (h + 1), .ref (h + 2), .null, .null, .null, kp_iv 0])) :: ([(h + 1, .inl (kp_cy X 1, 3, .inr (.inl fun _ => Int64.ofInt 0)))] ++ kp_ws (kp_Xh X (h + 2)) kp_lX7 2 kp_s0)) C G hl.1 S kC_X2 rfl q1_54 q1_55 q1_4 q1_56 rfl hd_X2_init ⟨Nat.le_of_ble_eq_true rfl, Nat.le_of_ble_eq_true rfl⟩ ⟨Nat.le_of_ble_eq_true rfl, Nat.le_of_ble_eq_true rfl⟩ (Nat.le_of_ble_eq_true rfl) dX1_init_27 (fun H locs S => ?_)
  have S : kp_CS X h s ((h, .inr (1, [.ref (h + 1), .ref (h + 2), .null, .null, .null, kp_iv 0])) :: ([(h + 1, .inl (kp_cy X 1, 3, .inr (.inl fun _ => Int64.ofInt 0)))] ++ kp_ws (kp_Xh X (h + 2)) kp_lX7 2 kp_s0 ++ kp_ws (kp_Xh X (h + 4)) kp_lH 6 kp_sH)) H locs 9 := S
  refine cr_putF C hin2 G S inWX1 tyX1 tyX1_ok nmX1 (ci := 1) rfl 2 (by decide) q1_161 rfl rfl (v := .ref (h + 4)) (tyX1_ok 2 (by decide)) rfl rfl (by decide) dX1_init_30 (fun H locs S => ?_)
  have S : kp_CS X h s ((h, .inr (1, [.ref (h + 1), .ref (h + 2), .ref (h + 4), .null, .null, kp_iv 0])) :: ([(h + 1, .inl (kp_cy X 1, 3, .inr (.inl fun _ => Int64.ofInt 0)))] ++ kp_ws (kp_Xh X (h + 2)) kp_lX7 2 kp_s0 ++ kp_ws (kp_Xh X (h + 4)) kp_lH 6 kp_sH)) H locs 9 := S
  refine lv_aload_n C.1 C.2.1 dX1_init_33 rfl (lv_at hl 0 rfl) ?_
  refine cr_new C G S inWX3 tyX3 tyX3_ok q1_98 q1_99 q1_6 (ci := 3) rfl (fs := [.null, .null, .null, .null, kp_iv 0, kp_iv 0]) (fun j hj => by rcases (show j = 0 ∨ j = 1 ∨ j = 2 ∨ j = 3 ∨ j = 4 ∨ j = 5 by omega) with rfl | rfl | rfl | rfl | rfl | rfl <;> rfl) (Nat.le_of_ble_eq_true rfl) (Nat.le_of_ble_eq_true rfl) dX1_init_34 (fun H S => ?_)
  refine lv_dup C.1 C.2.1 dX1_init_37 rfl ?_
  refine cr_mkN (ws := (h, .inr (1, [.ref (h + 1), .ref (h + 2), .ref (h + 4), .null, .null, kp_iv 0])) :: ([(h + 1, .inl (kp_cy X 1, 3, .inr (.inl fun _ => Int64.ofInt 0)))] ++ kp_ws (kp_Xh X (h + 2)) kp_lX7 2 kp_s0 ++ kp_ws (kp_Xh X (h + 4)) kp_lH 6 kp_sH)) C G hl.1 S kC_X3 rfl (by simp [kp_nm]) q1_101 q1_6 q1_102 rfl hd_X3_init ⟨Nat.le_of_ble_eq_true rfl, Nat.le_of_ble_eq_true rfl⟩ ⟨Nat.le_of_ble_eq_true rfl, Nat.le_of_ble_eq_true rfl⟩ (Nat.le_of_ble_eq_true rfl) dX1_init_38 (fun H locs S => ?_)
  have S : kp_CS X h s ((h, .inr (1, [.ref (h + 1), .ref (h + 2), .ref (h + 4), .null, .null, kp_iv 0])) :: ([(h + 1, .inl (kp_cy X 1, 3, .inr (.inl fun _ => Int64.ofInt 0)))] ++ kp_ws (kp_Xh X (h + 2)) kp_lX7 2 kp_s0 ++ kp_ws (kp_Xh X (h + 4)) kp_lH 6 kp_sH ++ kp_ws (kp_Xh X (h + 10)) kp_lX3 5 kp_s0)) H locs 14 := S
  refine cr_putF C hin2 G S inWX1 tyX1 tyX1_ok nmX1 (ci := 1) rfl 3 (by decide) q1_163 rfl rfl (v := .ref (h + 10)) (tyX1_ok 3 (by decide)) rfl rfl (by decide) dX1_init_41 (fun H locs S => ?_)
  have S : kp_CS X h s ((h, .inr (1, [.ref (h + 1), .ref (h + 2), .ref (h + 4), .ref (h + 10), .null, kp_iv 0])) :: ([(h + 1, .inl (kp_cy X 1, 3, .inr (.inl fun _ => Int64.ofInt 0)))] ++ kp_ws (kp_Xh X (h + 2)) kp_lX7 2 kp_s0 ++ kp_ws (kp_Xh X (h + 4)) kp_lH 6 kp_sH ++ kp_ws (kp_Xh X (h + 10)) kp_lX3 5 kp_s0)) H locs 14 := S
  refine lv_aload_n C.1 C.2.1 dX1_init_44 rfl (lv_at hl 0 rfl) ?_
  refine cr_new C G S inWX4 tyX4 tyX4_ok q1_134 q1_135 q1_7 (ci := 4) rfl (fs := [.null, .null, .null, kp_iv 0]) (fun j hj => by rcases (show j = 0 ∨ j = 1 ∨ j = 2 ∨ j = 3 by omega) with rfl | rfl | rfl | rfl <;> rfl) (Nat.le_of_ble_eq_true rfl) (Nat.le_of_ble_eq_true rfl) dX1_init_45 (fun H S => ?_)
  refine lv_dup C.1 C.2.1 dX1_init_48 rfl ?_
  refine cr_mkN (ws := (h, .inr (1, [.ref (h + 1), .ref (h + 2), .ref (h + 4), .ref (h + 10), .null, kp_iv 0])) :: ([(h + 1, .inl (kp_cy X 1, 3, .inr (.inl fun _ => Int64.ofInt 0)))] ++ kp_ws (kp_Xh X (h + 2)) kp_lX7 2 kp_s0 ++ kp_ws (kp_Xh X (h + 4)) kp_lH 6 kp_sH ++ kp_ws (kp_Xh X (h + 10)) kp_lX3 5 kp_s0)) C G hl.1 S kC_X4 rfl (by simp [kp_nm]) q1_137 q1_7 q1_138 rfl hd_X4_init ⟨Nat.le_of_ble_eq_true rfl, Nat.le_of_ble_eq_true rfl⟩ ⟨Nat.le_of_ble_eq_true rfl, Nat.le_of_ble_eq_true rfl⟩ (Nat.le_of_ble_eq_true rfl) dX1_init_49 (fun H locs S => ?_)
  have S : kp_CS X h s ((h, .inr (1, [.ref (h + 1), .ref (h + 2), .ref (h + 4), .ref (h + 10), .null, kp_iv 0])) :: ([(h + 1, .inl (kp_cy X 1, 3, .inr (.inl fun _ => Int64.ofInt 0)))] ++ kp_ws (kp_Xh X (h + 2)) kp_lX7 2 kp_s0 ++ kp_ws (kp_Xh X (h + 4)) kp_lH 6 kp_sH ++ kp_ws (kp_Xh X (h + 10)) kp_lX3 5 kp_s0 ++ kp_ws (kp_Xh X (h + 15)) kp_lX4 4 kp_s0)) H locs 18 := S
  refine cr_putF C hin2 G S inWX1 tyX1 tyX1_ok nmX1 (ci := 1) rfl 4 (by decide) q1_165 rfl rfl (v := .ref (h + 15)) (tyX1_ok 4 (by decide)) rfl rfl (by decide) dX1_init_52 (fun H locs S => ?_)
  have S : kp_CS X h s ((h, .inr (1, [.ref (h + 1), .ref (h + 2), .ref (h + 4), .ref (h + 10), .ref (h + 15), kp_iv 0])) :: ([(h + 1, .inl (kp_cy X 1, 3, .inr (.inl fun _ => Int64.ofInt 0)))] ++ kp_ws (kp_Xh X (h + 2)) kp_lX7 2 kp_s0 ++ kp_ws (kp_Xh X (h + 4)) kp_lH 6 kp_sH ++ kp_ws (kp_Xh X (h + 10)) kp_lX3 5 kp_s0 ++ kp_ws (kp_Xh X (h + 15)) kp_lX4 4 kp_s0)) H locs 18 := S
  refine lv_aload_n C.1 C.2.1 dX1_init_55 rfl (lv_at hl 0 rfl) ?_
  refine lv_iconst (v := Int32.ofInt 0) C.1 C.2.1 dX1_init_56 rfl ?_
  refine cr_put C G S inWX1 tyX1 tyX1_ok nmX1 (ci := 1) rfl 5 (by decide) q1_167 rfl (v := kp_iv 0) (tyX1_ok 5 (by decide)) rfl rfl (by decide) dX1_init_57 (fun H locs S => ?_)
  have S : kp_CS X h s ((h, .inr (1, [.ref (h + 1), .ref (h + 2), .ref (h + 4), .ref (h + 10), .ref (h + 15), kp_iv 0])) :: ([(h + 1, .inl (kp_cy X 1, 3, .inr (.inl fun _ => Int64.ofInt 0)))] ++ kp_ws (kp_Xh X (h + 2)) kp_lX7 2 kp_s0 ++ kp_ws (kp_Xh X (h + 4)) kp_lH 6 kp_sH ++ kp_ws (kp_Xh X (h + 10)) kp_lX3 5 kp_s0 ++ kp_ws (kp_Xh X (h + 15)) kp_lX4 4 kp_s0)) H locs 18 := S
  exact cr_ret C hr hlk G S rfl (Nat.le_refl _) (Nat.le_refl _) dX1_init_60
def kp_lX5L : List kp_D := [(0, 5, [some 1, some 7, none]), (0, 2, [some 2, some 3, some 4, some 5, some 6, none, none]), (1, 5, []), (1, 120, []), (3, 10, []), (1, 10, []), (1, 10, []), (0, 7, [some 8, none]), (1, 120, [])]
def kp_lX5 : Nat → kp_D := fun k => kp_lX5L.getD k (1, 0, [])
def kp_sR : kp_W := fun k => match k with
  | 2 => kp_sH 1
  | _ => fun _ => 0
theorem hd_X5_init : yX5_init.cls ≠ "java/lang/invoke/MethodHandle" ∧ yX5_init.cls ≠ "java/lang/invoke/VarHandle" ∧ (parseMethodDescriptor yX5_init.desc).map (fun d => d.parameters.length) = some 0 := by decide +kernel
set_option maxRecDepth 100000 in
set_option maxHeartbeats 4000000 in
theorem kC_X5 {l : Launch} {X : kp_X} : kp_Cn l yX5_init cX5_init 3 8 284 X 5 [.null, .null, kp_iv 0] kp_lX5 9 kp_sR := by
  refine cr_body pnX5 rfl ?_
  intro h p e s m args below meth c ls C hin2 hr hlk G S hl
  refine cr_obj C hl q1_187 dX5_init_0 dX5_init_1 ⟨by decide, by decide⟩ ?_
  generalize hH : s.heap = H at S ⊢
  generalize ([] : List Loc) = locs at S ⊢
  refine lv_aload_n C.1 C.2.1 dX5_init_4 rfl (lv_at hl 0 rfl) ?_
  refine cr_new C G S inWX2 tyX2 tyX2_ok q1_188 q1_53 q1_4 (ci := 2) rfl (fs := [.null, .null, .null, .null, .null, kp_iv 0, kp_iv 0]) (fun j hj => by rcases (show j = 0 ∨ j = 1 ∨ j = 2 ∨ j = 3 ∨ j = 4 ∨ j = 5 ∨ j = 6 by omega) with rfl | rfl | rfl | rfl | rfl | rfl | rfl <;> rfl) (Nat.le_of_ble_eq_true rfl) (Nat.le_of_ble_eq_true rfl) dX5_init_5 (fun H S => ?_)
  refine lv_dup C.1 C.2.1 dX5_init_8 rfl ?_
  refine cr_mk (ws := (h, .inr (5, [.null, .null, kp_iv 0])) :: []) C G hl.1 S kC_X2 rfl q1_189 q1_55 q1_4 q1_56 rfl hd_X2_init ⟨Nat.le_of_ble_eq_true rfl, Nat.le_of_ble_eq_true rfl⟩ ⟨Nat.le_of_ble_eq_true rfl, Nat.le_of_ble_eq_true rfl⟩ (Nat.le_of_ble_eq_true rfl) dX5_init_9 (fun H locs S => ?_)
  have S : kp_CS X h s ((h, .inr (5, [.null, .null, kp_iv 0])) :: (kp_ws (kp_Xh X (h + 1)) kp_lH 6 kp_sH)) H locs 6 := S
  refine cr_putF C hin2 G S inWX5 tyX5 tyX5_ok nmX5 (ci := 5) rfl 0 (by decide) q1_192 rfl rfl (v := .ref (h + 1)) (tyX5_ok 0 (by decide)) rfl rfl (by decide) dX5_init_12 (fun H locs S => ?_)
  have S : kp_CS X h s ((h, .inr (5, [.ref (h + 1), .null, kp_iv 0])) :: (kp_ws (kp_Xh X (h + 1)) kp_lH 6 kp_sH)) H locs 6 := S
  refine lv_aload_n C.1 C.2.1 dX5_init_15 rfl (lv_at hl 0 rfl) ?_
  refine cr_new C G S inWX7 tyX7 tyX7_ok q1_190 q1_35 q1_3 (ci := 7) rfl (fs := [.null, kp_iv 0]) (fun j hj => by rcases (show j = 0 ∨ j = 1 by omega) with rfl | rfl <;> rfl) (Nat.le_of_ble_eq_true rfl) (Nat.le_of_ble_eq_true rfl) dX5_init_16 (fun H S => ?_)
  refine lv_dup C.1 C.2.1 dX5_init_19 rfl ?_
  refine cr_mkN (ws := (h, .inr (5, [.ref (h + 1), .null, kp_iv 0])) :: (kp_ws (kp_Xh X (h + 1)) kp_lH 6 kp_sH)) C G hl.1 S kC_X7 rfl (by simp [kp_nm]) q1_37 q1_3 q1_38 rfl hd_X7_init ⟨Nat.le_of_ble_eq_true rfl, Nat.le_of_ble_eq_true rfl⟩ ⟨Nat.le_of_ble_eq_true rfl, Nat.le_of_ble_eq_true rfl⟩ (Nat.le_of_ble_eq_true rfl) dX5_init_20 (fun H locs S => ?_)
  have S : kp_CS X h s ((h, .inr (5, [.ref (h + 1), .null, kp_iv 0])) :: (kp_ws (kp_Xh X (h + 1)) kp_lH 6 kp_sH ++ kp_ws (kp_Xh X (h + 7)) kp_lX7 2 kp_s0)) H locs 8 := S
  refine cr_putF C hin2 G S inWX5 tyX5 tyX5_ok nmX5 (ci := 5) rfl 1 (by decide) q1_194 rfl rfl (v := .ref (h + 7)) (tyX5_ok 1 (by decide)) rfl rfl (by decide) dX5_init_23 (fun H locs S => ?_)
  have S : kp_CS X h s ((h, .inr (5, [.ref (h + 1), .ref (h + 7), kp_iv 0])) :: (kp_ws (kp_Xh X (h + 1)) kp_lH 6 kp_sH ++ kp_ws (kp_Xh X (h + 7)) kp_lX7 2 kp_s0)) H locs 8 := S
  refine lv_aload_n C.1 C.2.1 dX5_init_26 rfl (lv_at hl 0 rfl) ?_
  refine lv_iconst (v := Int32.ofInt 0) C.1 C.2.1 dX5_init_27 rfl ?_
  refine cr_put C G S inWX5 tyX5 tyX5_ok nmX5 (ci := 5) rfl 2 (by decide) q1_195 rfl (v := kp_iv 0) (tyX5_ok 2 (by decide)) rfl rfl (by decide) dX5_init_28 (fun H locs S => ?_)
  have S : kp_CS X h s ((h, .inr (5, [.ref (h + 1), .ref (h + 7), kp_iv 0])) :: (kp_ws (kp_Xh X (h + 1)) kp_lH 6 kp_sH ++ kp_ws (kp_Xh X (h + 7)) kp_lX7 2 kp_s0)) H locs 8 := S
  exact cr_ret C hr hlk G S rfl (Nat.le_refl _) (Nat.le_refl _) dX5_init_31
def kp_lX6L : List kp_D := [(0, 6, [some 1, some 2, some 3, some 4, some 5, some 6]), (1, 40, []), (1, 400, []), (1, 400, []), (1, 400, []), (2, 10, []), (2, 16, [])]
def kp_lX6 : Nat → kp_D := fun k => kp_lX6L.getD k (1, 0, [])
theorem hd_X6_init : yX6_init.cls ≠ "java/lang/invoke/MethodHandle" ∧ yX6_init.cls ≠ "java/lang/invoke/VarHandle" ∧ (parseMethodDescriptor yX6_init.desc).map (fun d => d.parameters.length) = some 0 := by decide +kernel
set_option maxRecDepth 100000 in
set_option maxHeartbeats 4000000 in
theorem kC_X6 {l : Launch} {X : kp_X} : kp_Cn l yX6_init cX6_init 1 6 1266 X 6 [.null, .null, .null, .null, .null, .null] kp_lX6 7 kp_s0 := by
  refine cr_body pnX6 rfl ?_
  intro h p e s m args below meth c ls C hin2 hr hlk G S hl
  refine cr_obj C hl q1_209 dX6_init_0 dX6_init_1 ⟨by decide, by decide⟩ ?_
  generalize hH : s.heap = H at S ⊢
  generalize ([] : List Loc) = locs at S ⊢
  refine lv_aload_n C.1 C.2.1 dX6_init_4 rfl (lv_at hl 0 rfl) ?_
  refine lv_bipush (v := Int32.ofInt 40) C.1 C.2.1 dX6_init_5 rfl ?_
  refine cr_newa C G S (ty := .int) (t0 := 0) (N' := 40) (a0 := (40, .inl fun _ => Int32.ofInt 0)) rfl rfl (fun _ _ z => z) q1_51 (fun _ => rfl) (by decide) (by decide) (Nat.le_of_ble_eq_true rfl) (Nat.le_of_ble_eq_true rfl) (Nat.le_of_ble_eq_true rfl) dX6_init_7 (fun H S => ?_)
  have S : kp_CS X h s ((h, .inr (6, [.null, .null, .null, .null, .null, .null])) :: ([(h + 1, .inl (kp_cy X 0, 40, .inl fun _ => Int32.ofInt 0))])) H locs 1 := S
  refine cr_putF C hin2 G S inWX6 tyX6 tyX6_ok nmX6 (ci := 6) rfl 0 (by decide) q1_210 rfl rfl (v := .ref (h + 1)) (tyX6_ok 0 (by decide)) rfl rfl (by decide) dX6_init_9 (fun H locs S => ?_)
  have S : kp_CS X h s ((h, .inr (6, [.ref (h + 1), .null, .null, .null, .null, .null])) :: ([(h + 1, .inl (kp_cy X 0, 40, .inl fun _ => Int32.ofInt 0))])) H locs 1 := S
  refine lv_aload_n C.1 C.2.1 dX6_init_12 rfl (lv_at hl 0 rfl) ?_
  refine lv_sipush (v := Int32.ofInt 400) C.1 C.2.1 dX6_init_13 rfl ?_
  refine cr_newa C G S (ty := .int) (t0 := 0) (N' := 400) (a0 := (400, .inl fun _ => Int32.ofInt 0)) rfl rfl (fun _ _ z => z) q1_51 (fun _ => rfl) (by decide) (by decide) (Nat.le_of_ble_eq_true rfl) (Nat.le_of_ble_eq_true rfl) (Nat.le_of_ble_eq_true rfl) dX6_init_16 (fun H S => ?_)
  have S : kp_CS X h s ((h, .inr (6, [.ref (h + 1), .null, .null, .null, .null, .null])) :: ([(h + 1, .inl (kp_cy X 0, 40, .inl fun _ => Int32.ofInt 0))] ++ [(h + 2, .inl (kp_cy X 0, 400, .inl fun _ => Int32.ofInt 0))])) H locs 2 := S
  refine cr_putF C hin2 G S inWX6 tyX6 tyX6_ok nmX6 (ci := 6) rfl 1 (by decide) q1_212 rfl rfl (v := .ref (h + 2)) (tyX6_ok 1 (by decide)) rfl rfl (by decide) dX6_init_18 (fun H locs S => ?_)
  have S : kp_CS X h s ((h, .inr (6, [.ref (h + 1), .ref (h + 2), .null, .null, .null, .null])) :: ([(h + 1, .inl (kp_cy X 0, 40, .inl fun _ => Int32.ofInt 0))] ++ [(h + 2, .inl (kp_cy X 0, 400, .inl fun _ => Int32.ofInt 0))])) H locs 2 := S
  refine lv_aload_n C.1 C.2.1 dX6_init_21 rfl (lv_at hl 0 rfl) ?_
  refine lv_sipush (v := Int32.ofInt 400) C.1 C.2.1 dX6_init_22 rfl ?_
  refine cr_newa C G S (ty := .int) (t0 := 0) (N' := 400) (a0 := (400, .inl fun _ => Int32.ofInt 0)) rfl rfl (fun _ _ z => z) q1_51 (fun _ => rfl) (by decide) (by decide) (Nat.le_of_ble_eq_true rfl) (Nat.le_of_ble_eq_true rfl) (Nat.le_of_ble_eq_true rfl) dX6_init_25 (fun H S => ?_)
  have S : kp_CS X h s ((h, .inr (6, [.ref (h + 1), .ref (h + 2), .null, .null, .null, .null])) :: ([(h + 1, .inl (kp_cy X 0, 40, .inl fun _ => Int32.ofInt 0))] ++ [(h + 2, .inl (kp_cy X 0, 400, .inl fun _ => Int32.ofInt 0))] ++ [(h + 3, .inl (kp_cy X 0, 400, .inl fun _ => Int32.ofInt 0))])) H locs 3 := S
  refine cr_putF C hin2 G S inWX6 tyX6 tyX6_ok nmX6 (ci := 6) rfl 2 (by decide) q1_213 rfl rfl (v := .ref (h + 3)) (tyX6_ok 2 (by decide)) rfl rfl (by decide) dX6_init_27 (fun H locs S => ?_)
  have S : kp_CS X h s ((h, .inr (6, [.ref (h + 1), .ref (h + 2), .ref (h + 3), .null, .null, .null])) :: ([(h + 1, .inl (kp_cy X 0, 40, .inl fun _ => Int32.ofInt 0))] ++ [(h + 2, .inl (kp_cy X 0, 400, .inl fun _ => Int32.ofInt 0))] ++ [(h + 3, .inl (kp_cy X 0, 400, .inl fun _ => Int32.ofInt 0))])) H locs 3 := S
  refine lv_aload_n C.1 C.2.1 dX6_init_30 rfl (lv_at hl 0 rfl) ?_
  refine lv_sipush (v := Int32.ofInt 400) C.1 C.2.1 dX6_init_31 rfl ?_
  refine cr_newa C G S (ty := .int) (t0 := 0) (N' := 400) (a0 := (400, .inl fun _ => Int32.ofInt 0)) rfl rfl (fun _ _ z => z) q1_51 (fun _ => rfl) (by decide) (by decide) (Nat.le_of_ble_eq_true rfl) (Nat.le_of_ble_eq_true rfl) (Nat.le_of_ble_eq_true rfl) dX6_init_34 (fun H S => ?_)
  have S : kp_CS X h s ((h, .inr (6, [.ref (h + 1), .ref (h + 2), .ref (h + 3), .null, .null, .null])) :: ([(h + 1, .inl (kp_cy X 0, 40, .inl fun _ => Int32.ofInt 0))] ++ [(h + 2, .inl (kp_cy X 0, 400, .inl fun _ => Int32.ofInt 0))] ++ [(h + 3, .inl (kp_cy X 0, 400, .inl fun _ => Int32.ofInt 0))] ++ [(h + 4, .inl (kp_cy X 0, 400, .inl fun _ => Int32.ofInt 0))])) H locs 4 := S
  refine cr_putF C hin2 G S inWX6 tyX6 tyX6_ok nmX6 (ci := 6) rfl 3 (by decide) q1_214 rfl rfl (v := .ref (h + 4)) (tyX6_ok 3 (by decide)) rfl rfl (by decide) dX6_init_36 (fun H locs S => ?_)
  have S : kp_CS X h s ((h, .inr (6, [.ref (h + 1), .ref (h + 2), .ref (h + 3), .ref (h + 4), .null, .null])) :: ([(h + 1, .inl (kp_cy X 0, 40, .inl fun _ => Int32.ofInt 0))] ++ [(h + 2, .inl (kp_cy X 0, 400, .inl fun _ => Int32.ofInt 0))] ++ [(h + 3, .inl (kp_cy X 0, 400, .inl fun _ => Int32.ofInt 0))] ++ [(h + 4, .inl (kp_cy X 0, 400, .inl fun _ => Int32.ofInt 0))])) H locs 4 := S
  refine lv_aload_n C.1 C.2.1 dX6_init_39 rfl (lv_at hl 0 rfl) ?_
  refine lv_bipush (v := Int32.ofInt 10) C.1 C.2.1 dX6_init_40 rfl ?_
  refine cr_newa C G S (ty := .long) (t0 := 1) (N' := 10) (a0 := (10, .inr (.inl fun _ => Int64.ofInt 0))) rfl rfl (fun _ _ z => z) q1_50 (fun _ => rfl) (by decide) (by decide) (Nat.le_of_ble_eq_true rfl) (Nat.le_of_ble_eq_true rfl) (Nat.le_of_ble_eq_true rfl) dX6_init_42 (fun H S => ?_)
  have S : kp_CS X h s ((h, .inr (6, [.ref (h + 1), .ref (h + 2), .ref (h + 3), .ref (h + 4), .null, .null])) :: ([(h + 1, .inl (kp_cy X 0, 40, .inl fun _ => Int32.ofInt 0))] ++ [(h + 2, .inl (kp_cy X 0, 400, .inl fun _ => Int32.ofInt 0))] ++ [(h + 3, .inl (kp_cy X 0, 400, .inl fun _ => Int32.ofInt 0))] ++ [(h + 4, .inl (kp_cy X 0, 400, .inl fun _ => Int32.ofInt 0))] ++ [(h + 5, .inl (kp_cy X 1, 10, .inr (.inl fun _ => Int64.ofInt 0)))])) H locs 5 := S
  refine cr_putF C hin2 G S inWX6 tyX6 tyX6_ok nmX6 (ci := 6) rfl 4 (by decide) q1_215 rfl rfl (v := .ref (h + 5)) (tyX6_ok 4 (by decide)) rfl rfl (by decide) dX6_init_44 (fun H locs S => ?_)
  have S : kp_CS X h s ((h, .inr (6, [.ref (h + 1), .ref (h + 2), .ref (h + 3), .ref (h + 4), .ref (h + 5), .null])) :: ([(h + 1, .inl (kp_cy X 0, 40, .inl fun _ => Int32.ofInt 0))] ++ [(h + 2, .inl (kp_cy X 0, 400, .inl fun _ => Int32.ofInt 0))] ++ [(h + 3, .inl (kp_cy X 0, 400, .inl fun _ => Int32.ofInt 0))] ++ [(h + 4, .inl (kp_cy X 0, 400, .inl fun _ => Int32.ofInt 0))] ++ [(h + 5, .inl (kp_cy X 1, 10, .inr (.inl fun _ => Int64.ofInt 0)))])) H locs 5 := S
  refine lv_aload_n C.1 C.2.1 dX6_init_47 rfl (lv_at hl 0 rfl) ?_
  refine lv_bipush (v := Int32.ofInt 16) C.1 C.2.1 dX6_init_48 rfl ?_
  refine cr_newa C G S (ty := .long) (t0 := 1) (N' := 16) (a0 := (16, .inr (.inl fun _ => Int64.ofInt 0))) rfl rfl (fun _ _ z => z) q1_50 (fun _ => rfl) (by decide) (by decide) (Nat.le_of_ble_eq_true rfl) (Nat.le_of_ble_eq_true rfl) (Nat.le_of_ble_eq_true rfl) dX6_init_50 (fun H S => ?_)
  have S : kp_CS X h s ((h, .inr (6, [.ref (h + 1), .ref (h + 2), .ref (h + 3), .ref (h + 4), .ref (h + 5), .null])) :: ([(h + 1, .inl (kp_cy X 0, 40, .inl fun _ => Int32.ofInt 0))] ++ [(h + 2, .inl (kp_cy X 0, 400, .inl fun _ => Int32.ofInt 0))] ++ [(h + 3, .inl (kp_cy X 0, 400, .inl fun _ => Int32.ofInt 0))] ++ [(h + 4, .inl (kp_cy X 0, 400, .inl fun _ => Int32.ofInt 0))] ++ [(h + 5, .inl (kp_cy X 1, 10, .inr (.inl fun _ => Int64.ofInt 0)))] ++ [(h + 6, .inl (kp_cy X 1, 16, .inr (.inl fun _ => Int64.ofInt 0)))])) H locs 6 := S
  refine cr_putF C hin2 G S inWX6 tyX6 tyX6_ok nmX6 (ci := 6) rfl 5 (by decide) q1_216 rfl rfl (v := .ref (h + 6)) (tyX6_ok 5 (by decide)) rfl rfl (by decide) dX6_init_52 (fun H locs S => ?_)
  have S : kp_CS X h s ((h, .inr (6, [.ref (h + 1), .ref (h + 2), .ref (h + 3), .ref (h + 4), .ref (h + 5), .ref (h + 6)])) :: ([(h + 1, .inl (kp_cy X 0, 40, .inl fun _ => Int32.ofInt 0))] ++ [(h + 2, .inl (kp_cy X 0, 400, .inl fun _ => Int32.ofInt 0))] ++ [(h + 3, .inl (kp_cy X 0, 400, .inl fun _ => Int32.ofInt 0))] ++ [(h + 4, .inl (kp_cy X 0, 400, .inl fun _ => Int32.ofInt 0))] ++ [(h + 5, .inl (kp_cy X 1, 10, .inr (.inl fun _ => Int64.ofInt 0)))] ++ [(h + 6, .inl (kp_cy X 1, 16, .inr (.inl fun _ => Int64.ofInt 0)))])) H locs 6 := S
  exact cr_ret C hr hlk G S rfl (Nat.le_refl _) (Nat.le_refl _) dX6_init_55
def kp_lX0L : List kp_D := [(0, 0, [some 1, none, none, none, none]), (1, 20, [])]
def kp_lX0 : Nat → kp_D := fun k => kp_lX0L.getD k (1, 0, [])
theorem hd_X0_init : yX0_init.cls ≠ "java/lang/invoke/MethodHandle" ∧ yX0_init.cls ≠ "java/lang/invoke/VarHandle" ∧ (parseMethodDescriptor yX0_init.desc).map (fun d => d.parameters.length) = some 0 := by decide +kernel
set_option maxRecDepth 100000 in
set_option maxHeartbeats 4000000 in
theorem kC_X0 {l : Launch} {X : kp_X} : kp_Cn l yX0_init cX0_init 1 1 20 X 0 [.null, kp_iv 0, kp_iv 0, kp_iv 0, kp_iv 0] kp_lX0 2 kp_s0 := by
  refine cr_body pnX0 rfl ?_
  intro h p e s m args below meth c ls C hin2 hr hlk G S hl
  refine cr_obj C hl q1_235 dX0_init_0 dX0_init_1 ⟨by decide, by decide⟩ ?_
  generalize hH : s.heap = H at S ⊢
  generalize ([] : List Loc) = locs at S ⊢
  refine lv_aload_n C.1 C.2.1 dX0_init_4 rfl (lv_at hl 0 rfl) ?_
  refine lv_bipush (v := Int32.ofInt 20) C.1 C.2.1 dX0_init_5 rfl ?_
  refine cr_newa C G S (ty := .int) (t0 := 0) (N' := 20) (a0 := (20, .inl fun _ => Int32.ofInt 0)) rfl rfl (fun _ _ z => z) q1_51 (fun _ => rfl) (by decide) (by decide) (Nat.le_of_ble_eq_true rfl) (Nat.le_of_ble_eq_true rfl) (Nat.le_of_ble_eq_true rfl) dX0_init_7 (fun H S => ?_)
  have S : kp_CS X h s ((h, .inr (0, [.null, kp_iv 0, kp_iv 0, kp_iv 0, kp_iv 0])) :: ([(h + 1, .inl (kp_cy X 0, 20, .inl fun _ => Int32.ofInt 0))])) H locs 1 := S
  refine cr_putF C hin2 G S inWX0 tyX0 tyX0_ok nmX0 (ci := 0) rfl 0 (by decide) q1_236 rfl rfl (v := .ref (h + 1)) (tyX0_ok 0 (by decide)) rfl rfl (by decide) dX0_init_9 (fun H locs S => ?_)
  have S : kp_CS X h s ((h, .inr (0, [.ref (h + 1), kp_iv 0, kp_iv 0, kp_iv 0, kp_iv 0])) :: ([(h + 1, .inl (kp_cy X 0, 20, .inl fun _ => Int32.ofInt 0))])) H locs 1 := S
  refine lv_aload_n C.1 C.2.1 dX0_init_12 rfl (lv_at hl 0 rfl) ?_
  refine lv_iconst (v := Int32.ofInt 0) C.1 C.2.1 dX0_init_13 rfl ?_
  refine cr_put C G S inWX0 tyX0 tyX0_ok nmX0 (ci := 0) rfl 1 (by decide) q1_238 rfl (v := kp_iv 0) (tyX0_ok 1 (by decide)) rfl rfl (by decide) dX0_init_14 (fun H locs S => ?_)
  have S : kp_CS X h s ((h, .inr (0, [.ref (h + 1), kp_iv 0, kp_iv 0, kp_iv 0, kp_iv 0])) :: ([(h + 1, .inl (kp_cy X 0, 20, .inl fun _ => Int32.ofInt 0))])) H locs 1 := S
  refine lv_aload_n C.1 C.2.1 dX0_init_17 rfl (lv_at hl 0 rfl) ?_
  refine lv_iconst (v := Int32.ofInt 0) C.1 C.2.1 dX0_init_18 rfl ?_
  refine cr_put C G S inWX0 tyX0 tyX0_ok nmX0 (ci := 0) rfl 2 (by decide) q2_0 rfl (v := kp_iv 0) (tyX0_ok 2 (by decide)) rfl rfl (by decide) dX0_init_19 (fun H locs S => ?_)
  have S : kp_CS X h s ((h, .inr (0, [.ref (h + 1), kp_iv 0, kp_iv 0, kp_iv 0, kp_iv 0])) :: ([(h + 1, .inl (kp_cy X 0, 20, .inl fun _ => Int32.ofInt 0))])) H locs 1 := S
  refine lv_aload_n C.1 C.2.1 dX0_init_22 rfl (lv_at hl 0 rfl) ?_
  refine lv_iconst (v := Int32.ofInt 0) C.1 C.2.1 dX0_init_23 rfl ?_
  refine cr_put C G S inWX0 tyX0 tyX0_ok nmX0 (ci := 0) rfl 3 (by decide) q2_1 rfl (v := kp_iv 0) (tyX0_ok 3 (by decide)) rfl rfl (by decide) dX0_init_24 (fun H locs S => ?_)
  have S : kp_CS X h s ((h, .inr (0, [.ref (h + 1), kp_iv 0, kp_iv 0, kp_iv 0, kp_iv 0])) :: ([(h + 1, .inl (kp_cy X 0, 20, .inl fun _ => Int32.ofInt 0))])) H locs 1 := S
  refine lv_aload_n C.1 C.2.1 dX0_init_27 rfl (lv_at hl 0 rfl) ?_
  refine lv_iconst (v := Int32.ofInt 0) C.1 C.2.1 dX0_init_28 rfl ?_
  refine cr_put C G S inWX0 tyX0 tyX0_ok nmX0 (ci := 0) rfl 4 (by decide) q2_2 rfl (v := kp_iv 0) (tyX0_ok 4 (by decide)) rfl rfl (by decide) dX0_init_29 (fun H locs S => ?_)
  have S : kp_CS X h s ((h, .inr (0, [.ref (h + 1), kp_iv 0, kp_iv 0, kp_iv 0, kp_iv 0])) :: ([(h + 1, .inl (kp_cy X 0, 20, .inl fun _ => Int32.ofInt 0))])) H locs 1 := S
  exact cr_ret C hr hlk G S rfl (Nat.le_refl _) (Nat.le_refl _) dX0_init_32
def kp_sK0 : kp_W := fun k => match k with
  | 6 => kp_sH 1
  | 25 => kp_sH 1
  | 41 => kp_sH 1
  | _ => fun _ => 0
theorem hd_X9_init : yX9_init.cls ≠ "java/lang/invoke/MethodHandle" ∧ yX9_init.cls ≠ "java/lang/invoke/VarHandle" ∧ (parseMethodDescriptor yX9_init.desc).map (fun d => d.parameters.length) = some 0 := by decide +kernel
set_option maxRecDepth 100000 in
set_option maxHeartbeats 4000000 in
theorem kC_X9 {l : Launch} {X : kp_X} : kp_Cn l yX9_init cX9_init 4 57 2462 X 8 [.null, .null, kp_iv 0, .null, .null, .null, kp_iv 0, .null] kp_lK 58 kp_sK0 := by
  refine cr_body pnX9 rfl ?_
  intro h p e s m args below meth c ls C hin2 hr hlk G S hl
  refine cr_obj C hl q1_25 dX9_init_0 dX9_init_1 ⟨by decide, by decide⟩ ?_
  generalize hH : s.heap = H at S ⊢
  generalize ([] : List Loc) = locs at S ⊢
  refine lv_aload_n C.1 C.2.1 dX9_init_4 rfl (lv_at hl 0 rfl) ?_
  refine cr_new C G S inWX1 tyX1 tyX1_ok q1_28 q1_29 q1_2 (ci := 1) rfl (fs := [.null, .null, .null, .null, .null, kp_iv 0]) (fun j hj => by rcases (show j = 0 ∨ j = 1 ∨ j = 2 ∨ j = 3 ∨ j = 4 ∨ j = 5 by omega) with rfl | rfl | rfl | rfl | rfl | rfl <;> rfl) (Nat.le_of_ble_eq_true rfl) (Nat.le_of_ble_eq_true rfl) dX9_init_5 (fun H S => ?_)
  refine lv_dup C.1 C.2.1 dX9_init_8 rfl ?_
  refine cr_mkN (ws := (h, .inr (8, [.null, .null, kp_iv 0, .null, .null, .null, kp_iv 0, .null])) :: []) C G hl.1 S kC_X1 rfl (by simp [kp_nm]) q1_31 q1_2 q1_32 rfl hd_X1_init ⟨Nat.le_of_ble_eq_true rfl, Nat.le_of_ble_eq_true rfl⟩ ⟨Nat.le_of_ble_eq_true rfl, Nat.le_of_ble_eq_true rfl⟩ (Nat.le_of_ble_eq_true rfl) dX9_init_9 (fun H locs S => ?_)
  have S : kp_CS X h s ((h, .inr (8, [.null, .null, kp_iv 0, .null, .null, .null, kp_iv 0, .null])) :: (kp_ws (kp_Xh X (h + 1)) kp_lX1 19 kp_sO)) H locs 19 := S
  refine cr_putF C hin2 G S inWX9 tyX9 tyX9_ok nmX9 (ci := 8) rfl 0 (by decide) q2_14 rfl rfl (v := .ref (h + 1)) (tyX9_ok 0 (by decide)) rfl rfl (by decide) dX9_init_12 (fun H locs S => ?_)
  have S : kp_CS X h s ((h, .inr (8, [.ref (h + 1), .null, kp_iv 0, .null, .null, .null, kp_iv 0, .null])) :: (kp_ws (kp_Xh X (h + 1)) kp_lX1 19 kp_sO)) H locs 19 := S
  refine lv_aload_n C.1 C.2.1 dX9_init_15 rfl (lv_at hl 0 rfl) ?_
  refine cr_new C G S inWX1 tyX1 tyX1_ok q1_28 q1_29 q1_2 (ci := 1) rfl (fs := [.null, .null, .null, .null, .null, kp_iv 0]) (fun j hj => by rcases (show j = 0 ∨ j = 1 ∨ j = 2 ∨ j = 3 ∨ j = 4 ∨ j = 5 by omega) with rfl | rfl | rfl | rfl | rfl | rfl <;> rfl) (Nat.le_of_ble_eq_true rfl) (Nat.le_of_ble_eq_true rfl) dX9_init_16 (fun H S => ?_)
  refine lv_dup C.1 C.2.1 dX9_init_19 rfl ?_
  refine cr_mkN (ws := (h, .inr (8, [.ref (h + 1), .null, kp_iv 0, .null, .null, .null, kp_iv 0, .null])) :: (kp_ws (kp_Xh X (h + 1)) kp_lX1 19 kp_sO)) C G hl.1 S kC_X1 rfl (by simp [kp_nm]) q1_31 q1_2 q1_32 rfl hd_X1_init ⟨Nat.le_of_ble_eq_true rfl, Nat.le_of_ble_eq_true rfl⟩ ⟨Nat.le_of_ble_eq_true rfl, Nat.le_of_ble_eq_true rfl⟩ (Nat.le_of_ble_eq_true rfl) dX9_init_20 (fun H locs S => ?_)
  have S : kp_CS X h s ((h, .inr (8, [.ref (h + 1), .null, kp_iv 0, .null, .null, .null, kp_iv 0, .null])) :: (kp_ws (kp_Xh X (h + 1)) kp_lX1 19 kp_sO ++ kp_ws (kp_Xh X (h + 20)) kp_lX1 19 kp_sO)) H locs 38 := S
  refine cr_putF C hin2 G S inWX9 tyX9 tyX9_ok nmX9 (ci := 8) rfl 1 (by decide) q2_15 rfl rfl (v := .ref (h + 20)) (tyX9_ok 1 (by decide)) rfl rfl (by decide) dX9_init_23 (fun H locs S => ?_)
  have S : kp_CS X h s ((h, .inr (8, [.ref (h + 1), .ref (h + 20), kp_iv 0, .null, .null, .null, kp_iv 0, .null])) :: (kp_ws (kp_Xh X (h + 1)) kp_lX1 19 kp_sO ++ kp_ws (kp_Xh X (h + 20)) kp_lX1 19 kp_sO)) H locs 38 := S
  refine lv_aload_n C.1 C.2.1 dX9_init_26 rfl (lv_at hl 0 rfl) ?_
  refine lv_iconst (v := Int32.ofInt 0) C.1 C.2.1 dX9_init_27 rfl ?_
  refine cr_put C G S inWX9 tyX9 tyX9_ok nmX9 (ci := 8) rfl 2 (by decide) q2_16 rfl (v := kp_iv 0) (tyX9_ok 2 (by decide)) rfl rfl (by decide) dX9_init_28 (fun H locs S => ?_)
  have S : kp_CS X h s ((h, .inr (8, [.ref (h + 1), .ref (h + 20), kp_iv 0, .null, .null, .null, kp_iv 0, .null])) :: (kp_ws (kp_Xh X (h + 1)) kp_lX1 19 kp_sO ++ kp_ws (kp_Xh X (h + 20)) kp_lX1 19 kp_sO)) H locs 38 := S
  refine lv_aload_n C.1 C.2.1 dX9_init_31 rfl (lv_at hl 0 rfl) ?_
  refine cr_new C G S inWX5 tyX5 tyX5_ok q1_182 q1_183 q1_8 (ci := 5) rfl (fs := [.null, .null, kp_iv 0]) (fun j hj => by rcases (show j = 0 ∨ j = 1 ∨ j = 2 by omega) with rfl | rfl | rfl <;> rfl) (Nat.le_of_ble_eq_true rfl) (Nat.le_of_ble_eq_true rfl) dX9_init_32 (fun H S => ?_)
  refine lv_dup C.1 C.2.1 dX9_init_35 rfl ?_
  refine cr_mkN (ws := (h, .inr (8, [.ref (h + 1), .ref (h + 20), kp_iv 0, .null, .null, .null, kp_iv 0, .null])) :: (kp_ws (kp_Xh X (h + 1)) kp_lX1 19 kp_sO ++ kp_ws (kp_Xh X (h + 20)) kp_lX1 19 kp_sO)) C G hl.1 S kC_X5 rfl (by simp [kp_nm]) q1_185 q1_8 q1_186 rfl hd_X5_init ⟨Nat.le_of_ble_eq_true rfl, Nat.le_of_ble_eq_true rfl⟩ ⟨Nat.le_of_ble_eq_true rfl, Nat.le_of_ble_eq_true rfl⟩ (Nat.le_of_ble_eq_true rfl) dX9_init_36 (fun H locs S => ?_)
  have S : kp_CS X h s ((h, .inr (8, [.ref (h + 1), .ref (h + 20), kp_iv 0, .null, .null, .null, kp_iv 0, .null])) :: (kp_ws (kp_Xh X (h + 1)) kp_lX1 19 kp_sO ++ kp_ws (kp_Xh X (h + 20)) kp_lX1 19 kp_sO ++ kp_ws (kp_Xh X (h + 39)) kp_lX5 9 kp_sR)) H locs 47 := S
  refine cr_putF C hin2 G S inWX9 tyX9 tyX9_ok nmX9 (ci := 8) rfl 3 (by decide) q2_17 rfl rfl (v := .ref (h + 39)) (tyX9_ok 3 (by decide)) rfl rfl (by decide) dX9_init_39 (fun H locs S => ?_)
  have S : kp_CS X h s ((h, .inr (8, [.ref (h + 1), .ref (h + 20), kp_iv 0, .ref (h + 39), .null, .null, kp_iv 0, .null])) :: (kp_ws (kp_Xh X (h + 1)) kp_lX1 19 kp_sO ++ kp_ws (kp_Xh X (h + 20)) kp_lX1 19 kp_sO ++ kp_ws (kp_Xh X (h + 39)) kp_lX5 9 kp_sR)) H locs 47 := S
  refine lv_aload_n C.1 C.2.1 dX9_init_42 rfl (lv_at hl 0 rfl) ?_
  refine cr_new C G S inWX6 tyX6 tyX6_ok q1_204 q1_205 q1_9 (ci := 6) rfl (fs := [.null, .null, .null, .null, .null, .null]) (fun j hj => by rcases (show j = 0 ∨ j = 1 ∨ j = 2 ∨ j = 3 ∨ j = 4 ∨ j = 5 by omega) with rfl | rfl | rfl | rfl | rfl | rfl <;> rfl) (Nat.le_of_ble_eq_true rfl) (Nat.le_of_ble_eq_true rfl) dX9_init_43 (fun H S => ?_)
  refine lv_dup C.1 C.2.1 dX9_init_46 rfl ?_
  refine cr_mkN (ws := (h, .inr (8, [.ref (h + 1), .ref (h + 20), kp_iv 0, .ref (h + 39), .null, .null, kp_iv 0, .null])) :: (kp_ws (kp_Xh X (h + 1)) kp_lX1 19 kp_sO ++ kp_ws (kp_Xh X (h + 20)) kp_lX1 19 kp_sO ++ kp_ws (kp_Xh X (h + 39)) kp_lX5 9 kp_sR)) C G hl.1 S kC_X6 rfl (by simp [kp_nm]) q1_207 q1_9 q1_208 rfl hd_X6_init ⟨Nat.le_of_ble_eq_true rfl, Nat.le_of_ble_eq_true rfl⟩ ⟨Nat.le_of_ble_eq_true rfl, Nat.le_of_ble_eq_true rfl⟩ (Nat.le_of_ble_eq_true rfl) dX9_init_47 (fun H locs S => ?_)
  have S : kp_CS X h s ((h, .inr (8, [.ref (h + 1), .ref (h + 20), kp_iv 0, .ref (h + 39), .null, .null, kp_iv 0, .null])) :: (kp_ws (kp_Xh X (h + 1)) kp_lX1 19 kp_sO ++ kp_ws (kp_Xh X (h + 20)) kp_lX1 19 kp_sO ++ kp_ws (kp_Xh X (h + 39)) kp_lX5 9 kp_sR ++ kp_ws (kp_Xh X (h + 48)) kp_lX6 7 kp_s0)) H locs 54 := S
  refine cr_putF C hin2 G S inWX9 tyX9 tyX9_ok nmX9 (ci := 8) rfl 4 (by decide) q2_18 rfl rfl (v := .ref (h + 48)) (tyX9_ok 4 (by decide)) rfl rfl (by decide) dX9_init_50 (fun H locs S => ?_)
  have S : kp_CS X h s ((h, .inr (8, [.ref (h + 1), .ref (h + 20), kp_iv 0, .ref (h + 39), .ref (h + 48), .null, kp_iv 0, .null])) :: (kp_ws (kp_Xh X (h + 1)) kp_lX1 19 kp_sO ++ kp_ws (kp_Xh X (h + 20)) kp_lX1 19 kp_sO ++ kp_ws (kp_Xh X (h + 39)) kp_lX5 9 kp_sR ++ kp_ws (kp_Xh X (h + 48)) kp_lX6 7 kp_s0)) H locs 54 := S
  refine lv_aload_n C.1 C.2.1 dX9_init_53 rfl (lv_at hl 0 rfl) ?_
  refine cr_new C G S inWX0 tyX0 tyX0_ok q1_230 q1_231 q1_10 (ci := 0) rfl (fs := [.null, kp_iv 0, kp_iv 0, kp_iv 0, kp_iv 0]) (fun j hj => by rcases (show j = 0 ∨ j = 1 ∨ j = 2 ∨ j = 3 ∨ j = 4 by omega) with rfl | rfl | rfl | rfl | rfl <;> rfl) (Nat.le_of_ble_eq_true rfl) (Nat.le_of_ble_eq_true rfl) dX9_init_54 (fun H S => ?_)
  refine lv_dup C.1 C.2.1 dX9_init_57 rfl ?_
  refine cr_mkN (ws := (h, .inr (8, [.ref (h + 1), .ref (h + 20), kp_iv 0, .ref (h + 39), .ref (h + 48), .null, kp_iv 0, .null])) :: (kp_ws (kp_Xh X (h + 1)) kp_lX1 19 kp_sO ++ kp_ws (kp_Xh X (h + 20)) kp_lX1 19 kp_sO ++ kp_ws (kp_Xh X (h + 39)) kp_lX5 9 kp_sR ++ kp_ws (kp_Xh X (h + 48)) kp_lX6 7 kp_s0)) C G hl.1 S kC_X0 rfl (by simp [kp_nm]) q1_233 q1_10 q1_234 rfl hd_X0_init ⟨Nat.le_of_ble_eq_true rfl, Nat.le_of_ble_eq_true rfl⟩ ⟨Nat.le_of_ble_eq_true rfl, Nat.le_of_ble_eq_true rfl⟩ (Nat.le_of_ble_eq_true rfl) dX9_init_58 (fun H locs S => ?_)
  have S : kp_CS X h s ((h, .inr (8, [.ref (h + 1), .ref (h + 20), kp_iv 0, .ref (h + 39), .ref (h + 48), .null, kp_iv 0, .null])) :: (kp_ws (kp_Xh X (h + 1)) kp_lX1 19 kp_sO ++ kp_ws (kp_Xh X (h + 20)) kp_lX1 19 kp_sO ++ kp_ws (kp_Xh X (h + 39)) kp_lX5 9 kp_sR ++ kp_ws (kp_Xh X (h + 48)) kp_lX6 7 kp_s0 ++ kp_ws (kp_Xh X (h + 55)) kp_lX0 2 kp_s0)) H locs 56 := S
  refine cr_putF C hin2 G S inWX9 tyX9 tyX9_ok nmX9 (ci := 8) rfl 5 (by decide) q2_19 rfl rfl (v := .ref (h + 55)) (tyX9_ok 5 (by decide)) rfl rfl (by decide) dX9_init_61 (fun H locs S => ?_)
  have S : kp_CS X h s ((h, .inr (8, [.ref (h + 1), .ref (h + 20), kp_iv 0, .ref (h + 39), .ref (h + 48), .ref (h + 55), kp_iv 0, .null])) :: (kp_ws (kp_Xh X (h + 1)) kp_lX1 19 kp_sO ++ kp_ws (kp_Xh X (h + 20)) kp_lX1 19 kp_sO ++ kp_ws (kp_Xh X (h + 39)) kp_lX5 9 kp_sR ++ kp_ws (kp_Xh X (h + 48)) kp_lX6 7 kp_s0 ++ kp_ws (kp_Xh X (h + 55)) kp_lX0 2 kp_s0)) H locs 56 := S
  refine lv_aload_n C.1 C.2.1 dX9_init_64 rfl (lv_at hl 0 rfl) ?_
  refine lv_iconst (v := Int32.ofInt 0) C.1 C.2.1 dX9_init_65 rfl ?_
  refine cr_put C G S inWX9 tyX9 tyX9_ok nmX9 (ci := 8) rfl 6 (by decide) q2_20 rfl (v := kp_iv 0) (tyX9_ok 6 (by decide)) rfl rfl (by decide) dX9_init_66 (fun H locs S => ?_)
  have S : kp_CS X h s ((h, .inr (8, [.ref (h + 1), .ref (h + 20), kp_iv 0, .ref (h + 39), .ref (h + 48), .ref (h + 55), kp_iv 0, .null])) :: (kp_ws (kp_Xh X (h + 1)) kp_lX1 19 kp_sO ++ kp_ws (kp_Xh X (h + 20)) kp_lX1 19 kp_sO ++ kp_ws (kp_Xh X (h + 39)) kp_lX5 9 kp_sR ++ kp_ws (kp_Xh X (h + 48)) kp_lX6 7 kp_s0 ++ kp_ws (kp_Xh X (h + 55)) kp_lX0 2 kp_s0)) H locs 56 := S
  refine lv_aload_n C.1 C.2.1 dX9_init_69 rfl (lv_at hl 0 rfl) ?_
  refine lv_bipush (v := Int32.ofInt 120) C.1 C.2.1 dX9_init_70 rfl ?_
  refine cr_newa C G S (ty := .int) (t0 := 0) (N' := 120) (a0 := (120, .inl fun _ => Int32.ofInt 0)) rfl rfl (fun _ _ z => z) q1_51 (fun _ => rfl) (by decide) (by decide) (Nat.le_of_ble_eq_true rfl) (Nat.le_of_ble_eq_true rfl) (Nat.le_of_ble_eq_true rfl) dX9_init_72 (fun H S => ?_)
  have S : kp_CS X h s ((h, .inr (8, [.ref (h + 1), .ref (h + 20), kp_iv 0, .ref (h + 39), .ref (h + 48), .ref (h + 55), kp_iv 0, .null])) :: (kp_ws (kp_Xh X (h + 1)) kp_lX1 19 kp_sO ++ kp_ws (kp_Xh X (h + 20)) kp_lX1 19 kp_sO ++ kp_ws (kp_Xh X (h + 39)) kp_lX5 9 kp_sR ++ kp_ws (kp_Xh X (h + 48)) kp_lX6 7 kp_s0 ++ kp_ws (kp_Xh X (h + 55)) kp_lX0 2 kp_s0 ++ [(h + 57, .inl (kp_cy X 0, 120, .inl fun _ => Int32.ofInt 0))])) H locs 57 := S
  refine cr_putF C hin2 G S inWX9 tyX9 tyX9_ok nmX9 (ci := 8) rfl 7 (by decide) q2_21 rfl rfl (v := .ref (h + 57)) (tyX9_ok 7 (by decide)) rfl rfl (by decide) dX9_init_74 (fun H locs S => ?_)
  have S : kp_CS X h s ((h, .inr (8, [.ref (h + 1), .ref (h + 20), kp_iv 0, .ref (h + 39), .ref (h + 48), .ref (h + 55), kp_iv 0, .ref (h + 57)])) :: (kp_ws (kp_Xh X (h + 1)) kp_lX1 19 kp_sO ++ kp_ws (kp_Xh X (h + 20)) kp_lX1 19 kp_sO ++ kp_ws (kp_Xh X (h + 39)) kp_lX5 9 kp_sR ++ kp_ws (kp_Xh X (h + 48)) kp_lX6 7 kp_s0 ++ kp_ws (kp_Xh X (h + 55)) kp_lX0 2 kp_s0 ++ [(h + 57, .inl (kp_cy X 0, 120, .inl fun _ => Int32.ofInt 0))])) H locs 57 := S
  exact cr_ret C hr hlk G S rfl (Nat.le_refl _) (Nat.le_refl _) dX9_init_77
def kp_sM : kp_W := fun k => match k with
  | 1 => fun j => if j = 4 then -1 else 0
  | _ => fun _ => 0
theorem hd_X10_init : yX10_init.cls ≠ "java/lang/invoke/MethodHandle" ∧ yX10_init.cls ≠ "java/lang/invoke/VarHandle" ∧ (parseMethodDescriptor yX10_init.desc).map (fun d => d.parameters.length) = some 0 := by decide +kernel
set_option maxRecDepth 100000 in
set_option maxHeartbeats 4000000 in
theorem kC_X10 {l : Launch} {X : kp_X} : kp_Cn l yX10_init cX10_init 1 9 2681 X 9 [kp_iv 0, .null, .null, kp_iv 0, kp_iv 0, kp_iv 0, kp_iv 0, kp_iv 0, kp_iv 0, .null, .null, kp_iv 0, kp_iv 0, kp_iv 0, .null, .null, kp_iv 0, kp_iv 0, kp_iv 0, .null, .null, .null, kp_iv 0, kp_iv 0, kp_iv 0, kp_iv 0] kp_lM 10 kp_sM := by
  refine cr_body pnX10 rfl ?_
  intro h p e s m args below meth c ls C hin2 hr hlk G S hl
  refine cr_obj C hl q4_55 dX10_init_0 dX10_init_1 ⟨by decide, by decide⟩ ?_
  generalize hH : s.heap = H at S ⊢
  generalize ([] : List Loc) = locs at S ⊢
  refine lv_aload_n C.1 C.2.1 dX10_init_4 rfl (lv_at hl 0 rfl) ?_
  refine lv_sipush (v := Int32.ofInt 1066) C.1 C.2.1 dX10_init_5 rfl ?_
  refine cr_newa C G S (ty := .int) (t0 := 0) (N' := 1066) (a0 := (1066, .inl fun _ => Int32.ofInt 0)) rfl rfl (fun _ _ z => z) q1_51 (fun _ => rfl) (by decide) (by decide) (Nat.le_of_ble_eq_true rfl) (Nat.le_of_ble_eq_true rfl) (Nat.le_of_ble_eq_true rfl) dX10_init_8 (fun H S => ?_)
  have S : kp_CS X h s ((h, .inr (9, [kp_iv 0, .null, .null, kp_iv 0, kp_iv 0, kp_iv 0, kp_iv 0, kp_iv 0, kp_iv 0, .null, .null, kp_iv 0, kp_iv 0, kp_iv 0, .null, .null, kp_iv 0, kp_iv 0, kp_iv 0, .null, .null, .null, kp_iv 0, kp_iv 0, kp_iv 0, kp_iv 0])) :: ([(h + 1, .inl (kp_cy X 0, 1066, .inl fun _ => Int32.ofInt 0))])) H locs 1 := S
  refine cr_putF C hin2 G S inWX10 tyX10 tyX10_ok nmX10 (ci := 9) rfl 1 (by decide) q4_56 rfl rfl (v := .ref (h + 1)) (tyX10_ok 1 (by decide)) rfl rfl (by decide) dX10_init_10 (fun H locs S => ?_)
  have S : kp_CS X h s ((h, .inr (9, [kp_iv 0, .ref (h + 1), .null, kp_iv 0, kp_iv 0, kp_iv 0, kp_iv 0, kp_iv 0, kp_iv 0, .null, .null, kp_iv 0, kp_iv 0, kp_iv 0, .null, .null, kp_iv 0, kp_iv 0, kp_iv 0, .null, .null, .null, kp_iv 0, kp_iv 0, kp_iv 0, kp_iv 0])) :: ([(h + 1, .inl (kp_cy X 0, 1066, .inl fun _ => Int32.ofInt 0))])) H locs 1 := S
  refine lv_aload_n C.1 C.2.1 dX10_init_13 rfl (lv_at hl 0 rfl) ?_
  refine lv_sipush (v := Int32.ofInt 1066) C.1 C.2.1 dX10_init_14 rfl ?_
  refine cr_newa C G S (ty := .int) (t0 := 0) (N' := 1066) (a0 := (1066, .inl fun _ => Int32.ofInt 0)) rfl rfl (fun _ _ z => z) q1_51 (fun _ => rfl) (by decide) (by decide) (Nat.le_of_ble_eq_true rfl) (Nat.le_of_ble_eq_true rfl) (Nat.le_of_ble_eq_true rfl) dX10_init_17 (fun H S => ?_)
  have S : kp_CS X h s ((h, .inr (9, [kp_iv 0, .ref (h + 1), .null, kp_iv 0, kp_iv 0, kp_iv 0, kp_iv 0, kp_iv 0, kp_iv 0, .null, .null, kp_iv 0, kp_iv 0, kp_iv 0, .null, .null, kp_iv 0, kp_iv 0, kp_iv 0, .null, .null, .null, kp_iv 0, kp_iv 0, kp_iv 0, kp_iv 0])) :: ([(h + 1, .inl (kp_cy X 0, 1066, .inl fun _ => Int32.ofInt 0))] ++ [(h + 2, .inl (kp_cy X 0, 1066, .inl fun _ => Int32.ofInt 0))])) H locs 2 := S
  refine cr_putF C hin2 G S inWX10 tyX10 tyX10_ok nmX10 (ci := 9) rfl 2 (by decide) q4_57 rfl rfl (v := .ref (h + 2)) (tyX10_ok 2 (by decide)) rfl rfl (by decide) dX10_init_19 (fun H locs S => ?_)
  have S : kp_CS X h s ((h, .inr (9, [kp_iv 0, .ref (h + 1), .ref (h + 2), kp_iv 0, kp_iv 0, kp_iv 0, kp_iv 0, kp_iv 0, kp_iv 0, .null, .null, kp_iv 0, kp_iv 0, kp_iv 0, .null, .null, kp_iv 0, kp_iv 0, kp_iv 0, .null, .null, .null, kp_iv 0, kp_iv 0, kp_iv 0, kp_iv 0])) :: ([(h + 1, .inl (kp_cy X 0, 1066, .inl fun _ => Int32.ofInt 0))] ++ [(h + 2, .inl (kp_cy X 0, 1066, .inl fun _ => Int32.ofInt 0))])) H locs 2 := S
  refine lv_aload_n C.1 C.2.1 dX10_init_22 rfl (lv_at hl 0 rfl) ?_
  refine lv_iconst (v := Int32.ofInt 5) C.1 C.2.1 dX10_init_23 rfl ?_
  refine cr_newa C G S (ty := .int) (t0 := 0) (N' := 5) (a0 := (5, .inl fun _ => Int32.ofInt 0)) rfl rfl (fun _ _ z => z) q1_51 (fun _ => rfl) (by decide) (by decide) (Nat.le_of_ble_eq_true rfl) (Nat.le_of_ble_eq_true rfl) (Nat.le_of_ble_eq_true rfl) dX10_init_24 (fun H S => ?_)
  have S : kp_CS X h s ((h, .inr (9, [kp_iv 0, .ref (h + 1), .ref (h + 2), kp_iv 0, kp_iv 0, kp_iv 0, kp_iv 0, kp_iv 0, kp_iv 0, .null, .null, kp_iv 0, kp_iv 0, kp_iv 0, .null, .null, kp_iv 0, kp_iv 0, kp_iv 0, .null, .null, .null, kp_iv 0, kp_iv 0, kp_iv 0, kp_iv 0])) :: ([(h + 1, .inl (kp_cy X 0, 1066, .inl fun _ => Int32.ofInt 0))] ++ [(h + 2, .inl (kp_cy X 0, 1066, .inl fun _ => Int32.ofInt 0))] ++ [(h + 3, .inl (kp_cy X 0, 5, .inl fun _ => Int32.ofInt 0))])) H locs 3 := S
  refine cr_putF C hin2 G S inWX10 tyX10 tyX10_ok nmX10 (ci := 9) rfl 9 (by decide) q4_64 rfl rfl (v := .ref (h + 3)) (tyX10_ok 9 (by decide)) rfl rfl (by decide) dX10_init_26 (fun H locs S => ?_)
  have S : kp_CS X h s ((h, .inr (9, [kp_iv 0, .ref (h + 1), .ref (h + 2), kp_iv 0, kp_iv 0, kp_iv 0, kp_iv 0, kp_iv 0, kp_iv 0, .ref (h + 3), .null, kp_iv 0, kp_iv 0, kp_iv 0, .null, .null, kp_iv 0, kp_iv 0, kp_iv 0, .null, .null, .null, kp_iv 0, kp_iv 0, kp_iv 0, kp_iv 0])) :: ([(h + 1, .inl (kp_cy X 0, 1066, .inl fun _ => Int32.ofInt 0))] ++ [(h + 2, .inl (kp_cy X 0, 1066, .inl fun _ => Int32.ofInt 0))] ++ [(h + 3, .inl (kp_cy X 0, 5, .inl fun _ => Int32.ofInt 0))])) H locs 3 := S
  refine lv_aload_n C.1 C.2.1 dX10_init_29 rfl (lv_at hl 0 rfl) ?_
  refine lv_bipush (v := Int32.ofInt 64) C.1 C.2.1 dX10_init_30 rfl ?_
  refine cr_newa C G S (ty := .boolean) (t0 := 2) (N' := 64) (a0 := (64, .inl fun _ => Int32.ofInt 0)) rfl rfl (fun _ _ z => z) q1_97 (fun _ => rfl) (by decide) (by decide) (Nat.le_of_ble_eq_true rfl) (Nat.le_of_ble_eq_true rfl) (Nat.le_of_ble_eq_true rfl) dX10_init_32 (fun H S => ?_)
  have S : kp_CS X h s ((h, .inr (9, [kp_iv 0, .ref (h + 1), .ref (h + 2), kp_iv 0, kp_iv 0, kp_iv 0, kp_iv 0, kp_iv 0, kp_iv 0, .ref (h + 3), .null, kp_iv 0, kp_iv 0, kp_iv 0, .null, .null, kp_iv 0, kp_iv 0, kp_iv 0, .null, .null, .null, kp_iv 0, kp_iv 0, kp_iv 0, kp_iv 0])) :: ([(h + 1, .inl (kp_cy X 0, 1066, .inl fun _ => Int32.ofInt 0))] ++ [(h + 2, .inl (kp_cy X 0, 1066, .inl fun _ => Int32.ofInt 0))] ++ [(h + 3, .inl (kp_cy X 0, 5, .inl fun _ => Int32.ofInt 0))] ++ [(h + 4, .inl (kp_cy X 2, 64, .inl fun _ => Int32.ofInt 0))])) H locs 4 := S
  refine cr_putF C hin2 G S inWX10 tyX10 tyX10_ok nmX10 (ci := 9) rfl 10 (by decide) q4_65 rfl rfl (v := .ref (h + 4)) (tyX10_ok 10 (by decide)) rfl rfl (by decide) dX10_init_34 (fun H locs S => ?_)
  have S : kp_CS X h s ((h, .inr (9, [kp_iv 0, .ref (h + 1), .ref (h + 2), kp_iv 0, kp_iv 0, kp_iv 0, kp_iv 0, kp_iv 0, kp_iv 0, .ref (h + 3), .ref (h + 4), kp_iv 0, kp_iv 0, kp_iv 0, .null, .null, kp_iv 0, kp_iv 0, kp_iv 0, .null, .null, .null, kp_iv 0, kp_iv 0, kp_iv 0, kp_iv 0])) :: ([(h + 1, .inl (kp_cy X 0, 1066, .inl fun _ => Int32.ofInt 0))] ++ [(h + 2, .inl (kp_cy X 0, 1066, .inl fun _ => Int32.ofInt 0))] ++ [(h + 3, .inl (kp_cy X 0, 5, .inl fun _ => Int32.ofInt 0))] ++ [(h + 4, .inl (kp_cy X 2, 64, .inl fun _ => Int32.ofInt 0))])) H locs 4 := S
  refine lv_aload_n C.1 C.2.1 dX10_init_37 rfl (lv_at hl 0 rfl) ?_
  refine lv_bipush (v := Int32.ofInt 40) C.1 C.2.1 dX10_init_38 rfl ?_
  refine cr_newa C G S (ty := .int) (t0 := 0) (N' := 40) (a0 := (40, .inl fun _ => Int32.ofInt 0)) rfl rfl (fun _ _ z => z) q1_51 (fun _ => rfl) (by decide) (by decide) (Nat.le_of_ble_eq_true rfl) (Nat.le_of_ble_eq_true rfl) (Nat.le_of_ble_eq_true rfl) dX10_init_40 (fun H S => ?_)
  have S : kp_CS X h s ((h, .inr (9, [kp_iv 0, .ref (h + 1), .ref (h + 2), kp_iv 0, kp_iv 0, kp_iv 0, kp_iv 0, kp_iv 0, kp_iv 0, .ref (h + 3), .ref (h + 4), kp_iv 0, kp_iv 0, kp_iv 0, .null, .null, kp_iv 0, kp_iv 0, kp_iv 0, .null, .null, .null, kp_iv 0, kp_iv 0, kp_iv 0, kp_iv 0])) :: ([(h + 1, .inl (kp_cy X 0, 1066, .inl fun _ => Int32.ofInt 0))] ++ [(h + 2, .inl (kp_cy X 0, 1066, .inl fun _ => Int32.ofInt 0))] ++ [(h + 3, .inl (kp_cy X 0, 5, .inl fun _ => Int32.ofInt 0))] ++ [(h + 4, .inl (kp_cy X 2, 64, .inl fun _ => Int32.ofInt 0))] ++ [(h + 5, .inl (kp_cy X 0, 40, .inl fun _ => Int32.ofInt 0))])) H locs 5 := S
  refine cr_putF C hin2 G S inWX10 tyX10 tyX10_ok nmX10 (ci := 9) rfl 14 (by decide) q4_69 rfl rfl (v := .ref (h + 5)) (tyX10_ok 14 (by decide)) rfl rfl (by decide) dX10_init_42 (fun H locs S => ?_)
  have S : kp_CS X h s ((h, .inr (9, [kp_iv 0, .ref (h + 1), .ref (h + 2), kp_iv 0, kp_iv 0, kp_iv 0, kp_iv 0, kp_iv 0, kp_iv 0, .ref (h + 3), .ref (h + 4), kp_iv 0, kp_iv 0, kp_iv 0, .ref (h + 5), .null, kp_iv 0, kp_iv 0, kp_iv 0, .null, .null, .null, kp_iv 0, kp_iv 0, kp_iv 0, kp_iv 0])) :: ([(h + 1, .inl (kp_cy X 0, 1066, .inl fun _ => Int32.ofInt 0))] ++ [(h + 2, .inl (kp_cy X 0, 1066, .inl fun _ => Int32.ofInt 0))] ++ [(h + 3, .inl (kp_cy X 0, 5, .inl fun _ => Int32.ofInt 0))] ++ [(h + 4, .inl (kp_cy X 2, 64, .inl fun _ => Int32.ofInt 0))] ++ [(h + 5, .inl (kp_cy X 0, 40, .inl fun _ => Int32.ofInt 0))])) H locs 5 := S
  refine lv_aload_n C.1 C.2.1 dX10_init_45 rfl (lv_at hl 0 rfl) ?_
  refine lv_sipush (v := Int32.ofInt 400) C.1 C.2.1 dX10_init_46 rfl ?_
  refine cr_newa C G S (ty := .int) (t0 := 0) (N' := 400) (a0 := (400, .inl fun _ => Int32.ofInt 0)) rfl rfl (fun _ _ z => z) q1_51 (fun _ => rfl) (by decide) (by decide) (Nat.le_of_ble_eq_true rfl) (Nat.le_of_ble_eq_true rfl) (Nat.le_of_ble_eq_true rfl) dX10_init_49 (fun H S => ?_)
  have S : kp_CS X h s ((h, .inr (9, [kp_iv 0, .ref (h + 1), .ref (h + 2), kp_iv 0, kp_iv 0, kp_iv 0, kp_iv 0, kp_iv 0, kp_iv 0, .ref (h + 3), .ref (h + 4), kp_iv 0, kp_iv 0, kp_iv 0, .ref (h + 5), .null, kp_iv 0, kp_iv 0, kp_iv 0, .null, .null, .null, kp_iv 0, kp_iv 0, kp_iv 0, kp_iv 0])) :: ([(h + 1, .inl (kp_cy X 0, 1066, .inl fun _ => Int32.ofInt 0))] ++ [(h + 2, .inl (kp_cy X 0, 1066, .inl fun _ => Int32.ofInt 0))] ++ [(h + 3, .inl (kp_cy X 0, 5, .inl fun _ => Int32.ofInt 0))] ++ [(h + 4, .inl (kp_cy X 2, 64, .inl fun _ => Int32.ofInt 0))] ++ [(h + 5, .inl (kp_cy X 0, 40, .inl fun _ => Int32.ofInt 0))] ++ [(h + 6, .inl (kp_cy X 0, 400, .inl fun _ => Int32.ofInt 0))])) H locs 6 := S
  refine cr_putF C hin2 G S inWX10 tyX10 tyX10_ok nmX10 (ci := 9) rfl 15 (by decide) q4_70 rfl rfl (v := .ref (h + 6)) (tyX10_ok 15 (by decide)) rfl rfl (by decide) dX10_init_51 (fun H locs S => ?_)
  have S : kp_CS X h s ((h, .inr (9, [kp_iv 0, .ref (h + 1), .ref (h + 2), kp_iv 0, kp_iv 0, kp_iv 0, kp_iv 0, kp_iv 0, kp_iv 0, .ref (h + 3), .ref (h + 4), kp_iv 0, kp_iv 0, kp_iv 0, .ref (h + 5), .ref (h + 6), kp_iv 0, kp_iv 0, kp_iv 0, .null, .null, .null, kp_iv 0, kp_iv 0, kp_iv 0, kp_iv 0])) :: ([(h + 1, .inl (kp_cy X 0, 1066, .inl fun _ => Int32.ofInt 0))] ++ [(h + 2, .inl (kp_cy X 0, 1066, .inl fun _ => Int32.ofInt 0))] ++ [(h + 3, .inl (kp_cy X 0, 5, .inl fun _ => Int32.ofInt 0))] ++ [(h + 4, .inl (kp_cy X 2, 64, .inl fun _ => Int32.ofInt 0))] ++ [(h + 5, .inl (kp_cy X 0, 40, .inl fun _ => Int32.ofInt 0))] ++ [(h + 6, .inl (kp_cy X 0, 400, .inl fun _ => Int32.ofInt 0))])) H locs 6 := S
  refine lv_aload_n C.1 C.2.1 dX10_init_54 rfl (lv_at hl 0 rfl) ?_
  refine lv_bipush (v := Int32.ofInt 10) C.1 C.2.1 dX10_init_55 rfl ?_
  refine cr_newa C G S (ty := .int) (t0 := 0) (N' := 10) (a0 := (10, .inl fun _ => Int32.ofInt 0)) rfl rfl (fun _ _ z => z) q1_51 (fun _ => rfl) (by decide) (by decide) (Nat.le_of_ble_eq_true rfl) (Nat.le_of_ble_eq_true rfl) (Nat.le_of_ble_eq_true rfl) dX10_init_57 (fun H S => ?_)
  have S : kp_CS X h s ((h, .inr (9, [kp_iv 0, .ref (h + 1), .ref (h + 2), kp_iv 0, kp_iv 0, kp_iv 0, kp_iv 0, kp_iv 0, kp_iv 0, .ref (h + 3), .ref (h + 4), kp_iv 0, kp_iv 0, kp_iv 0, .ref (h + 5), .ref (h + 6), kp_iv 0, kp_iv 0, kp_iv 0, .null, .null, .null, kp_iv 0, kp_iv 0, kp_iv 0, kp_iv 0])) :: ([(h + 1, .inl (kp_cy X 0, 1066, .inl fun _ => Int32.ofInt 0))] ++ [(h + 2, .inl (kp_cy X 0, 1066, .inl fun _ => Int32.ofInt 0))] ++ [(h + 3, .inl (kp_cy X 0, 5, .inl fun _ => Int32.ofInt 0))] ++ [(h + 4, .inl (kp_cy X 2, 64, .inl fun _ => Int32.ofInt 0))] ++ [(h + 5, .inl (kp_cy X 0, 40, .inl fun _ => Int32.ofInt 0))] ++ [(h + 6, .inl (kp_cy X 0, 400, .inl fun _ => Int32.ofInt 0))] ++ [(h + 7, .inl (kp_cy X 0, 10, .inl fun _ => Int32.ofInt 0))])) H locs 7 := S
  refine cr_putF C hin2 G S inWX10 tyX10 tyX10_ok nmX10 (ci := 9) rfl 19 (by decide) q4_74 rfl rfl (v := .ref (h + 7)) (tyX10_ok 19 (by decide)) rfl rfl (by decide) dX10_init_59 (fun H locs S => ?_)
  have S : kp_CS X h s ((h, .inr (9, [kp_iv 0, .ref (h + 1), .ref (h + 2), kp_iv 0, kp_iv 0, kp_iv 0, kp_iv 0, kp_iv 0, kp_iv 0, .ref (h + 3), .ref (h + 4), kp_iv 0, kp_iv 0, kp_iv 0, .ref (h + 5), .ref (h + 6), kp_iv 0, kp_iv 0, kp_iv 0, .ref (h + 7), .null, .null, kp_iv 0, kp_iv 0, kp_iv 0, kp_iv 0])) :: ([(h + 1, .inl (kp_cy X 0, 1066, .inl fun _ => Int32.ofInt 0))] ++ [(h + 2, .inl (kp_cy X 0, 1066, .inl fun _ => Int32.ofInt 0))] ++ [(h + 3, .inl (kp_cy X 0, 5, .inl fun _ => Int32.ofInt 0))] ++ [(h + 4, .inl (kp_cy X 2, 64, .inl fun _ => Int32.ofInt 0))] ++ [(h + 5, .inl (kp_cy X 0, 40, .inl fun _ => Int32.ofInt 0))] ++ [(h + 6, .inl (kp_cy X 0, 400, .inl fun _ => Int32.ofInt 0))] ++ [(h + 7, .inl (kp_cy X 0, 10, .inl fun _ => Int32.ofInt 0))])) H locs 7 := S
  refine lv_aload_n C.1 C.2.1 dX10_init_62 rfl (lv_at hl 0 rfl) ?_
  refine lv_bipush (v := Int32.ofInt 10) C.1 C.2.1 dX10_init_63 rfl ?_
  refine cr_newa C G S (ty := .int) (t0 := 0) (N' := 10) (a0 := (10, .inl fun _ => Int32.ofInt 0)) rfl rfl (fun _ _ z => z) q1_51 (fun _ => rfl) (by decide) (by decide) (Nat.le_of_ble_eq_true rfl) (Nat.le_of_ble_eq_true rfl) (Nat.le_of_ble_eq_true rfl) dX10_init_65 (fun H S => ?_)
  have S : kp_CS X h s ((h, .inr (9, [kp_iv 0, .ref (h + 1), .ref (h + 2), kp_iv 0, kp_iv 0, kp_iv 0, kp_iv 0, kp_iv 0, kp_iv 0, .ref (h + 3), .ref (h + 4), kp_iv 0, kp_iv 0, kp_iv 0, .ref (h + 5), .ref (h + 6), kp_iv 0, kp_iv 0, kp_iv 0, .ref (h + 7), .null, .null, kp_iv 0, kp_iv 0, kp_iv 0, kp_iv 0])) :: ([(h + 1, .inl (kp_cy X 0, 1066, .inl fun _ => Int32.ofInt 0))] ++ [(h + 2, .inl (kp_cy X 0, 1066, .inl fun _ => Int32.ofInt 0))] ++ [(h + 3, .inl (kp_cy X 0, 5, .inl fun _ => Int32.ofInt 0))] ++ [(h + 4, .inl (kp_cy X 2, 64, .inl fun _ => Int32.ofInt 0))] ++ [(h + 5, .inl (kp_cy X 0, 40, .inl fun _ => Int32.ofInt 0))] ++ [(h + 6, .inl (kp_cy X 0, 400, .inl fun _ => Int32.ofInt 0))] ++ [(h + 7, .inl (kp_cy X 0, 10, .inl fun _ => Int32.ofInt 0))] ++ [(h + 8, .inl (kp_cy X 0, 10, .inl fun _ => Int32.ofInt 0))])) H locs 8 := S
  refine cr_putF C hin2 G S inWX10 tyX10 tyX10_ok nmX10 (ci := 9) rfl 20 (by decide) q4_75 rfl rfl (v := .ref (h + 8)) (tyX10_ok 20 (by decide)) rfl rfl (by decide) dX10_init_67 (fun H locs S => ?_)
  have S : kp_CS X h s ((h, .inr (9, [kp_iv 0, .ref (h + 1), .ref (h + 2), kp_iv 0, kp_iv 0, kp_iv 0, kp_iv 0, kp_iv 0, kp_iv 0, .ref (h + 3), .ref (h + 4), kp_iv 0, kp_iv 0, kp_iv 0, .ref (h + 5), .ref (h + 6), kp_iv 0, kp_iv 0, kp_iv 0, .ref (h + 7), .ref (h + 8), .null, kp_iv 0, kp_iv 0, kp_iv 0, kp_iv 0])) :: ([(h + 1, .inl (kp_cy X 0, 1066, .inl fun _ => Int32.ofInt 0))] ++ [(h + 2, .inl (kp_cy X 0, 1066, .inl fun _ => Int32.ofInt 0))] ++ [(h + 3, .inl (kp_cy X 0, 5, .inl fun _ => Int32.ofInt 0))] ++ [(h + 4, .inl (kp_cy X 2, 64, .inl fun _ => Int32.ofInt 0))] ++ [(h + 5, .inl (kp_cy X 0, 40, .inl fun _ => Int32.ofInt 0))] ++ [(h + 6, .inl (kp_cy X 0, 400, .inl fun _ => Int32.ofInt 0))] ++ [(h + 7, .inl (kp_cy X 0, 10, .inl fun _ => Int32.ofInt 0))] ++ [(h + 8, .inl (kp_cy X 0, 10, .inl fun _ => Int32.ofInt 0))])) H locs 8 := S
  refine lv_aload_n C.1 C.2.1 dX10_init_70 rfl (lv_at hl 0 rfl) ?_
  refine lv_bipush (v := Int32.ofInt 20) C.1 C.2.1 dX10_init_71 rfl ?_
  refine cr_newa C G S (ty := .int) (t0 := 0) (N' := 20) (a0 := (20, .inl fun _ => Int32.ofInt 0)) rfl rfl (fun _ _ z => z) q1_51 (fun _ => rfl) (by decide) (by decide) (Nat.le_of_ble_eq_true rfl) (Nat.le_of_ble_eq_true rfl) (Nat.le_of_ble_eq_true rfl) dX10_init_73 (fun H S => ?_)
  have S : kp_CS X h s ((h, .inr (9, [kp_iv 0, .ref (h + 1), .ref (h + 2), kp_iv 0, kp_iv 0, kp_iv 0, kp_iv 0, kp_iv 0, kp_iv 0, .ref (h + 3), .ref (h + 4), kp_iv 0, kp_iv 0, kp_iv 0, .ref (h + 5), .ref (h + 6), kp_iv 0, kp_iv 0, kp_iv 0, .ref (h + 7), .ref (h + 8), .null, kp_iv 0, kp_iv 0, kp_iv 0, kp_iv 0])) :: ([(h + 1, .inl (kp_cy X 0, 1066, .inl fun _ => Int32.ofInt 0))] ++ [(h + 2, .inl (kp_cy X 0, 1066, .inl fun _ => Int32.ofInt 0))] ++ [(h + 3, .inl (kp_cy X 0, 5, .inl fun _ => Int32.ofInt 0))] ++ [(h + 4, .inl (kp_cy X 2, 64, .inl fun _ => Int32.ofInt 0))] ++ [(h + 5, .inl (kp_cy X 0, 40, .inl fun _ => Int32.ofInt 0))] ++ [(h + 6, .inl (kp_cy X 0, 400, .inl fun _ => Int32.ofInt 0))] ++ [(h + 7, .inl (kp_cy X 0, 10, .inl fun _ => Int32.ofInt 0))] ++ [(h + 8, .inl (kp_cy X 0, 10, .inl fun _ => Int32.ofInt 0))] ++ [(h + 9, .inl (kp_cy X 0, 20, .inl fun _ => Int32.ofInt 0))])) H locs 9 := S
  refine cr_putF C hin2 G S inWX10 tyX10 tyX10_ok nmX10 (ci := 9) rfl 21 (by decide) q4_76 rfl rfl (v := .ref (h + 9)) (tyX10_ok 21 (by decide)) rfl rfl (by decide) dX10_init_75 (fun H locs S => ?_)
  have S : kp_CS X h s ((h, .inr (9, [kp_iv 0, .ref (h + 1), .ref (h + 2), kp_iv 0, kp_iv 0, kp_iv 0, kp_iv 0, kp_iv 0, kp_iv 0, .ref (h + 3), .ref (h + 4), kp_iv 0, kp_iv 0, kp_iv 0, .ref (h + 5), .ref (h + 6), kp_iv 0, kp_iv 0, kp_iv 0, .ref (h + 7), .ref (h + 8), .ref (h + 9), kp_iv 0, kp_iv 0, kp_iv 0, kp_iv 0])) :: ([(h + 1, .inl (kp_cy X 0, 1066, .inl fun _ => Int32.ofInt 0))] ++ [(h + 2, .inl (kp_cy X 0, 1066, .inl fun _ => Int32.ofInt 0))] ++ [(h + 3, .inl (kp_cy X 0, 5, .inl fun _ => Int32.ofInt 0))] ++ [(h + 4, .inl (kp_cy X 2, 64, .inl fun _ => Int32.ofInt 0))] ++ [(h + 5, .inl (kp_cy X 0, 40, .inl fun _ => Int32.ofInt 0))] ++ [(h + 6, .inl (kp_cy X 0, 400, .inl fun _ => Int32.ofInt 0))] ++ [(h + 7, .inl (kp_cy X 0, 10, .inl fun _ => Int32.ofInt 0))] ++ [(h + 8, .inl (kp_cy X 0, 10, .inl fun _ => Int32.ofInt 0))] ++ [(h + 9, .inl (kp_cy X 0, 20, .inl fun _ => Int32.ofInt 0))])) H locs 9 := S
  exact cr_none C hr hlk G S hl (Nat.le_of_ble_eq_true rfl) rfl (fun k hk => by match k, hk with | 0, _ => rfl | 1, hk => exact absurd rfl hk | k + 2, _ => rfl)
