-- by program (wip/whole/gen/ctors.py): a constructor
theorem hd_X2_init : yX2_init.cls ≠ "java/lang/invoke/MethodHandle" ∧ yX2_init.cls ≠ "java/lang/invoke/VarHandle" ∧ (parseMethodDescriptor yX2_init.desc).map (fun d => d.parameters.length) = some 0 := by decide +kernel
set_option maxRecDepth 100000 in
set_option maxHeartbeats 4000000 in
theorem kC_X2 {l : Launch} {X : kp_X} : kp_Cn l yX2_init cX2_init 2 4 145 X 2 [.null, .null, .null, .null, kp_iv 0, kp_iv 0, kp_iv 0] kp_lH 5 kp_sH := by
  refine cr_body pnX2 rfl ?_
  intro h p e s m args below meth c ls C hin2 hr hlk G S hl
  refine cr_obj C hl q1_57 dX2_init_0 dX2_init_1 ⟨by decide, by decide⟩ ?_
  generalize hH : s.heap = H at S ⊢
  generalize ([] : List Loc) = locs at S ⊢
  refine lv_aload_n C.1 C.2.1 dX2_init_4 rfl (lv_at hl 0 rfl) ?_
  refine lv_iconst (v := Int32.ofInt 5) C.1 C.2.1 dX2_init_5 rfl ?_
  refine cs_newa (k := 1) C G S (by simp [kp_ws_len]) (ty := .int) (t0 := 0) (N' := 5) (a0 := (5, .inl fun _ => Int32.ofInt 0)) rfl rfl (fun _ _ z => z) q1_51 (fun _ => rfl) (by decide) (by decide) (Nat.le_of_ble_eq_true rfl) (Nat.le_of_ble_eq_true rfl) (Nat.le_of_ble_eq_true rfl) dX2_init_6 (fun H S => ?_)
  have S : kp_CS X h s ((h, .inr (2, [.null, .null, .null, .null, kp_iv 0, kp_iv 0, kp_iv 0])) :: ([(h + 1, .inl (kp_cy X 0, 5, .inl fun _ => Int32.ofInt 0))])) H locs 1 := S
  refine cr_putF C hin2 G S inWX2 tyX2 tyX2_ok nmX2 (ci := 2) rfl 0 (by decide) q1_67 rfl rfl (v := .ref (h + 1)) (tyX2_ok 0 (by decide)) rfl rfl (Nat.le_of_ble_eq_true rfl) dX2_init_8 (fun H locs S => ?_)
  have S : kp_CS X h s ((h, .inr (2, [.ref (h + 1), .null, .null, .null, kp_iv 0, kp_iv 0, kp_iv 0])) :: ([(h + 1, .inl (kp_cy X 0, 5, .inl fun _ => Int32.ofInt 0))])) H locs 1 := S
  refine lv_aload_n C.1 C.2.1 dX2_init_11 rfl (lv_at hl 0 rfl) ?_
  refine lv_bipush (v := Int32.ofInt 120) C.1 C.2.1 dX2_init_12 rfl ?_
  refine cs_newa (k := 2) C G S (by simp [kp_ws_len]) (ty := .int) (t0 := 0) (N' := 120) (a0 := (120, .inl fun _ => Int32.ofInt 0)) rfl rfl (fun _ _ z => z) q1_51 (fun _ => rfl) (by decide) (by decide) (Nat.le_of_ble_eq_true rfl) (Nat.le_of_ble_eq_true rfl) (Nat.le_of_ble_eq_true rfl) dX2_init_14 (fun H S => ?_)
  have S : kp_CS X h s ((h, .inr (2, [.ref (h + 1), .null, .null, .null, kp_iv 0, kp_iv 0, kp_iv 0])) :: ([(h + 1, .inl (kp_cy X 0, 5, .inl fun _ => Int32.ofInt 0))] ++ [(h + 2, .inl (kp_cy X 0, 120, .inl fun _ => Int32.ofInt 0))])) H locs 2 := S
  refine cr_putF C hin2 G S inWX2 tyX2 tyX2_ok nmX2 (ci := 2) rfl 1 (by decide) q1_71 rfl rfl (v := .ref (h + 2)) (tyX2_ok 1 (by decide)) rfl rfl (Nat.le_of_ble_eq_true rfl) dX2_init_16 (fun H locs S => ?_)
  have S : kp_CS X h s ((h, .inr (2, [.ref (h + 1), .ref (h + 2), .null, .null, kp_iv 0, kp_iv 0, kp_iv 0])) :: ([(h + 1, .inl (kp_cy X 0, 5, .inl fun _ => Int32.ofInt 0))] ++ [(h + 2, .inl (kp_cy X 0, 120, .inl fun _ => Int32.ofInt 0))])) H locs 2 := S
  refine lv_aload_n C.1 C.2.1 dX2_init_19 rfl (lv_at hl 0 rfl) ?_
  refine lv_bipush (v := Int32.ofInt 10) C.1 C.2.1 dX2_init_20 rfl ?_
  refine cs_newa (k := 3) C G S (by simp [kp_ws_len]) (ty := .int) (t0 := 0) (N' := 10) (a0 := (10, .inl fun _ => Int32.ofInt 0)) rfl rfl (fun _ _ z => z) q1_51 (fun _ => rfl) (by decide) (by decide) (Nat.le_of_ble_eq_true rfl) (Nat.le_of_ble_eq_true rfl) (Nat.le_of_ble_eq_true rfl) dX2_init_22 (fun H S => ?_)
  have S : kp_CS X h s ((h, .inr (2, [.ref (h + 1), .ref (h + 2), .null, .null, kp_iv 0, kp_iv 0, kp_iv 0])) :: ([(h + 1, .inl (kp_cy X 0, 5, .inl fun _ => Int32.ofInt 0))] ++ [(h + 2, .inl (kp_cy X 0, 120, .inl fun _ => Int32.ofInt 0))] ++ [(h + 3, .inl (kp_cy X 0, 10, .inl fun _ => Int32.ofInt 0))])) H locs 3 := S
  refine cr_putF C hin2 G S inWX2 tyX2 tyX2_ok nmX2 (ci := 2) rfl 2 (by decide) q1_73 rfl rfl (v := .ref (h + 3)) (tyX2_ok 2 (by decide)) rfl rfl (Nat.le_of_ble_eq_true rfl) dX2_init_24 (fun H locs S => ?_)
  have S : kp_CS X h s ((h, .inr (2, [.ref (h + 1), .ref (h + 2), .ref (h + 3), .null, kp_iv 0, kp_iv 0, kp_iv 0])) :: ([(h + 1, .inl (kp_cy X 0, 5, .inl fun _ => Int32.ofInt 0))] ++ [(h + 2, .inl (kp_cy X 0, 120, .inl fun _ => Int32.ofInt 0))] ++ [(h + 3, .inl (kp_cy X 0, 10, .inl fun _ => Int32.ofInt 0))])) H locs 3 := S
  refine lv_aload_n C.1 C.2.1 dX2_init_27 rfl (lv_at hl 0 rfl) ?_
  refine lv_bipush (v := Int32.ofInt 10) C.1 C.2.1 dX2_init_28 rfl ?_
  refine cs_newa (k := 4) C G S (by simp [kp_ws_len]) (ty := .int) (t0 := 0) (N' := 10) (a0 := (10, .inl fun _ => Int32.ofInt 0)) rfl rfl (fun _ _ z => z) q1_51 (fun _ => rfl) (by decide) (by decide) (Nat.le_of_ble_eq_true rfl) (Nat.le_of_ble_eq_true rfl) (Nat.le_of_ble_eq_true rfl) dX2_init_30 (fun H S => ?_)
  have S : kp_CS X h s ((h, .inr (2, [.ref (h + 1), .ref (h + 2), .ref (h + 3), .null, kp_iv 0, kp_iv 0, kp_iv 0])) :: ([(h + 1, .inl (kp_cy X 0, 5, .inl fun _ => Int32.ofInt 0))] ++ [(h + 2, .inl (kp_cy X 0, 120, .inl fun _ => Int32.ofInt 0))] ++ [(h + 3, .inl (kp_cy X 0, 10, .inl fun _ => Int32.ofInt 0))] ++ [(h + 4, .inl (kp_cy X 0, 10, .inl fun _ => Int32.ofInt 0))])) H locs 4 := S
  refine cr_putF C hin2 G S inWX2 tyX2 tyX2_ok nmX2 (ci := 2) rfl 3 (by decide) q1_75 rfl rfl (v := .ref (h + 4)) (tyX2_ok 3 (by decide)) rfl rfl (Nat.le_of_ble_eq_true rfl) dX2_init_32 (fun H locs S => ?_)
  have S : kp_CS X h s ((h, .inr (2, [.ref (h + 1), .ref (h + 2), .ref (h + 3), .ref (h + 4), kp_iv 0, kp_iv 0, kp_iv 0])) :: ([(h + 1, .inl (kp_cy X 0, 5, .inl fun _ => Int32.ofInt 0))] ++ [(h + 2, .inl (kp_cy X 0, 120, .inl fun _ => Int32.ofInt 0))] ++ [(h + 3, .inl (kp_cy X 0, 10, .inl fun _ => Int32.ofInt 0))] ++ [(h + 4, .inl (kp_cy X 0, 10, .inl fun _ => Int32.ofInt 0))])) H locs 4 := S
  refine lv_aload_n C.1 C.2.1 dX2_init_35 rfl (lv_at hl 0 rfl) ?_
  refine lv_iconst (v := Int32.ofInt 0) C.1 C.2.1 dX2_init_36 rfl ?_
  refine cr_put C G S inWX2 tyX2 tyX2_ok nmX2 (ci := 2) rfl 4 (by decide) q1_77 rfl (v := kp_iv 0) (tyX2_ok 4 (by decide)) rfl rfl (Nat.le_of_ble_eq_true rfl) dX2_init_37 (fun H locs S => ?_)
  have S : kp_CS X h s ((h, .inr (2, [.ref (h + 1), .ref (h + 2), .ref (h + 3), .ref (h + 4), kp_iv 0, kp_iv 0, kp_iv 0])) :: ([(h + 1, .inl (kp_cy X 0, 5, .inl fun _ => Int32.ofInt 0))] ++ [(h + 2, .inl (kp_cy X 0, 120, .inl fun _ => Int32.ofInt 0))] ++ [(h + 3, .inl (kp_cy X 0, 10, .inl fun _ => Int32.ofInt 0))] ++ [(h + 4, .inl (kp_cy X 0, 10, .inl fun _ => Int32.ofInt 0))])) H locs 4 := S
  refine lv_aload_n C.1 C.2.1 dX2_init_40 rfl (lv_at hl 0 rfl) ?_
  refine lv_iconst (v := Int32.ofInt 0) C.1 C.2.1 dX2_init_41 rfl ?_
  refine cr_put C G S inWX2 tyX2 tyX2_ok nmX2 (ci := 2) rfl 5 (by decide) q1_78 rfl (v := kp_iv 0) (tyX2_ok 5 (by decide)) rfl rfl (Nat.le_of_ble_eq_true rfl) dX2_init_42 (fun H locs S => ?_)
  have S : kp_CS X h s ((h, .inr (2, [.ref (h + 1), .ref (h + 2), .ref (h + 3), .ref (h + 4), kp_iv 0, kp_iv 0, kp_iv 0])) :: ([(h + 1, .inl (kp_cy X 0, 5, .inl fun _ => Int32.ofInt 0))] ++ [(h + 2, .inl (kp_cy X 0, 120, .inl fun _ => Int32.ofInt 0))] ++ [(h + 3, .inl (kp_cy X 0, 10, .inl fun _ => Int32.ofInt 0))] ++ [(h + 4, .inl (kp_cy X 0, 10, .inl fun _ => Int32.ofInt 0))])) H locs 4 := S
  refine lv_aload_n C.1 C.2.1 dX2_init_45 rfl (lv_at hl 0 rfl) ?_
  refine lv_iconst (v := Int32.ofInt 0) C.1 C.2.1 dX2_init_46 rfl ?_
  refine cr_put C G S inWX2 tyX2 tyX2_ok nmX2 (ci := 2) rfl 6 (by decide) q1_80 rfl (v := kp_iv 0) (tyX2_ok 6 (by decide)) rfl rfl (Nat.le_of_ble_eq_true rfl) dX2_init_47 (fun H locs S => ?_)
  have S : kp_CS X h s ((h, .inr (2, [.ref (h + 1), .ref (h + 2), .ref (h + 3), .ref (h + 4), kp_iv 0, kp_iv 0, kp_iv 0])) :: ([(h + 1, .inl (kp_cy X 0, 5, .inl fun _ => Int32.ofInt 0))] ++ [(h + 2, .inl (kp_cy X 0, 120, .inl fun _ => Int32.ofInt 0))] ++ [(h + 3, .inl (kp_cy X 0, 10, .inl fun _ => Int32.ofInt 0))] ++ [(h + 4, .inl (kp_cy X 0, 10, .inl fun _ => Int32.ofInt 0))])) H locs 4 := S
  have w0 : [(h, .inr (2, [.ref (h + 1), .ref (h + 2), .ref (h + 3), .ref (h + 4), kp_iv 0, kp_iv 0, kp_iv 0]))] = kp_ws (kp_Xh X h) kp_lH 1 kp_s0 := rfl
  have w1 := kp_wsB (a := 1) (e := .inl (kp_cy X 0, 5, .inl fun _ => Int32.ofInt 0)) w0 rfl
  have w2 := kp_wsB (a := 2) (e := .inl (kp_cy X 0, 120, .inl fun _ => Int32.ofInt 0)) w1 rfl
  have w3 := kp_wsB (a := 3) (e := .inl (kp_cy X 0, 10, .inl fun _ => Int32.ofInt 0)) w2 rfl
  have w4 := kp_wsB (a := 4) (e := .inl (kp_cy X 0, 10, .inl fun _ => Int32.ofInt 0)) w3 rfl
  have S : kp_CS X h s (kp_ws (kp_Xh X h) kp_lH 5 kp_s0) H locs 4 := by rw [← w4]; exact S
  exact cr_empty C hr hlk G S hl (Nat.le_of_ble_eq_true rfl)
