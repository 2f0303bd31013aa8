-- by program (wip/whole/gen/ctors.py): a constructor
def kp_lX3L : List kp_D := [(0, 3, [some 1, some 2, some 3, some 4, none, none]), (1, 10, []), (1, 10, []), (1, 10, []), (1, 10, [])]
def kp_lX3 : Nat → kp_D := fun k => kp_lX3L.getD k (1, 0, [])
theorem hd_X3_init : yX3_init.cls ≠ "java/lang/invoke/MethodHandle" ∧ yX3_init.cls ≠ "java/lang/invoke/VarHandle" ∧ (parseMethodDescriptor yX3_init.desc).map (fun d => d.parameters.length) = some 0 := by decide +kernel
set_option maxRecDepth 100000 in
set_option maxHeartbeats 4000000 in
theorem kC_X3 {l : Launch} {X : kp_X} : kp_Cn l yX3_init cX3_init 1 4 40 X 3 [.null, .null, .null, .null, kp_iv 0, kp_iv 0] kp_lX3 5 kp_s0 := by
  refine cr_body pnX3 rfl ?_
  intro h p e s m args below meth c ls C hin2 hr hlk G S hl
  refine cr_obj C hl q1_101 dX3_init_0 dX3_init_1 ⟨by decide, by decide⟩ ?_
  generalize hH : s.heap = H at S ⊢
  generalize ([] : List Loc) = locs at S ⊢
  refine lv_aload_n C.1 C.2.1 dX3_init_4 rfl (lv_at hl 0 rfl) ?_
  refine lv_bipush (v := Int32.ofInt 10) C.1 C.2.1 dX3_init_5 rfl ?_
  refine cs_newa (k := 1) C G S (by simp [kp_ws_len]) (ty := .int) (t0 := 0) (N' := 10) (a0 := (10, .inl fun _ => Int32.ofInt 0)) rfl rfl (fun _ _ z => z) q1_51 (fun _ => rfl) (by decide) (by decide) (Nat.le_of_ble_eq_true rfl) (Nat.le_of_ble_eq_true rfl) (Nat.le_of_ble_eq_true rfl) dX3_init_7 (fun H S => ?_)
  have S : kp_CS X h s ((h, .inr (3, [.null, .null, .null, .null, kp_iv 0, kp_iv 0])) :: ([(h + 1, .inl (kp_cy X 0, 10, .inl fun _ => Int32.ofInt 0))])) H locs 1 := S
  refine cr_putF C hin2 G S inWX3 tyX3 tyX3_ok nmX3 (ci := 3) rfl 0 (by decide) q1_102 rfl rfl (v := .ref (h + 1)) (tyX3_ok 0 (by decide)) rfl rfl (Nat.le_of_ble_eq_true rfl) dX3_init_9 (fun H locs S => ?_)
  have S : kp_CS X h s ((h, .inr (3, [.ref (h + 1), .null, .null, .null, kp_iv 0, kp_iv 0])) :: ([(h + 1, .inl (kp_cy X 0, 10, .inl fun _ => Int32.ofInt 0))])) H locs 1 := S
  refine lv_aload_n C.1 C.2.1 dX3_init_12 rfl (lv_at hl 0 rfl) ?_
  refine lv_bipush (v := Int32.ofInt 10) C.1 C.2.1 dX3_init_13 rfl ?_
  refine cs_newa (k := 2) C G S (by simp [kp_ws_len]) (ty := .int) (t0 := 0) (N' := 10) (a0 := (10, .inl fun _ => Int32.ofInt 0)) rfl rfl (fun _ _ z => z) q1_51 (fun _ => rfl) (by decide) (by decide) (Nat.le_of_ble_eq_true rfl) (Nat.le_of_ble_eq_true rfl) (Nat.le_of_ble_eq_true rfl) dX3_init_15 (fun H S => ?_)
  have S : kp_CS X h s ((h, .inr (3, [.ref (h + 1), .null, .null, .null, kp_iv 0, kp_iv 0])) :: ([(h + 1, .inl (kp_cy X 0, 10, .inl fun _ => Int32.ofInt 0))] ++ [(h + 2, .inl (kp_cy X 0, 10, .inl fun _ => Int32.ofInt 0))])) H locs 2 := S
  refine cr_putF C hin2 G S inWX3 tyX3 tyX3_ok nmX3 (ci := 3) rfl 1 (by decide) q1_106 rfl rfl (v := .ref (h + 2)) (tyX3_ok 1 (by decide)) rfl rfl (Nat.le_of_ble_eq_true rfl) dX3_init_17 (fun H locs S => ?_)
  have S : kp_CS X h s ((h, .inr (3, [.ref (h + 1), .ref (h + 2), .null, .null, kp_iv 0, kp_iv 0])) :: ([(h + 1, .inl (kp_cy X 0, 10, .inl fun _ => Int32.ofInt 0))] ++ [(h + 2, .inl (kp_cy X 0, 10, .inl fun _ => Int32.ofInt 0))])) H locs 2 := S
  refine lv_aload_n C.1 C.2.1 dX3_init_20 rfl (lv_at hl 0 rfl) ?_
  refine lv_bipush (v := Int32.ofInt 10) C.1 C.2.1 dX3_init_21 rfl ?_
  refine cs_newa (k := 3) C G S (by simp [kp_ws_len]) (ty := .int) (t0 := 0) (N' := 10) (a0 := (10, .inl fun _ => Int32.ofInt 0)) rfl rfl (fun _ _ z => z) q1_51 (fun _ => rfl) (by decide) (by decide) (Nat.le_of_ble_eq_true rfl) (Nat.le_of_ble_eq_true rfl) (Nat.le_of_ble_eq_true rfl) dX3_init_23 (fun H S => ?_)
  have S : kp_CS X h s ((h, .inr (3, [.ref (h + 1), .ref (h + 2), .null, .null, kp_iv 0, kp_iv 0])) :: ([(h + 1, .inl (kp_cy X 0, 10, .inl fun _ => Int32.ofInt 0))] ++ [(h + 2, .inl (kp_cy X 0, 10, .inl fun _ => Int32.ofInt 0))] ++ [(h + 3, .inl (kp_cy X 0, 10, .inl fun _ => Int32.ofInt 0))])) H locs 3 := S
  refine cr_putF C hin2 G S inWX3 tyX3 tyX3_ok nmX3 (ci := 3) rfl 2 (by decide) q1_109 rfl rfl (v := .ref (h + 3)) (tyX3_ok 2 (by decide)) rfl rfl (Nat.le_of_ble_eq_true rfl) dX3_init_25 (fun H locs S => ?_)
  have S : kp_CS X h s ((h, .inr (3, [.ref (h + 1), .ref (h + 2), .ref (h + 3), .null, kp_iv 0, kp_iv 0])) :: ([(h + 1, .inl (kp_cy X 0, 10, .inl fun _ => Int32.ofInt 0))] ++ [(h + 2, .inl (kp_cy X 0, 10, .inl fun _ => Int32.ofInt 0))] ++ [(h + 3, .inl (kp_cy X 0, 10, .inl fun _ => Int32.ofInt 0))])) H locs 3 := S
  refine lv_aload_n C.1 C.2.1 dX3_init_28 rfl (lv_at hl 0 rfl) ?_
  refine lv_bipush (v := Int32.ofInt 10) C.1 C.2.1 dX3_init_29 rfl ?_
  refine cs_newa (k := 4) C G S (by simp [kp_ws_len]) (ty := .int) (t0 := 0) (N' := 10) (a0 := (10, .inl fun _ => Int32.ofInt 0)) rfl rfl (fun _ _ z => z) q1_51 (fun _ => rfl) (by decide) (by decide) (Nat.le_of_ble_eq_true rfl) (Nat.le_of_ble_eq_true rfl) (Nat.le_of_ble_eq_true rfl) dX3_init_31 (fun H S => ?_)
  have S : kp_CS X h s ((h, .inr (3, [.ref (h + 1), .ref (h + 2), .ref (h + 3), .null, kp_iv 0, kp_iv 0])) :: ([(h + 1, .inl (kp_cy X 0, 10, .inl fun _ => Int32.ofInt 0))] ++ [(h + 2, .inl (kp_cy X 0, 10, .inl fun _ => Int32.ofInt 0))] ++ [(h + 3, .inl (kp_cy X 0, 10, .inl fun _ => Int32.ofInt 0))] ++ [(h + 4, .inl (kp_cy X 0, 10, .inl fun _ => Int32.ofInt 0))])) H locs 4 := S
  refine cr_putF C hin2 G S inWX3 tyX3 tyX3_ok nmX3 (ci := 3) rfl 3 (by decide) q1_113 rfl rfl (v := .ref (h + 4)) (tyX3_ok 3 (by decide)) rfl rfl (Nat.le_of_ble_eq_true rfl) dX3_init_33 (fun H locs S => ?_)
  have S : kp_CS X h s ((h, .inr (3, [.ref (h + 1), .ref (h + 2), .ref (h + 3), .ref (h + 4), kp_iv 0, kp_iv 0])) :: ([(h + 1, .inl (kp_cy X 0, 10, .inl fun _ => Int32.ofInt 0))] ++ [(h + 2, .inl (kp_cy X 0, 10, .inl fun _ => Int32.ofInt 0))] ++ [(h + 3, .inl (kp_cy X 0, 10, .inl fun _ => Int32.ofInt 0))] ++ [(h + 4, .inl (kp_cy X 0, 10, .inl fun _ => Int32.ofInt 0))])) H locs 4 := S
  refine lv_aload_n C.1 C.2.1 dX3_init_36 rfl (lv_at hl 0 rfl) ?_
  refine lv_iconst (v := Int32.ofInt 0) C.1 C.2.1 dX3_init_37 rfl ?_
  refine cr_put C G S inWX3 tyX3 tyX3_ok nmX3 (ci := 3) rfl 4 (by decide) q1_115 rfl (v := kp_iv 0) (tyX3_ok 4 (by decide)) rfl rfl (Nat.le_of_ble_eq_true rfl) dX3_init_38 (fun H locs S => ?_)
  have S : kp_CS X h s ((h, .inr (3, [.ref (h + 1), .ref (h + 2), .ref (h + 3), .ref (h + 4), kp_iv 0, kp_iv 0])) :: ([(h + 1, .inl (kp_cy X 0, 10, .inl fun _ => Int32.ofInt 0))] ++ [(h + 2, .inl (kp_cy X 0, 10, .inl fun _ => Int32.ofInt 0))] ++ [(h + 3, .inl (kp_cy X 0, 10, .inl fun _ => Int32.ofInt 0))] ++ [(h + 4, .inl (kp_cy X 0, 10, .inl fun _ => Int32.ofInt 0))])) H locs 4 := S
  refine lv_aload_n C.1 C.2.1 dX3_init_41 rfl (lv_at hl 0 rfl) ?_
  refine lv_iconst (v := Int32.ofInt 0) C.1 C.2.1 dX3_init_42 rfl ?_
  refine cr_put C G S inWX3 tyX3 tyX3_ok nmX3 (ci := 3) rfl 5 (by decide) q1_117 rfl (v := kp_iv 0) (tyX3_ok 5 (by decide)) rfl rfl (Nat.le_of_ble_eq_true rfl) dX3_init_43 (fun H locs S => ?_)
  have S : kp_CS X h s ((h, .inr (3, [.ref (h + 1), .ref (h + 2), .ref (h + 3), .ref (h + 4), kp_iv 0, kp_iv 0])) :: ([(h + 1, .inl (kp_cy X 0, 10, .inl fun _ => Int32.ofInt 0))] ++ [(h + 2, .inl (kp_cy X 0, 10, .inl fun _ => Int32.ofInt 0))] ++ [(h + 3, .inl (kp_cy X 0, 10, .inl fun _ => Int32.ofInt 0))] ++ [(h + 4, .inl (kp_cy X 0, 10, .inl fun _ => Int32.ofInt 0))])) H locs 4 := S
  have w0 : [(h, .inr (3, [.ref (h + 1), .ref (h + 2), .ref (h + 3), .ref (h + 4), kp_iv 0, kp_iv 0]))] = kp_ws (kp_Xh X h) kp_lX3 1 kp_s0 := rfl
  have w1 := kp_wsB (a := 1) (e := .inl (kp_cy X 0, 10, .inl fun _ => Int32.ofInt 0)) w0 rfl
  have w2 := kp_wsB (a := 2) (e := .inl (kp_cy X 0, 10, .inl fun _ => Int32.ofInt 0)) w1 rfl
  have w3 := kp_wsB (a := 3) (e := .inl (kp_cy X 0, 10, .inl fun _ => Int32.ofInt 0)) w2 rfl
  have w4 := kp_wsB (a := 4) (e := .inl (kp_cy X 0, 10, .inl fun _ => Int32.ofInt 0)) w3 rfl
  exact cr_ret (lay := kp_lX3) (n := 5) (σ := kp_s0) C hr hlk G S w4 (Nat.le_refl _) (Nat.le_refl _) dX3_init_46
