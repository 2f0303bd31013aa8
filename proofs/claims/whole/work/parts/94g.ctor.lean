-- by program (wip/whole/gen/ctors.py): a constructor
def kp_lX6L : List kp_D := [(0, 6, [some 1, some 2, some 3, some 4, some 5, some 6]), (1, 40, []), (1, 400, []), (1, 400, []), (1, 400, []), (2, 10, []), (2, 16, [])]
def kp_lX6 : Nat → kp_D := fun k => kp_lX6L.getD k (1, 0, [])
theorem hd_X6_init : yX6_init.cls ≠ "java/lang/invoke/MethodHandle" ∧ yX6_init.cls ≠ "java/lang/invoke/VarHandle" ∧ (parseMethodDescriptor yX6_init.desc).map (fun d => d.parameters.length) = some 0 := by decide +kernel
set_option maxRecDepth 100000 in
set_option maxHeartbeats 4000000 in
theorem kC_X6 {l : Launch} {X : kp_X} : kp_Cn l yX6_init cX6_init 1 6 1266 X 6 [.null, .null, .null, .null, .null, .null] kp_lX6 7 kp_s0 := by
  refine cr_body pnX6 rfl ?_
  intro h p e s m args below meth c ls C hin2 hr hlk G S hl
  refine cr_obj C hl q1_207 dX6_init_0 dX6_init_1 ⟨by decide, by decide⟩ ?_
  generalize hH : s.heap = H at S ⊢
  generalize ([] : List Loc) = locs at S ⊢
  refine lv_aload_n C.1 C.2.1 dX6_init_4 rfl (lv_at hl 0 rfl) ?_
  refine lv_bipush (v := Int32.ofInt 40) C.1 C.2.1 dX6_init_5 rfl ?_
  refine cs_newa (k := 1) C G S (by simp [kp_ws_len]) (ty := .int) (t0 := 0) (N' := 40) (a0 := (40, .inl fun _ => Int32.ofInt 0)) rfl rfl (fun _ _ z => z) q1_51 (fun _ => rfl) (by decide) (by decide) (Nat.le_of_ble_eq_true rfl) (Nat.le_of_ble_eq_true rfl) (Nat.le_of_ble_eq_true rfl) dX6_init_7 (fun H S => ?_)
  have S : kp_CS X h s ((h, .inr (6, [.null, .null, .null, .null, .null, .null])) :: ([(h + 1, .inl (kp_cy X 0, 40, .inl fun _ => Int32.ofInt 0))])) H locs 1 := S
  refine cr_putF C hin2 G S inWX6 tyX6 tyX6_ok nmX6 (ci := 6) rfl 0 (by decide) q1_208 rfl rfl (v := .ref (h + 1)) (tyX6_ok 0 (by decide)) rfl rfl (Nat.le_of_ble_eq_true rfl) dX6_init_9 (fun H locs S => ?_)
  have S : kp_CS X h s ((h, .inr (6, [.ref (h + 1), .null, .null, .null, .null, .null])) :: ([(h + 1, .inl (kp_cy X 0, 40, .inl fun _ => Int32.ofInt 0))])) H locs 1 := S
  refine lv_aload_n C.1 C.2.1 dX6_init_12 rfl (lv_at hl 0 rfl) ?_
  refine lv_sipush (v := Int32.ofInt 400) C.1 C.2.1 dX6_init_13 rfl ?_
  refine cs_newa (k := 2) C G S (by simp [kp_ws_len]) (ty := .int) (t0 := 0) (N' := 400) (a0 := (400, .inl fun _ => Int32.ofInt 0)) rfl rfl (fun _ _ z => z) q1_51 (fun _ => rfl) (by decide) (by decide) (Nat.le_of_ble_eq_true rfl) (Nat.le_of_ble_eq_true rfl) (Nat.le_of_ble_eq_true rfl) dX6_init_16 (fun H S => ?_)
  have S : kp_CS X h s ((h, .inr (6, [.ref (h + 1), .null, .null, .null, .null, .null])) :: ([(h + 1, .inl (kp_cy X 0, 40, .inl fun _ => Int32.ofInt 0))] ++ [(h + 2, .inl (kp_cy X 0, 400, .inl fun _ => Int32.ofInt 0))])) H locs 2 := S
  refine cr_putF C hin2 G S inWX6 tyX6 tyX6_ok nmX6 (ci := 6) rfl 1 (by decide) q1_210 rfl rfl (v := .ref (h + 2)) (tyX6_ok 1 (by decide)) rfl rfl (Nat.le_of_ble_eq_true rfl) dX6_init_18 (fun H locs S => ?_)
  have S : kp_CS X h s ((h, .inr (6, [.ref (h + 1), .ref (h + 2), .null, .null, .null, .null])) :: ([(h + 1, .inl (kp_cy X 0, 40, .inl fun _ => Int32.ofInt 0))] ++ [(h + 2, .inl (kp_cy X 0, 400, .inl fun _ => Int32.ofInt 0))])) H locs 2 := S
  refine lv_aload_n C.1 C.2.1 dX6_init_21 rfl (lv_at hl 0 rfl) ?_
  refine lv_sipush (v := Int32.ofInt 400) C.1 C.2.1 dX6_init_22 rfl ?_
  refine cs_newa (k := 3) C G S (by simp [kp_ws_len]) (ty := .int) (t0 := 0) (N' := 400) (a0 := (400, .inl fun _ => Int32.ofInt 0)) rfl rfl (fun _ _ z => z) q1_51 (fun _ => rfl) (by decide) (by decide) (Nat.le_of_ble_eq_true rfl) (Nat.le_of_ble_eq_true rfl) (Nat.le_of_ble_eq_true rfl) dX6_init_25 (fun H S => ?_)
  have S : kp_CS X h s ((h, .inr (6, [.ref (h + 1), .ref (h + 2), .null, .null, .null, .null])) :: ([(h + 1, .inl (kp_cy X 0, 40, .inl fun _ => Int32.ofInt 0))] ++ [(h + 2, .inl (kp_cy X 0, 400, .inl fun _ => Int32.ofInt 0))] ++ [(h + 3, .inl (kp_cy X 0, 400, .inl fun _ => Int32.ofInt 0))])) H locs 3 := S
  refine cr_putF C hin2 G S inWX6 tyX6 tyX6_ok nmX6 (ci := 6) rfl 2 (by decide) q1_211 rfl rfl (v := .ref (h + 3)) (tyX6_ok 2 (by decide)) rfl rfl (Nat.le_of_ble_eq_true rfl) dX6_init_27 (fun H locs S => ?_)
  have S : kp_CS X h s ((h, .inr (6, [.ref (h + 1), .ref (h + 2), .ref (h + 3), .null, .null, .null])) :: ([(h + 1, .inl (kp_cy X 0, 40, .inl fun _ => Int32.ofInt 0))] ++ [(h + 2, .inl (kp_cy X 0, 400, .inl fun _ => Int32.ofInt 0))] ++ [(h + 3, .inl (kp_cy X 0, 400, .inl fun _ => Int32.ofInt 0))])) H locs 3 := S
  refine lv_aload_n C.1 C.2.1 dX6_init_30 rfl (lv_at hl 0 rfl) ?_
  refine lv_sipush (v := Int32.ofInt 400) C.1 C.2.1 dX6_init_31 rfl ?_
  refine cs_newa (k := 4) C G S (by simp [kp_ws_len]) (ty := .int) (t0 := 0) (N' := 400) (a0 := (400, .inl fun _ => Int32.ofInt 0)) rfl rfl (fun _ _ z => z) q1_51 (fun _ => rfl) (by decide) (by decide) (Nat.le_of_ble_eq_true rfl) (Nat.le_of_ble_eq_true rfl) (Nat.le_of_ble_eq_true rfl) dX6_init_34 (fun H S => ?_)
  have S : kp_CS X h s ((h, .inr (6, [.ref (h + 1), .ref (h + 2), .ref (h + 3), .null, .null, .null])) :: ([(h + 1, .inl (kp_cy X 0, 40, .inl fun _ => Int32.ofInt 0))] ++ [(h + 2, .inl (kp_cy X 0, 400, .inl fun _ => Int32.ofInt 0))] ++ [(h + 3, .inl (kp_cy X 0, 400, .inl fun _ => Int32.ofInt 0))] ++ [(h + 4, .inl (kp_cy X 0, 400, .inl fun _ => Int32.ofInt 0))])) H locs 4 := S
  refine cr_putF C hin2 G S inWX6 tyX6 tyX6_ok nmX6 (ci := 6) rfl 3 (by decide) q1_212 rfl rfl (v := .ref (h + 4)) (tyX6_ok 3 (by decide)) rfl rfl (Nat.le_of_ble_eq_true rfl) dX6_init_36 (fun H locs S => ?_)
  have S : kp_CS X h s ((h, .inr (6, [.ref (h + 1), .ref (h + 2), .ref (h + 3), .ref (h + 4), .null, .null])) :: ([(h + 1, .inl (kp_cy X 0, 40, .inl fun _ => Int32.ofInt 0))] ++ [(h + 2, .inl (kp_cy X 0, 400, .inl fun _ => Int32.ofInt 0))] ++ [(h + 3, .inl (kp_cy X 0, 400, .inl fun _ => Int32.ofInt 0))] ++ [(h + 4, .inl (kp_cy X 0, 400, .inl fun _ => Int32.ofInt 0))])) H locs 4 := S
  refine lv_aload_n C.1 C.2.1 dX6_init_39 rfl (lv_at hl 0 rfl) ?_
  refine lv_bipush (v := Int32.ofInt 10) C.1 C.2.1 dX6_init_40 rfl ?_
  refine cs_newa (k := 5) C G S (by simp [kp_ws_len]) (ty := .long) (t0 := 1) (N' := 10) (a0 := (10, .inr (.inl fun _ => Int64.ofInt 0))) rfl rfl (fun _ _ z => z) q1_50 (fun _ => rfl) (by decide) (by decide) (Nat.le_of_ble_eq_true rfl) (Nat.le_of_ble_eq_true rfl) (Nat.le_of_ble_eq_true rfl) dX6_init_42 (fun H S => ?_)
  have S : kp_CS X h s ((h, .inr (6, [.ref (h + 1), .ref (h + 2), .ref (h + 3), .ref (h + 4), .null, .null])) :: ([(h + 1, .inl (kp_cy X 0, 40, .inl fun _ => Int32.ofInt 0))] ++ [(h + 2, .inl (kp_cy X 0, 400, .inl fun _ => Int32.ofInt 0))] ++ [(h + 3, .inl (kp_cy X 0, 400, .inl fun _ => Int32.ofInt 0))] ++ [(h + 4, .inl (kp_cy X 0, 400, .inl fun _ => Int32.ofInt 0))] ++ [(h + 5, .inl (kp_cy X 1, 10, .inr (.inl fun _ => Int64.ofInt 0)))])) H locs 5 := S
  refine cr_putF C hin2 G S inWX6 tyX6 tyX6_ok nmX6 (ci := 6) rfl 4 (by decide) q1_213 rfl rfl (v := .ref (h + 5)) (tyX6_ok 4 (by decide)) rfl rfl (Nat.le_of_ble_eq_true rfl) dX6_init_44 (fun H locs S => ?_)
  have S : kp_CS X h s ((h, .inr (6, [.ref (h + 1), .ref (h + 2), .ref (h + 3), .ref (h + 4), .ref (h + 5), .null])) :: ([(h + 1, .inl (kp_cy X 0, 40, .inl fun _ => Int32.ofInt 0))] ++ [(h + 2, .inl (kp_cy X 0, 400, .inl fun _ => Int32.ofInt 0))] ++ [(h + 3, .inl (kp_cy X 0, 400, .inl fun _ => Int32.ofInt 0))] ++ [(h + 4, .inl (kp_cy X 0, 400, .inl fun _ => Int32.ofInt 0))] ++ [(h + 5, .inl (kp_cy X 1, 10, .inr (.inl fun _ => Int64.ofInt 0)))])) H locs 5 := S
  refine lv_aload_n C.1 C.2.1 dX6_init_47 rfl (lv_at hl 0 rfl) ?_
  refine lv_bipush (v := Int32.ofInt 16) C.1 C.2.1 dX6_init_48 rfl ?_
  refine cs_newa (k := 6) C G S (by simp [kp_ws_len]) (ty := .long) (t0 := 1) (N' := 16) (a0 := (16, .inr (.inl fun _ => Int64.ofInt 0))) rfl rfl (fun _ _ z => z) q1_50 (fun _ => rfl) (by decide) (by decide) (Nat.le_of_ble_eq_true rfl) (Nat.le_of_ble_eq_true rfl) (Nat.le_of_ble_eq_true rfl) dX6_init_50 (fun H S => ?_)
  have S : kp_CS X h s ((h, .inr (6, [.ref (h + 1), .ref (h + 2), .ref (h + 3), .ref (h + 4), .ref (h + 5), .null])) :: ([(h + 1, .inl (kp_cy X 0, 40, .inl fun _ => Int32.ofInt 0))] ++ [(h + 2, .inl (kp_cy X 0, 400, .inl fun _ => Int32.ofInt 0))] ++ [(h + 3, .inl (kp_cy X 0, 400, .inl fun _ => Int32.ofInt 0))] ++ [(h + 4, .inl (kp_cy X 0, 400, .inl fun _ => Int32.ofInt 0))] ++ [(h + 5, .inl (kp_cy X 1, 10, .inr (.inl fun _ => Int64.ofInt 0)))] ++ [(h + 6, .inl (kp_cy X 1, 16, .inr (.inl fun _ => Int64.ofInt 0)))])) H locs 6 := S
  refine cr_putF C hin2 G S inWX6 tyX6 tyX6_ok nmX6 (ci := 6) rfl 5 (by decide) q1_214 rfl rfl (v := .ref (h + 6)) (tyX6_ok 5 (by decide)) rfl rfl (Nat.le_of_ble_eq_true rfl) dX6_init_52 (fun H locs S => ?_)
  have S : kp_CS X h s ((h, .inr (6, [.ref (h + 1), .ref (h + 2), .ref (h + 3), .ref (h + 4), .ref (h + 5), .ref (h + 6)])) :: ([(h + 1, .inl (kp_cy X 0, 40, .inl fun _ => Int32.ofInt 0))] ++ [(h + 2, .inl (kp_cy X 0, 400, .inl fun _ => Int32.ofInt 0))] ++ [(h + 3, .inl (kp_cy X 0, 400, .inl fun _ => Int32.ofInt 0))] ++ [(h + 4, .inl (kp_cy X 0, 400, .inl fun _ => Int32.ofInt 0))] ++ [(h + 5, .inl (kp_cy X 1, 10, .inr (.inl fun _ => Int64.ofInt 0)))] ++ [(h + 6, .inl (kp_cy X 1, 16, .inr (.inl fun _ => Int64.ofInt 0)))])) H locs 6 := S
  have w0 : [(h, .inr (6, [.ref (h + 1), .ref (h + 2), .ref (h + 3), .ref (h + 4), .ref (h + 5), .ref (h + 6)]))] = kp_ws (kp_Xh X h) kp_lX6 1 kp_s0 := rfl
  have w1 := kp_wsB (a := 1) (e := .inl (kp_cy X 0, 40, .inl fun _ => Int32.ofInt 0)) w0 rfl
  have w2 := kp_wsB (a := 2) (e := .inl (kp_cy X 0, 400, .inl fun _ => Int32.ofInt 0)) w1 rfl
  have w3 := kp_wsB (a := 3) (e := .inl (kp_cy X 0, 400, .inl fun _ => Int32.ofInt 0)) w2 rfl
  have w4 := kp_wsB (a := 4) (e := .inl (kp_cy X 0, 400, .inl fun _ => Int32.ofInt 0)) w3 rfl
  have w5 := kp_wsB (a := 5) (e := .inl (kp_cy X 1, 10, .inr (.inl fun _ => Int64.ofInt 0))) w4 rfl
  have w6 := kp_wsB (a := 6) (e := .inl (kp_cy X 1, 16, .inr (.inl fun _ => Int64.ofInt 0))) w5 rfl
  exact cr_ret (lay := kp_lX6) (n := 7) (σ := kp_s0) C hr hlk G S w6 (Nat.le_refl _) (Nat.le_refl _) dX6_init_55
