-- by program (wip/whole/gen/ctors.py): a constructor
def kp_lX4L : List kp_D := [(0, 4, [some 1, some 2, some 3, none]), (1, 12, []), (1, 12, []), (1, 12, [])]
def kp_lX4 : Nat → kp_D := fun k => kp_lX4L.getD k (1, 0, [])
theorem hd_X4_init : yX4_init.cls ≠ "java/lang/invoke/MethodHandle" ∧ yX4_init.cls ≠ "java/lang/invoke/VarHandle" ∧ (parseMethodDescriptor yX4_init.desc).map (fun d => d.parameters.length) = some 0 := by decide +kernel
set_option maxRecDepth 100000 in
set_option maxHeartbeats 4000000 in
theorem kC_X4 {l : Launch} {X : kp_X} : kp_Cn l yX4_init cX4_init 1 3 36 X 4 [.null, .null, .null, kp_iv 0] kp_lX4 4 kp_s0 := by
  refine cr_body pnX4 rfl ?_
  intro h p e s m args below meth c ls C hin2 hr hlk G S hl
  refine cr_obj C hl q1_137 dX4_init_0 dX4_init_1 ⟨by decide, by decide⟩ ?_
  generalize hH : s.heap = H at S ⊢
  generalize ([] : List Loc) = locs at S ⊢
  refine lv_aload_n C.1 C.2.1 dX4_init_4 rfl (lv_at hl 0 rfl) ?_
  refine lv_bipush (v := Int32.ofInt 12) C.1 C.2.1 dX4_init_5 rfl ?_
  refine cs_newa (k := 1) C G S (by simp [kp_ws_len]) (ty := .int) (t0 := 0) (N' := 12) (a0 := (12, .inl fun _ => Int32.ofInt 0)) rfl rfl (fun _ _ z => z) q1_51 (fun _ => rfl) (by decide) (by decide) (Nat.le_of_ble_eq_true rfl) (Nat.le_of_ble_eq_true rfl) (Nat.le_of_ble_eq_true rfl) dX4_init_7 (fun H S => ?_)
  have S : kp_CS X h s ((h, .inr (4, [.null, .null, .null, kp_iv 0])) :: ([(h + 1, .inl (kp_cy X 0, 12, .inl fun _ => Int32.ofInt 0))])) H locs 1 := S
  refine cr_putF C hin2 G S inWX4 tyX4 tyX4_ok nmX4 (ci := 4) rfl 0 (by decide) q1_138 rfl rfl (v := .ref (h + 1)) (tyX4_ok 0 (by decide)) rfl rfl (Nat.le_of_ble_eq_true rfl) dX4_init_9 (fun H locs S => ?_)
  have S : kp_CS X h s ((h, .inr (4, [.ref (h + 1), .null, .null, kp_iv 0])) :: ([(h + 1, .inl (kp_cy X 0, 12, .inl fun _ => Int32.ofInt 0))])) H locs 1 := S
  refine lv_aload_n C.1 C.2.1 dX4_init_12 rfl (lv_at hl 0 rfl) ?_
  refine lv_bipush (v := Int32.ofInt 12) C.1 C.2.1 dX4_init_13 rfl ?_
  refine cs_newa (k := 2) C G S (by simp [kp_ws_len]) (ty := .int) (t0 := 0) (N' := 12) (a0 := (12, .inl fun _ => Int32.ofInt 0)) rfl rfl (fun _ _ z => z) q1_51 (fun _ => rfl) (by decide) (by decide) (Nat.le_of_ble_eq_true rfl) (Nat.le_of_ble_eq_true rfl) (Nat.le_of_ble_eq_true rfl) dX4_init_15 (fun H S => ?_)
  have S : kp_CS X h s ((h, .inr (4, [.ref (h + 1), .null, .null, kp_iv 0])) :: ([(h + 1, .inl (kp_cy X 0, 12, .inl fun _ => Int32.ofInt 0))] ++ [(h + 2, .inl (kp_cy X 0, 12, .inl fun _ => Int32.ofInt 0))])) H locs 2 := S
  refine cr_putF C hin2 G S inWX4 tyX4 tyX4_ok nmX4 (ci := 4) rfl 1 (by decide) q1_140 rfl rfl (v := .ref (h + 2)) (tyX4_ok 1 (by decide)) rfl rfl (Nat.le_of_ble_eq_true rfl) dX4_init_17 (fun H locs S => ?_)
  have S : kp_CS X h s ((h, .inr (4, [.ref (h + 1), .ref (h + 2), .null, kp_iv 0])) :: ([(h + 1, .inl (kp_cy X 0, 12, .inl fun _ => Int32.ofInt 0))] ++ [(h + 2, .inl (kp_cy X 0, 12, .inl fun _ => Int32.ofInt 0))])) H locs 2 := S
  refine lv_aload_n C.1 C.2.1 dX4_init_20 rfl (lv_at hl 0 rfl) ?_
  refine lv_bipush (v := Int32.ofInt 12) C.1 C.2.1 dX4_init_21 rfl ?_
  refine cs_newa (k := 3) C G S (by simp [kp_ws_len]) (ty := .int) (t0 := 0) (N' := 12) (a0 := (12, .inl fun _ => Int32.ofInt 0)) rfl rfl (fun _ _ z => z) q1_51 (fun _ => rfl) (by decide) (by decide) (Nat.le_of_ble_eq_true rfl) (Nat.le_of_ble_eq_true rfl) (Nat.le_of_ble_eq_true rfl) dX4_init_23 (fun H S => ?_)
  have S : kp_CS X h s ((h, .inr (4, [.ref (h + 1), .ref (h + 2), .null, kp_iv 0])) :: ([(h + 1, .inl (kp_cy X 0, 12, .inl fun _ => Int32.ofInt 0))] ++ [(h + 2, .inl (kp_cy X 0, 12, .inl fun _ => Int32.ofInt 0))] ++ [(h + 3, .inl (kp_cy X 0, 12, .inl fun _ => Int32.ofInt 0))])) H locs 3 := S
  refine cr_putF C hin2 G S inWX4 tyX4 tyX4_ok nmX4 (ci := 4) rfl 2 (by decide) q1_142 rfl rfl (v := .ref (h + 3)) (tyX4_ok 2 (by decide)) rfl rfl (Nat.le_of_ble_eq_true rfl) dX4_init_25 (fun H locs S => ?_)
  have S : kp_CS X h s ((h, .inr (4, [.ref (h + 1), .ref (h + 2), .ref (h + 3), kp_iv 0])) :: ([(h + 1, .inl (kp_cy X 0, 12, .inl fun _ => Int32.ofInt 0))] ++ [(h + 2, .inl (kp_cy X 0, 12, .inl fun _ => Int32.ofInt 0))] ++ [(h + 3, .inl (kp_cy X 0, 12, .inl fun _ => Int32.ofInt 0))])) H locs 3 := S
  refine lv_aload_n C.1 C.2.1 dX4_init_28 rfl (lv_at hl 0 rfl) ?_
  refine lv_iconst (v := Int32.ofInt 0) C.1 C.2.1 dX4_init_29 rfl ?_
  refine cr_put C G S inWX4 tyX4 tyX4_ok nmX4 (ci := 4) rfl 3 (by decide) q1_144 rfl (v := kp_iv 0) (tyX4_ok 3 (by decide)) rfl rfl (Nat.le_of_ble_eq_true rfl) dX4_init_30 (fun H locs S => ?_)
  have S : kp_CS X h s ((h, .inr (4, [.ref (h + 1), .ref (h + 2), .ref (h + 3), kp_iv 0])) :: ([(h + 1, .inl (kp_cy X 0, 12, .inl fun _ => Int32.ofInt 0))] ++ [(h + 2, .inl (kp_cy X 0, 12, .inl fun _ => Int32.ofInt 0))] ++ [(h + 3, .inl (kp_cy X 0, 12, .inl fun _ => Int32.ofInt 0))])) H locs 3 := S
  have w0 : [(h, .inr (4, [.ref (h + 1), .ref (h + 2), .ref (h + 3), kp_iv 0]))] = kp_ws (kp_Xh X h) kp_lX4 1 kp_s0 := rfl
  have w1 := kp_wsB (a := 1) (e := .inl (kp_cy X 0, 12, .inl fun _ => Int32.ofInt 0)) w0 rfl
  have w2 := kp_wsB (a := 2) (e := .inl (kp_cy X 0, 12, .inl fun _ => Int32.ofInt 0)) w1 rfl
  have w3 := kp_wsB (a := 3) (e := .inl (kp_cy X 0, 12, .inl fun _ => Int32.ofInt 0)) w2 rfl
  exact cr_ret (lay := kp_lX4) (n := 4) (σ := kp_s0) C hr hlk G S w3 (Nat.le_refl _) (Nat.le_refl _) dX4_init_33
