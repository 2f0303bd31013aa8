-- by program (wip/whole/gen/ctors.py): a constructor
def kp_lX0L : List kp_D := [(0, 0, [some 1, none, none, none, none]), (1, 20, [])]
def kp_lX0 : Nat → kp_D := fun k => kp_lX0L.getD k (1, 0, [])
theorem hd_X0_init : yX0_init.cls ≠ "java/lang/invoke/MethodHandle" ∧ yX0_init.cls ≠ "java/lang/invoke/VarHandle" ∧ (parseMethodDescriptor yX0_init.desc).map (fun d => d.parameters.length) = some 0 := by decide +kernel
set_option maxRecDepth 100000 in
set_option maxHeartbeats 4000000 in
theorem kC_X0 {l : Launch} {X : kp_X} : kp_Cn l yX0_init cX0_init 1 1 20 X 0 [.null, kp_iv 0, kp_iv 0, kp_iv 0, kp_iv 0] kp_lX0 2 kp_s0 := by
  refine cr_body pnX0 rfl ?_
  intro h p e s m args below meth c ls C hin2 hr hlk G S hl
  refine cr_obj C hl q1_233 dX0_init_0 dX0_init_1 ⟨by decide, by decide⟩ ?_
  generalize hH : s.heap = H at S ⊢
  generalize ([] : List Loc) = locs at S ⊢
  refine lv_aload_n C.1 C.2.1 dX0_init_4 rfl (lv_at hl 0 rfl) ?_
  refine lv_bipush (v := Int32.ofInt 20) C.1 C.2.1 dX0_init_5 rfl ?_
  refine cs_newa (k := 1) C G S (by simp [kp_ws_len]) (ty := .int) (t0 := 0) (N' := 20) (a0 := (20, .inl fun _ => Int32.ofInt 0)) rfl rfl (fun _ _ z => z) q1_51 (fun _ => rfl) (by decide) (by decide) (Nat.le_of_ble_eq_true rfl) (Nat.le_of_ble_eq_true rfl) (Nat.le_of_ble_eq_true rfl) dX0_init_7 (fun H S => ?_)
  have S : kp_CS X h s ((h, .inr (0, [.null, kp_iv 0, kp_iv 0, kp_iv 0, kp_iv 0])) :: ([(h + 1, .inl (kp_cy X 0, 20, .inl fun _ => Int32.ofInt 0))])) H locs 1 := S
  refine cr_putF C hin2 G S inWX0 tyX0 tyX0_ok nmX0 (ci := 0) rfl 0 (by decide) q1_234 rfl rfl (v := .ref (h + 1)) (tyX0_ok 0 (by decide)) rfl rfl (Nat.le_of_ble_eq_true rfl) dX0_init_9 (fun H locs S => ?_)
  have S : kp_CS X h s ((h, .inr (0, [.ref (h + 1), kp_iv 0, kp_iv 0, kp_iv 0, kp_iv 0])) :: ([(h + 1, .inl (kp_cy X 0, 20, .inl fun _ => Int32.ofInt 0))])) H locs 1 := S
  refine lv_aload_n C.1 C.2.1 dX0_init_12 rfl (lv_at hl 0 rfl) ?_
  refine lv_iconst (v := Int32.ofInt 0) C.1 C.2.1 dX0_init_13 rfl ?_
  refine cr_put C G S inWX0 tyX0 tyX0_ok nmX0 (ci := 0) rfl 1 (by decide) q1_236 rfl (v := kp_iv 0) (tyX0_ok 1 (by decide)) rfl rfl (Nat.le_of_ble_eq_true rfl) dX0_init_14 (fun H locs S => ?_)
  have S : kp_CS X h s ((h, .inr (0, [.ref (h + 1), kp_iv 0, kp_iv 0, kp_iv 0, kp_iv 0])) :: ([(h + 1, .inl (kp_cy X 0, 20, .inl fun _ => Int32.ofInt 0))])) H locs 1 := S
  refine lv_aload_n C.1 C.2.1 dX0_init_17 rfl (lv_at hl 0 rfl) ?_
  refine lv_iconst (v := Int32.ofInt 0) C.1 C.2.1 dX0_init_18 rfl ?_
  refine cr_put C G S inWX0 tyX0 tyX0_ok nmX0 (ci := 0) rfl 2 (by decide) q1_238 rfl (v := kp_iv 0) (tyX0_ok 2 (by decide)) rfl rfl (Nat.le_of_ble_eq_true rfl) dX0_init_19 (fun H locs S => ?_)
  have S : kp_CS X h s ((h, .inr (0, [.ref (h + 1), kp_iv 0, kp_iv 0, kp_iv 0, kp_iv 0])) :: ([(h + 1, .inl (kp_cy X 0, 20, .inl fun _ => Int32.ofInt 0))])) H locs 1 := S
  refine lv_aload_n C.1 C.2.1 dX0_init_22 rfl (lv_at hl 0 rfl) ?_
  refine lv_iconst (v := Int32.ofInt 0) C.1 C.2.1 dX0_init_23 rfl ?_
  refine cr_put C G S inWX0 tyX0 tyX0_ok nmX0 (ci := 0) rfl 3 (by decide) q1_239 rfl (v := kp_iv 0) (tyX0_ok 3 (by decide)) rfl rfl (Nat.le_of_ble_eq_true rfl) dX0_init_24 (fun H locs S => ?_)
  have S : kp_CS X h s ((h, .inr (0, [.ref (h + 1), kp_iv 0, kp_iv 0, kp_iv 0, kp_iv 0])) :: ([(h + 1, .inl (kp_cy X 0, 20, .inl fun _ => Int32.ofInt 0))])) H locs 1 := S
  refine lv_aload_n C.1 C.2.1 dX0_init_27 rfl (lv_at hl 0 rfl) ?_
  refine lv_iconst (v := Int32.ofInt 0) C.1 C.2.1 dX0_init_28 rfl ?_
  refine cr_put C G S inWX0 tyX0 tyX0_ok nmX0 (ci := 0) rfl 4 (by decide) q2_0 rfl (v := kp_iv 0) (tyX0_ok 4 (by decide)) rfl rfl (Nat.le_of_ble_eq_true rfl) dX0_init_29 (fun H locs S => ?_)
  have S : kp_CS X h s ((h, .inr (0, [.ref (h + 1), kp_iv 0, kp_iv 0, kp_iv 0, kp_iv 0])) :: ([(h + 1, .inl (kp_cy X 0, 20, .inl fun _ => Int32.ofInt 0))])) H locs 1 := S
  have w0 : [(h, .inr (0, [.ref (h + 1), kp_iv 0, kp_iv 0, kp_iv 0, kp_iv 0]))] = kp_ws (kp_Xh X h) kp_lX0 1 kp_s0 := rfl
  have w1 := kp_wsB (a := 1) (e := .inl (kp_cy X 0, 20, .inl fun _ => Int32.ofInt 0)) w0 rfl
  exact cr_ret (lay := kp_lX0) (n := 2) (σ := kp_s0) C hr hlk G S w1 (Nat.le_refl _) (Nat.le_refl _) dX0_init_32
