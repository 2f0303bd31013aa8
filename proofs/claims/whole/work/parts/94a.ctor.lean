-- by program (wip/whole/gen/ctors.py): a constructor
def kp_lX7L : List kp_D := [(0, 7, [some 1, none]), (1, 120, [])]
def kp_lX7 : Nat → kp_D := fun k => kp_lX7L.getD k (1, 0, [])
theorem hd_X7_init : yX7_init.cls ≠ "java/lang/invoke/MethodHandle" ∧ yX7_init.cls ≠ "java/lang/invoke/VarHandle" ∧ (parseMethodDescriptor yX7_init.desc).map (fun d => d.parameters.length) = some 0 := by decide +kernel
set_option maxRecDepth 100000 in
set_option maxHeartbeats 4000000 in
theorem kC_X7 {l : Launch} {X : kp_X} : kp_Cn l yX7_init cX7_init 1 1 120 X 7 [.null, kp_iv 0] kp_lX7 2 kp_s0 := by
  refine cr_body pnX7 rfl ?_
  intro h p e s m args below meth c ls C hin2 hr hlk G S hl
  refine cr_obj C hl q1_39 dX7_init_0 dX7_init_1 ⟨by decide, by decide⟩ ?_
  generalize hH : s.heap = H at S ⊢
  generalize ([] : List Loc) = locs at S ⊢
  refine lv_aload_n C.1 C.2.1 dX7_init_4 rfl (lv_at hl 0 rfl) ?_
  refine lv_bipush (v := Int32.ofInt 120) C.1 C.2.1 dX7_init_5 rfl ?_
  refine cs_newa (k := 1) C G S (by simp [kp_ws_len]) (ty := .int) (t0 := 0) (N' := 120) (a0 := (120, .inl fun _ => Int32.ofInt 0)) rfl rfl (fun _ _ z => z) q1_51 (fun _ => rfl) (by decide) (by decide) (Nat.le_of_ble_eq_true rfl) (Nat.le_of_ble_eq_true rfl) (Nat.le_of_ble_eq_true rfl) dX7_init_7 (fun H S => ?_)
  have S : kp_CS X h s ((h, .inr (7, [.null, kp_iv 0])) :: ([(h + 1, .inl (kp_cy X 0, 120, .inl fun _ => Int32.ofInt 0))])) H locs 1 := S
  refine cr_putF C hin2 G S inWX7 tyX7 tyX7_ok nmX7 (ci := 7) rfl 0 (by decide) q1_40 rfl rfl (v := .ref (h + 1)) (tyX7_ok 0 (by decide)) rfl rfl (Nat.le_of_ble_eq_true rfl) dX7_init_9 (fun H locs S => ?_)
  have S : kp_CS X h s ((h, .inr (7, [.ref (h + 1), kp_iv 0])) :: ([(h + 1, .inl (kp_cy X 0, 120, .inl fun _ => Int32.ofInt 0))])) H locs 1 := S
  refine lv_aload_n C.1 C.2.1 dX7_init_12 rfl (lv_at hl 0 rfl) ?_
  refine lv_iconst (v := Int32.ofInt 0) C.1 C.2.1 dX7_init_13 rfl ?_
  refine cr_put C G S inWX7 tyX7 tyX7_ok nmX7 (ci := 7) rfl 1 (by decide) q1_42 rfl (v := kp_iv 0) (tyX7_ok 1 (by decide)) rfl rfl (Nat.le_of_ble_eq_true rfl) dX7_init_14 (fun H locs S => ?_)
  have S : kp_CS X h s ((h, .inr (7, [.ref (h + 1), kp_iv 0])) :: ([(h + 1, .inl (kp_cy X 0, 120, .inl fun _ => Int32.ofInt 0))])) H locs 1 := S
  have w0 : [(h, .inr (7, [.ref (h + 1), kp_iv 0]))] = kp_ws (kp_Xh X h) kp_lX7 1 kp_s0 := rfl
  have w1 := kp_wsB (a := 1) (e := .inl (kp_cy X 0, 120, .inl fun _ => Int32.ofInt 0)) w0 rfl
  exact cr_ret (lay := kp_lX7) (n := 2) (σ := kp_s0) C hr hlk G S w1 (Nat.le_refl _) (Nat.le_refl _) dX7_init_17
