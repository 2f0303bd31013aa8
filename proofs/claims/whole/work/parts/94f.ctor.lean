-- by program (wip/whole/gen/ctors.py): a constructor
def kp_lX5L : List kp_D := [(0, 5, [some 1, some 6, none]), (0, 2, [some 2, some 3, some 4, some 5, none, none, none]), (1, 5, []), (1, 120, []), (1, 10, []), (1, 10, []), (0, 7, [some 7, none]), (1, 120, [])]
def kp_lX5 : Nat → kp_D := fun k => kp_lX5L.getD k (1, 0, [])
def kp_sR : kp_W := fun k => match k with
  | 2 => kp_sH 1
  | _ => fun _ => 0
theorem hd_X5_init : yX5_init.cls ≠ "java/lang/invoke/MethodHandle" ∧ yX5_init.cls ≠ "java/lang/invoke/VarHandle" ∧ (parseMethodDescriptor yX5_init.desc).map (fun d => d.parameters.length) = some 0 := by decide +kernel
set_option maxRecDepth 100000 in
set_option maxHeartbeats 4000000 in
theorem kC_X5 {l : Launch} {X : kp_X} : kp_Cn l yX5_init cX5_init 3 7 274 X 5 [.null, .null, kp_iv 0] kp_lX5 8 kp_sR := by
  refine cr_body pnX5 rfl ?_
  intro h p e s m args below meth c ls C hin2 hr hlk G S hl
  refine cr_obj C hl q1_185 dX5_init_0 dX5_init_1 ⟨by decide, by decide⟩ ?_
  generalize hH : s.heap = H at S ⊢
  generalize ([] : List Loc) = locs at S ⊢
  refine lv_aload_n C.1 C.2.1 dX5_init_4 rfl (lv_at hl 0 rfl) ?_
  refine cs_new (k := 1) C G S (by simp [kp_ws_len]) inWX2 tyX2 tyX2_ok q1_186 q1_53 q1_4 (ci := 2) rfl (fs := [.null, .null, .null, .null, kp_iv 0, kp_iv 0, kp_iv 0]) (fun j hj => by rcases (show j = 0 ∨ j = 1 ∨ j = 2 ∨ j = 3 ∨ j = 4 ∨ j = 5 ∨ j = 6 by omega) with rfl | rfl | rfl | rfl | rfl | rfl | rfl <;> rfl) (Nat.le_of_ble_eq_true rfl) (Nat.le_of_ble_eq_true rfl) dX5_init_5 (fun H S => ?_)
  refine lv_dup C.1 C.2.1 dX5_init_8 rfl ?_
  refine cs_mk (wr := []) (k := 1) C G hl.1 S (by simp [kp_ws_len]) kC_X2 rfl q1_187 q1_55 q1_4 q1_56 rfl hd_X2_init (by exact ⟨Nat.le_of_ble_eq_true rfl, Nat.le_of_ble_eq_true rfl⟩) (by exact ⟨Nat.le_of_ble_eq_true rfl, Nat.le_of_ble_eq_true rfl⟩) (by exact Nat.le_of_ble_eq_true rfl) dX5_init_9 (fun H locs S => ?_)
  have S : kp_CS X h s ((h, .inr (5, [.null, .null, kp_iv 0])) :: (kp_ws (kp_Xh X (h + 1)) kp_lH 5 kp_sH)) H locs 5 := S
  refine cr_putF C hin2 G S inWX5 tyX5 tyX5_ok nmX5 (ci := 5) rfl 0 (by decide) q1_190 rfl rfl (v := .ref (h + 1)) (tyX5_ok 0 (by decide)) rfl rfl (Nat.le_of_ble_eq_true rfl) dX5_init_12 (fun H locs S => ?_)
  have S : kp_CS X h s ((h, .inr (5, [.ref (h + 1), .null, kp_iv 0])) :: (kp_ws (kp_Xh X (h + 1)) kp_lH 5 kp_sH)) H locs 5 := S
  refine lv_aload_n C.1 C.2.1 dX5_init_15 rfl (lv_at hl 0 rfl) ?_
  refine cs_new (k := 6) C G S (by simp [kp_ws_len]) inWX7 tyX7 tyX7_ok q1_188 q1_35 q1_3 (ci := 7) rfl (fs := [.null, kp_iv 0]) (fun j hj => by rcases (show j = 0 ∨ j = 1 by omega) with rfl | rfl <;> rfl) (Nat.le_of_ble_eq_true rfl) (Nat.le_of_ble_eq_true rfl) dX5_init_16 (fun H S => ?_)
  refine lv_dup C.1 C.2.1 dX5_init_19 rfl ?_
  refine cs_mkN (wr := (kp_ws (kp_Xh X (h + 1)) kp_lH 5 kp_sH)) (k := 6) C G hl.1 S (by simp [kp_ws_len]) kC_X7 rfl (host := "KnockPipes") (List.mem_of_getElem? (l := kp_nm) (i := 8) rfl) q1_37 q1_3 q1_38 rfl hd_X7_init (by exact ⟨Nat.le_of_ble_eq_true rfl, Nat.le_of_ble_eq_true rfl⟩) (by exact ⟨Nat.le_of_ble_eq_true rfl, Nat.le_of_ble_eq_true rfl⟩) (by exact Nat.le_of_ble_eq_true rfl) dX5_init_20 (fun H locs S => ?_)
  have S : kp_CS X h s ((h, .inr (5, [.ref (h + 1), .null, kp_iv 0])) :: (kp_ws (kp_Xh X (h + 1)) kp_lH 5 kp_sH ++ kp_ws (kp_Xh X (h + 6)) kp_lX7 2 kp_s0)) H locs 7 := S
  refine cr_putF C hin2 G S inWX5 tyX5 tyX5_ok nmX5 (ci := 5) rfl 1 (by decide) q1_192 rfl rfl (v := .ref (h + 6)) (tyX5_ok 1 (by decide)) rfl rfl (Nat.le_of_ble_eq_true rfl) dX5_init_23 (fun H locs S => ?_)
  have S : kp_CS X h s ((h, .inr (5, [.ref (h + 1), .ref (h + 6), kp_iv 0])) :: (kp_ws (kp_Xh X (h + 1)) kp_lH 5 kp_sH ++ kp_ws (kp_Xh X (h + 6)) kp_lX7 2 kp_s0)) H locs 7 := S
  refine lv_aload_n C.1 C.2.1 dX5_init_26 rfl (lv_at hl 0 rfl) ?_
  refine lv_iconst (v := Int32.ofInt 0) C.1 C.2.1 dX5_init_27 rfl ?_
  refine cr_put C G S inWX5 tyX5 tyX5_ok nmX5 (ci := 5) rfl 2 (by decide) q1_193 rfl (v := kp_iv 0) (tyX5_ok 2 (by decide)) rfl rfl (Nat.le_of_ble_eq_true rfl) dX5_init_28 (fun H locs S => ?_)
  have S : kp_CS X h s ((h, .inr (5, [.ref (h + 1), .ref (h + 6), kp_iv 0])) :: (kp_ws (kp_Xh X (h + 1)) kp_lH 5 kp_sH ++ kp_ws (kp_Xh X (h + 6)) kp_lX7 2 kp_s0)) H locs 7 := S
  have w0 : [(h, .inr (5, [.ref (h + 1), .ref (h + 6), kp_iv 0]))] = kp_ws (kp_Xh X h) kp_lX5 1 kp_sR := rfl
  have w1 := kp_wsA (a := 1) (n := 5) (lay' := kp_lH) (σ' := kp_sH) w0 (fun k hk => by match k, hk with | 0, _ => rfl | 1, _ => rfl | 2, _ => rfl | 3, _ => rfl | 4, _ => rfl | k + 5, hk => omega)
  have w2 := kp_wsA (a := 6) (n := 2) (lay' := kp_lX7) (σ' := kp_s0) w1 (fun k hk => by match k, hk with | 0, _ => rfl | 1, _ => rfl | k + 2, hk => omega)
  exact cr_ret (lay := kp_lX5) (n := 8) (σ := kp_sR) C hr hlk G S w2 (Nat.le_refl _) (Nat.le_refl _) dX5_init_31
