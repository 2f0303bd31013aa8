-- by program (wip/whole/gen/ctors.py): a constructor
def kp_lX1L : List kp_D := [(0, 1, [some 1, some 2, some 4, some 9, some 14, none]), (2, 3, []), (0, 7, [some 3, none]), (1, 120, []), (0, 2, [some 5, some 6, some 7, some 8, none, none, none]), (1, 5, []), (1, 120, []), (1, 10, []), (1, 10, []), (0, 3, [some 10, some 11, some 12, some 13, none, none]), (1, 10, []), (1, 10, []), (1, 10, []), (1, 10, []), (0, 4, [some 15, some 16, some 17, none]), (1, 12, []), (1, 12, []), (1, 12, [])]
def kp_lX1 : Nat → kp_D := fun k => kp_lX1L.getD k (1, 0, [])
def kp_sO : kp_W := fun k => match k with
  | 5 => kp_sH 1
  | _ => fun _ => 0
theorem hd_X1_init : yX1_init.cls ≠ "java/lang/invoke/MethodHandle" ∧ yX1_init.cls ≠ "java/lang/invoke/VarHandle" ∧ (parseMethodDescriptor yX1_init.desc).map (fun d => d.parameters.length) = some 0 := by decide +kernel
set_option maxRecDepth 100000 in
set_option maxHeartbeats 4000000 in
theorem kC_X1 {l : Launch} {X : kp_X} : kp_Cn l yX1_init cX1_init 3 17 363 X 1 [.null, .null, .null, .null, .null, kp_iv 0] kp_lX1 18 kp_sO := by
  refine cr_body pnX1 rfl ?_
  intro h p e s m args below meth c ls C hin2 hr hlk G S hl
  refine cr_obj C hl q1_33 dX1_init_0 dX1_init_1 ⟨by decide, by decide⟩ ?_
  generalize hH : s.heap = H at S ⊢
  generalize ([] : List Loc) = locs at S ⊢
  refine lv_aload_n C.1 C.2.1 dX1_init_4 rfl (lv_at hl 0 rfl) ?_
  refine lv_iconst (v := Int32.ofInt 3) C.1 C.2.1 dX1_init_5 rfl ?_
  refine cs_newa (k := 1) C G S (by simp [kp_ws_len]) (ty := .long) (t0 := 1) (N' := 3) (a0 := (3, .inr (.inl fun _ => Int64.ofInt 0))) rfl rfl (fun _ _ z => z) q1_50 (fun _ => rfl) (by decide) (by decide) (Nat.le_of_ble_eq_true rfl) (Nat.le_of_ble_eq_true rfl) (Nat.le_of_ble_eq_true rfl) dX1_init_6 (fun H S => ?_)
  have S : kp_CS X h s ((h, .inr (1, [.null, .null, .null, .null, .null, kp_iv 0])) :: ([(h + 1, .inl (kp_cy X 1, 3, .inr (.inl fun _ => Int64.ofInt 0)))])) H locs 1 := S
  refine cr_putF C hin2 G S inWX1 tyX1 tyX1_ok nmX1 (ci := 1) rfl 0 (by decide) q1_155 rfl rfl (v := .ref (h + 1)) (tyX1_ok 0 (by decide)) rfl rfl (Nat.le_of_ble_eq_true rfl) dX1_init_8 (fun H locs S => ?_)
  have S : kp_CS X h s ((h, .inr (1, [.ref (h + 1), .null, .null, .null, .null, kp_iv 0])) :: ([(h + 1, .inl (kp_cy X 1, 3, .inr (.inl fun _ => Int64.ofInt 0)))])) H locs 1 := S
  refine lv_aload_n C.1 C.2.1 dX1_init_11 rfl (lv_at hl 0 rfl) ?_
  refine cs_new (k := 2) C G S (by simp [kp_ws_len]) inWX7 tyX7 tyX7_ok q1_34 q1_35 q1_3 (ci := 7) rfl (fs := [.null, kp_iv 0]) (fun j hj => by rcases (show j = 0 ∨ j = 1 by omega) with rfl | rfl <;> rfl) (Nat.le_of_ble_eq_true rfl) (Nat.le_of_ble_eq_true rfl) dX1_init_12 (fun H S => ?_)
  refine lv_dup C.1 C.2.1 dX1_init_15 rfl ?_
  refine cs_mkN (wr := ([(h + 1, .inl (kp_cy X 1, 3, .inr (.inl fun _ => Int64.ofInt 0)))])) (k := 2) C G hl.1 S (by simp [kp_ws_len]) kC_X7 rfl (host := "KnockPipes") (List.mem_of_getElem? (l := kp_nm) (i := 5) rfl) q1_37 q1_3 q1_38 rfl hd_X7_init (by exact ⟨Nat.le_of_ble_eq_true rfl, Nat.le_of_ble_eq_true rfl⟩) (by exact ⟨Nat.le_of_ble_eq_true rfl, Nat.le_of_ble_eq_true rfl⟩) (by exact Nat.le_of_ble_eq_true rfl) dX1_init_16 (fun H locs S => ?_)
  have S : kp_CS X h s ((h, .inr (1, [.ref (h + 1), .null, .null, .null, .null, kp_iv 0])) :: ([(h + 1, .inl (kp_cy X 1, 3, .inr (.inl fun _ => Int64.ofInt 0)))] ++ kp_ws (kp_Xh X (h + 2)) kp_lX7 2 kp_s0)) H locs 3 := S
  refine cr_putF C hin2 G S inWX1 tyX1 tyX1_ok nmX1 (ci := 1) rfl 1 (by decide) q1_157 rfl rfl (v := .ref (h + 2)) (tyX1_ok 1 (by decide)) rfl rfl (Nat.le_of_ble_eq_true rfl) dX1_init_19 (fun H locs S => ?_)
  have S : kp_CS X h s ((h, .inr (1, [.ref (h + 1), .ref (h + 2), .null, .null, .null, kp_iv 0])) :: ([(h + 1, .inl (kp_cy X 1, 3, .inr (.inl fun _ => Int64.ofInt 0)))] ++ kp_ws (kp_Xh X (h + 2)) kp_lX7 2 kp_s0)) H locs 3 := S
  refine lv_aload_n C.1 C.2.1 dX1_init_22 rfl (lv_at hl 0 rfl) ?_
  refine cs_new (k := 4) C G S (by simp [kp_ws_len]) inWX2 tyX2 tyX2_ok q1_52 q1_53 q1_4 (ci := 2) rfl (fs := [.null, .null, .null, .null, kp_iv 0, kp_iv 0, kp_iv 0]) (fun j hj => by rcases (show j = 0 ∨ j = 1 ∨ j = 2 ∨ j = 3 ∨ j = 4 ∨ j = 5 ∨ j = 6 by omega) with rfl | rfl | rfl | rfl | rfl | rfl | rfl <;> rfl) (Nat.le_of_ble_eq_true rfl) (Nat.le_of_ble_eq_true rfl) dX1_init_23 (fun H S => ?_)
  refine lv_dup C.1 C.2.1 dX1_init_26 rfl ?_
  refine cs_mk (wr := ([(h + 1, .inl (kp_cy X 1, 3, .inr (.inl fun _ => Int64.ofInt 0)))] ++ kp_ws (kp_Xh X (h + 2)) kp_lX7 2 kp_s0)) (k := 4) C G hl.1 S (by simp [kp_ws_len]) kC_X2 rfl q1_54 q1_55 q1_4 q1_56 rfl hd_X2_init (by exact ⟨Nat.le_of_ble_eq_true rfl, Nat.le_of_ble_eq_true rfl⟩) (by exact ⟨Nat.le_of_ble_eq_true rfl, Nat.le_of_ble_eq_true rfl⟩) (by exact Nat.le_of_ble_eq_true rfl) dX1_init_27 (fun H locs S => ?_)
  have S : kp_CS X h s ((h, .inr (1, [.ref (h + 1), .ref (h + 2), .null, .null, .null, kp_iv 0])) :: ([(h + 1, .inl (kp_cy X 1, 3, .inr (.inl fun _ => Int64.ofInt 0)))] ++ kp_ws (kp_Xh X (h + 2)) kp_lX7 2 kp_s0 ++ kp_ws (kp_Xh X (h + 4)) kp_lH 5 kp_sH)) H locs 8 := S
  refine cr_putF C hin2 G S inWX1 tyX1 tyX1_ok nmX1 (ci := 1) rfl 2 (by decide) q1_159 rfl rfl (v := .ref (h + 4)) (tyX1_ok 2 (by decide)) rfl rfl (Nat.le_of_ble_eq_true rfl) dX1_init_30 (fun H locs S => ?_)
  have S : kp_CS X h s ((h, .inr (1, [.ref (h + 1), .ref (h + 2), .ref (h + 4), .null, .null, kp_iv 0])) :: ([(h + 1, .inl (kp_cy X 1, 3, .inr (.inl fun _ => Int64.ofInt 0)))] ++ kp_ws (kp_Xh X (h + 2)) kp_lX7 2 kp_s0 ++ kp_ws (kp_Xh X (h + 4)) kp_lH 5 kp_sH)) H locs 8 := S
  refine lv_aload_n C.1 C.2.1 dX1_init_33 rfl (lv_at hl 0 rfl) ?_
  refine cs_new (k := 9) C G S (by simp [kp_ws_len]) inWX3 tyX3 tyX3_ok q1_96 q1_97 q1_6 (ci := 3) rfl (fs := [.null, .null, .null, .null, kp_iv 0, kp_iv 0]) (fun j hj => by rcases (show j = 0 ∨ j = 1 ∨ j = 2 ∨ j = 3 ∨ j = 4 ∨ j = 5 by omega) with rfl | rfl | rfl | rfl | rfl | rfl <;> rfl) (Nat.le_of_ble_eq_true rfl) (Nat.le_of_ble_eq_true rfl) dX1_init_34 (fun H S => ?_)
  refine lv_dup C.1 C.2.1 dX1_init_37 rfl ?_
  refine cs_mkN (wr := ([(h + 1, .inl (kp_cy X 1, 3, .inr (.inl fun _ => Int64.ofInt 0)))] ++ kp_ws (kp_Xh X (h + 2)) kp_lX7 2 kp_s0 ++ kp_ws (kp_Xh X (h + 4)) kp_lH 5 kp_sH)) (k := 9) C G hl.1 S (by simp [kp_ws_len]) kC_X3 rfl (host := "KnockPipes") (List.mem_of_getElem? (l := kp_nm) (i := 6) rfl) q1_99 q1_6 q1_100 rfl hd_X3_init (by exact ⟨Nat.le_of_ble_eq_true rfl, Nat.le_of_ble_eq_true rfl⟩) (by exact ⟨Nat.le_of_ble_eq_true rfl, Nat.le_of_ble_eq_true rfl⟩) (by exact Nat.le_of_ble_eq_true rfl) dX1_init_38 (fun H locs S => ?_)
  have S : kp_CS X h s ((h, .inr (1, [.ref (h + 1), .ref (h + 2), .ref (h + 4), .null, .null, kp_iv 0])) :: ([(h + 1, .inl (kp_cy X 1, 3, .inr (.inl fun _ => Int64.ofInt 0)))] ++ kp_ws (kp_Xh X (h + 2)) kp_lX7 2 kp_s0 ++ kp_ws (kp_Xh X (h + 4)) kp_lH 5 kp_sH ++ kp_ws (kp_Xh X (h + 9)) kp_lX3 5 kp_s0)) H locs 13 := S
  refine cr_putF C hin2 G S inWX1 tyX1 tyX1_ok nmX1 (ci := 1) rfl 3 (by decide) q1_161 rfl rfl (v := .ref (h + 9)) (tyX1_ok 3 (by decide)) rfl rfl (Nat.le_of_ble_eq_true rfl) dX1_init_41 (fun H locs S => ?_)
  have S : kp_CS X h s ((h, .inr (1, [.ref (h + 1), .ref (h + 2), .ref (h + 4), .ref (h + 9), .null, kp_iv 0])) :: ([(h + 1, .inl (kp_cy X 1, 3, .inr (.inl fun _ => Int64.ofInt 0)))] ++ kp_ws (kp_Xh X (h + 2)) kp_lX7 2 kp_s0 ++ kp_ws (kp_Xh X (h + 4)) kp_lH 5 kp_sH ++ kp_ws (kp_Xh X (h + 9)) kp_lX3 5 kp_s0)) H locs 13 := S
  refine lv_aload_n C.1 C.2.1 dX1_init_44 rfl (lv_at hl 0 rfl) ?_
  refine cs_new (k := 14) C G S (by simp [kp_ws_len]) inWX4 tyX4 tyX4_ok q1_132 q1_133 q1_7 (ci := 4) rfl (fs := [.null, .null, .null, kp_iv 0]) (fun j hj => by rcases (show j = 0 ∨ j = 1 ∨ j = 2 ∨ j = 3 by omega) with rfl | rfl | rfl | rfl <;> rfl) (Nat.le_of_ble_eq_true rfl) (Nat.le_of_ble_eq_true rfl) dX1_init_45 (fun H S => ?_)
  refine lv_dup C.1 C.2.1 dX1_init_48 rfl ?_
  refine cs_mkN (wr := ([(h + 1, .inl (kp_cy X 1, 3, .inr (.inl fun _ => Int64.ofInt 0)))] ++ kp_ws (kp_Xh X (h + 2)) kp_lX7 2 kp_s0 ++ kp_ws (kp_Xh X (h + 4)) kp_lH 5 kp_sH ++ kp_ws (kp_Xh X (h + 9)) kp_lX3 5 kp_s0)) (k := 14) C G hl.1 S (by simp [kp_ws_len]) kC_X4 rfl (host := "KnockPipes") (List.mem_of_getElem? (l := kp_nm) (i := 7) rfl) q1_135 q1_7 q1_136 rfl hd_X4_init (by exact ⟨Nat.le_of_ble_eq_true rfl, Nat.le_of_ble_eq_true rfl⟩) (by exact ⟨Nat.le_of_ble_eq_true rfl, Nat.le_of_ble_eq_true rfl⟩) (by exact Nat.le_of_ble_eq_true rfl) dX1_init_49 (fun H locs S => ?_)
  have S : kp_CS X h s ((h, .inr (1, [.ref (h + 1), .ref (h + 2), .ref (h + 4), .ref (h + 9), .null, kp_iv 0])) :: ([(h + 1, .inl (kp_cy X 1, 3, .inr (.inl fun _ => Int64.ofInt 0)))] ++ kp_ws (kp_Xh X (h + 2)) kp_lX7 2 kp_s0 ++ kp_ws (kp_Xh X (h + 4)) kp_lH 5 kp_sH ++ kp_ws (kp_Xh X (h + 9)) kp_lX3 5 kp_s0 ++ kp_ws (kp_Xh X (h + 14)) kp_lX4 4 kp_s0)) H locs 17 := S
  refine cr_putF C hin2 G S inWX1 tyX1 tyX1_ok nmX1 (ci := 1) rfl 4 (by decide) q1_163 rfl rfl (v := .ref (h + 14)) (tyX1_ok 4 (by decide)) rfl rfl (Nat.le_of_ble_eq_true rfl) dX1_init_52 (fun H locs S => ?_)
  have S : kp_CS X h s ((h, .inr (1, [.ref (h + 1), .ref (h + 2), .ref (h + 4), .ref (h + 9), .ref (h + 14), kp_iv 0])) :: ([(h + 1, .inl (kp_cy X 1, 3, .inr (.inl fun _ => Int64.ofInt 0)))] ++ kp_ws (kp_Xh X (h + 2)) kp_lX7 2 kp_s0 ++ kp_ws (kp_Xh X (h + 4)) kp_lH 5 kp_sH ++ kp_ws (kp_Xh X (h + 9)) kp_lX3 5 kp_s0 ++ kp_ws (kp_Xh X (h + 14)) kp_lX4 4 kp_s0)) H locs 17 := S
  refine lv_aload_n C.1 C.2.1 dX1_init_55 rfl (lv_at hl 0 rfl) ?_
  refine lv_iconst (v := Int32.ofInt 0) C.1 C.2.1 dX1_init_56 rfl ?_
  refine cr_put C G S inWX1 tyX1 tyX1_ok nmX1 (ci := 1) rfl 5 (by decide) q1_165 rfl (v := kp_iv 0) (tyX1_ok 5 (by decide)) rfl rfl (Nat.le_of_ble_eq_true rfl) dX1_init_57 (fun H locs S => ?_)
  have S : kp_CS X h s ((h, .inr (1, [.ref (h + 1), .ref (h + 2), .ref (h + 4), .ref (h + 9), .ref (h + 14), kp_iv 0])) :: ([(h + 1, .inl (kp_cy X 1, 3, .inr (.inl fun _ => Int64.ofInt 0)))] ++ kp_ws (kp_Xh X (h + 2)) kp_lX7 2 kp_s0 ++ kp_ws (kp_Xh X (h + 4)) kp_lH 5 kp_sH ++ kp_ws (kp_Xh X (h + 9)) kp_lX3 5 kp_s0 ++ kp_ws (kp_Xh X (h + 14)) kp_lX4 4 kp_s0)) H locs 17 := S
  have w0 : [(h, .inr (1, [.ref (h + 1), .ref (h + 2), .ref (h + 4), .ref (h + 9), .ref (h + 14), kp_iv 0]))] = kp_ws (kp_Xh X h) kp_lX1 1 kp_sO := rfl
  have w1 := kp_wsB (a := 1) (e := .inl (kp_cy X 1, 3, .inr (.inl fun _ => Int64.ofInt 0))) w0 rfl
  have w2 := kp_wsA (a := 2) (n := 2) (lay' := kp_lX7) (σ' := kp_s0) w1 (fun k hk => by match k, hk with | 0, _ => rfl | 1, _ => rfl | k + 2, hk => omega)
  have w3 := kp_wsA (a := 4) (n := 5) (lay' := kp_lH) (σ' := kp_sH) w2 (fun k hk => by match k, hk with | 0, _ => rfl | 1, _ => rfl | 2, _ => rfl | 3, _ => rfl | 4, _ => rfl | k + 5, hk => omega)
  have w4 := kp_wsA (a := 9) (n := 5) (lay' := kp_lX3) (σ' := kp_s0) w3 (fun k hk => by match k, hk with | 0, _ => rfl | 1, _ => rfl | 2, _ => rfl | 3, _ => rfl | 4, _ => rfl | k + 5, hk => omega)
  have w5 := kp_wsA (a := 14) (n := 4) (lay' := kp_lX4) (σ' := kp_s0) w4 (fun k hk => by match k, hk with | 0, _ => rfl | 1, _ => rfl | 2, _ => rfl | 3, _ => rfl | k + 4, hk => omega)
  exact cr_ret (lay := kp_lX1) (n := 18) (σ := kp_sO) C hr hlk G S w5 (Nat.le_refl _) (Nat.le_refl _) dX1_init_60
