-- by program (wip/whole/gen): layouts; words on descriptors
def kp_lKL : List kp_D := [(0, 8, [some 1, some 20, none, some 39, some 48, some 8, none, some 43]), (0, 1, [some 2, some 3, some 5, some 11, some 16, none]), (2, 3, []), (0, 7, [some 4, none]), (1, 120, []), (0, 2, [some 6, some 7, some 9, some 10, none, none, none]), (1, 5, []), (1, 120, []), (0, 0, [some 27, none, none, none, none]), (1, 10, []), (1, 10, []), (0, 3, [some 12, some 13, some 14, some 15, none, none]), (1, 10, []), (1, 10, []), (1, 10, []), (1, 10, []), (0, 4, [some 17, some 18, some 19, none]), (1, 12, []), (1, 12, []), (1, 12, []), (0, 1, [some 21, some 22, some 24, some 30, some 35, none]), (2, 3, []), (0, 7, [some 23, none]), (1, 120, []), (0, 2, [some 25, some 26, some 28, some 29, none, none, none]), (1, 5, []), (1, 120, []), (1, 20, []), (1, 10, []), (1, 10, []), (0, 3, [some 31, some 32, some 33, some 34, none, none]), (1, 10, []), (1, 10, []), (1, 10, []), (1, 10, []), (0, 4, [some 36, some 37, some 38, none]), (1, 12, []), (1, 12, []), (1, 12, []), (0, 5, [some 40, some 46, none]), (0, 2, [some 41, some 42, some 44, some 45, none, none, none]), (1, 5, []), (1, 120, []), (1, 120, []), (1, 10, []), (1, 10, []), (0, 7, [some 47, none]), (1, 120, []), (0, 6, [some 49, some 50, some 51, some 52, some 53, some 54]), (1, 40, []), (1, 400, []), (1, 400, []), (1, 400, []), (2, 10, []), (2, 16, [])]
def kp_lK : Nat → kp_D := fun k => kp_lKL.getD k (1, 0, [])
theorem kp_lK0 : 0 < 55 ∧ kp_lK 0 = (0, 8, [some 1, some 20, none, some 39, some 48, some 8, none, some 43]) := ⟨by decide, rfl⟩
theorem kp_lK1 : 1 < 55 ∧ kp_lK 1 = (0, 1, [some 2, some 3, some 5, some 11, some 16, none]) := ⟨by decide, rfl⟩
theorem kp_lK2 : 2 < 55 ∧ kp_lK 2 = (2, 3, []) := ⟨by decide, rfl⟩
theorem kp_lK3 : 3 < 55 ∧ kp_lK 3 = (0, 7, [some 4, none]) := ⟨by decide, rfl⟩
theorem kp_lK4 : 4 < 55 ∧ kp_lK 4 = (1, 120, []) := ⟨by decide, rfl⟩
theorem kp_lK5 : 5 < 55 ∧ kp_lK 5 = (0, 2, [some 6, some 7, some 9, some 10, none, none, none]) := ⟨by decide, rfl⟩
theorem kp_lK6 : 6 < 55 ∧ kp_lK 6 = (1, 5, []) := ⟨by decide, rfl⟩
theorem kp_lK7 : 7 < 55 ∧ kp_lK 7 = (1, 120, []) := ⟨by decide, rfl⟩
theorem kp_lK8 : 8 < 55 ∧ kp_lK 8 = (0, 0, [some 27, none, none, none, none]) := ⟨by decide, rfl⟩
theorem kp_lK9 : 9 < 55 ∧ kp_lK 9 = (1, 10, []) := ⟨by decide, rfl⟩
theorem kp_lK10 : 10 < 55 ∧ kp_lK 10 = (1, 10, []) := ⟨by decide, rfl⟩
theorem kp_lK11 : 11 < 55 ∧ kp_lK 11 = (0, 3, [some 12, some 13, some 14, some 15, none, none]) := ⟨by decide, rfl⟩
theorem kp_lK12 : 12 < 55 ∧ kp_lK 12 = (1, 10, []) := ⟨by decide, rfl⟩
theorem kp_lK13 : 13 < 55 ∧ kp_lK 13 = (1, 10, []) := ⟨by decide, rfl⟩
theorem kp_lK14 : 14 < 55 ∧ kp_lK 14 = (1, 10, []) := ⟨by decide, rfl⟩
theorem kp_lK15 : 15 < 55 ∧ kp_lK 15 = (1, 10, []) := ⟨by decide, rfl⟩
theorem kp_lK16 : 16 < 55 ∧ kp_lK 16 = (0, 4, [some 17, some 18, some 19, none]) := ⟨by decide, rfl⟩
theorem kp_lK17 : 17 < 55 ∧ kp_lK 17 = (1, 12, []) := ⟨by decide, rfl⟩
theorem kp_lK18 : 18 < 55 ∧ kp_lK 18 = (1, 12, []) := ⟨by decide, rfl⟩
theorem kp_lK19 : 19 < 55 ∧ kp_lK 19 = (1, 12, []) := ⟨by decide, rfl⟩
theorem kp_lK20 : 20 < 55 ∧ kp_lK 20 = (0, 1, [some 21, some 22, some 24, some 30, some 35, none]) := ⟨by decide, rfl⟩
theorem kp_lK21 : 21 < 55 ∧ kp_lK 21 = (2, 3, []) := ⟨by decide, rfl⟩
theorem kp_lK22 : 22 < 55 ∧ kp_lK 22 = (0, 7, [some 23, none]) := ⟨by decide, rfl⟩
theorem kp_lK23 : 23 < 55 ∧ kp_lK 23 = (1, 120, []) := ⟨by decide, rfl⟩
theorem kp_lK24 : 24 < 55 ∧ kp_lK 24 = (0, 2, [some 25, some 26, some 28, some 29, none, none, none]) := ⟨by decide, rfl⟩
theorem kp_lK25 : 25 < 55 ∧ kp_lK 25 = (1, 5, []) := ⟨by decide, rfl⟩
theorem kp_lK26 : 26 < 55 ∧ kp_lK 26 = (1, 120, []) := ⟨by decide, rfl⟩
theorem kp_lK27 : 27 < 55 ∧ kp_lK 27 = (1, 20, []) := ⟨by decide, rfl⟩
theorem kp_lK28 : 28 < 55 ∧ kp_lK 28 = (1, 10, []) := ⟨by decide, rfl⟩
theorem kp_lK29 : 29 < 55 ∧ kp_lK 29 = (1, 10, []) := ⟨by decide, rfl⟩
theorem kp_lK30 : 30 < 55 ∧ kp_lK 30 = (0, 3, [some 31, some 32, some 33, some 34, none, none]) := ⟨by decide, rfl⟩
theorem kp_lK31 : 31 < 55 ∧ kp_lK 31 = (1, 10, []) := ⟨by decide, rfl⟩
theorem kp_lK32 : 32 < 55 ∧ kp_lK 32 = (1, 10, []) := ⟨by decide, rfl⟩
theorem kp_lK33 : 33 < 55 ∧ kp_lK 33 = (1, 10, []) := ⟨by decide, rfl⟩
theorem kp_lK34 : 34 < 55 ∧ kp_lK 34 = (1, 10, []) := ⟨by decide, rfl⟩
theorem kp_lK35 : 35 < 55 ∧ kp_lK 35 = (0, 4, [some 36, some 37, some 38, none]) := ⟨by decide, rfl⟩
theorem kp_lK36 : 36 < 55 ∧ kp_lK 36 = (1, 12, []) := ⟨by decide, rfl⟩
theorem kp_lK37 : 37 < 55 ∧ kp_lK 37 = (1, 12, []) := ⟨by decide, rfl⟩
theorem kp_lK38 : 38 < 55 ∧ kp_lK 38 = (1, 12, []) := ⟨by decide, rfl⟩
theorem kp_lK39 : 39 < 55 ∧ kp_lK 39 = (0, 5, [some 40, some 46, none]) := ⟨by decide, rfl⟩
theorem kp_lK40 : 40 < 55 ∧ kp_lK 40 = (0, 2, [some 41, some 42, some 44, some 45, none, none, none]) := ⟨by decide, rfl⟩
theorem kp_lK41 : 41 < 55 ∧ kp_lK 41 = (1, 5, []) := ⟨by decide, rfl⟩
theorem kp_lK42 : 42 < 55 ∧ kp_lK 42 = (1, 120, []) := ⟨by decide, rfl⟩
theorem kp_lK43 : 43 < 55 ∧ kp_lK 43 = (1, 120, []) := ⟨by decide, rfl⟩
theorem kp_lK44 : 44 < 55 ∧ kp_lK 44 = (1, 10, []) := ⟨by decide, rfl⟩
theorem kp_lK45 : 45 < 55 ∧ kp_lK 45 = (1, 10, []) := ⟨by decide, rfl⟩
theorem kp_lK46 : 46 < 55 ∧ kp_lK 46 = (0, 7, [some 47, none]) := ⟨by decide, rfl⟩
theorem kp_lK47 : 47 < 55 ∧ kp_lK 47 = (1, 120, []) := ⟨by decide, rfl⟩
theorem kp_lK48 : 48 < 55 ∧ kp_lK 48 = (0, 6, [some 49, some 50, some 51, some 52, some 53, some 54]) := ⟨by decide, rfl⟩
theorem kp_lK49 : 49 < 55 ∧ kp_lK 49 = (1, 40, []) := ⟨by decide, rfl⟩
theorem kp_lK50 : 50 < 55 ∧ kp_lK 50 = (1, 400, []) := ⟨by decide, rfl⟩
theorem kp_lK51 : 51 < 55 ∧ kp_lK 51 = (1, 400, []) := ⟨by decide, rfl⟩
theorem kp_lK52 : 52 < 55 ∧ kp_lK 52 = (1, 400, []) := ⟨by decide, rfl⟩
theorem kp_lK53 : 53 < 55 ∧ kp_lK 53 = (2, 10, []) := ⟨by decide, rfl⟩
theorem kp_lK54 : 54 < 55 ∧ kp_lK 54 = (2, 16, []) := ⟨by decide, rfl⟩
def kp_lML : List kp_D := [(0, 9, [none, some 1, some 2, none, none, none, none, none, none, some 3, some 4, none, none, none, some 5, some 6, none, none, none, some 7, some 8, some 9, none, none, none, none]), (1, 1066, []), (1, 1066, []), (1, 5, []), (3, 64, []), (1, 40, []), (1, 400, []), (1, 10, []), (1, 10, []), (1, 20, [])]
def kp_lM : Nat → kp_D := fun k => kp_lML.getD k (1, 0, [])
theorem kp_lM0 : 0 < 10 ∧ kp_lM 0 = (0, 9, [none, some 1, some 2, none, none, none, none, none, none, some 3, some 4, none, none, none, some 5, some 6, none, none, none, some 7, some 8, some 9, none, none, none, none]) := ⟨by decide, rfl⟩
theorem kp_lM1 : 1 < 10 ∧ kp_lM 1 = (1, 1066, []) := ⟨by decide, rfl⟩
theorem kp_lM2 : 2 < 10 ∧ kp_lM 2 = (1, 1066, []) := ⟨by decide, rfl⟩
theorem kp_lM3 : 3 < 10 ∧ kp_lM 3 = (1, 5, []) := ⟨by decide, rfl⟩
theorem kp_lM4 : 4 < 10 ∧ kp_lM 4 = (3, 64, []) := ⟨by decide, rfl⟩
theorem kp_lM5 : 5 < 10 ∧ kp_lM 5 = (1, 40, []) := ⟨by decide, rfl⟩
theorem kp_lM6 : 6 < 10 ∧ kp_lM 6 = (1, 400, []) := ⟨by decide, rfl⟩
theorem kp_lM7 : 7 < 10 ∧ kp_lM 7 = (1, 10, []) := ⟨by decide, rfl⟩
theorem kp_lM8 : 8 < 10 ∧ kp_lM 8 = (1, 10, []) := ⟨by decide, rfl⟩
theorem kp_lM9 : 9 < 10 ∧ kp_lM 9 = (1, 20, []) := ⟨by decide, rfl⟩
def kp_lHL : List kp_D := [(0, 2, [some 1, some 2, some 3, some 4, none, none, none]), (1, 5, []), (1, 120, []), (1, 10, []), (1, 10, [])]
def kp_lH : Nat → kp_D := fun k => kp_lHL.getD k (1, 0, [])
theorem kp_lH0 : 0 < 5 ∧ kp_lH 0 = (0, 2, [some 1, some 2, some 3, some 4, none, none, none]) := ⟨by decide, rfl⟩
theorem kp_lH1 : 1 < 5 ∧ kp_lH 1 = (1, 5, []) := ⟨by decide, rfl⟩
theorem kp_lH2 : 2 < 5 ∧ kp_lH 2 = (1, 120, []) := ⟨by decide, rfl⟩
theorem kp_lH3 : 3 < 5 ∧ kp_lH 3 = (1, 10, []) := ⟨by decide, rfl⟩
theorem kp_lH4 : 4 < 5 ∧ kp_lH 4 = (1, 10, []) := ⟨by decide, rfl⟩
def kp_fu : Nat := 100000
theorem kp_fu_eq : kp_fu = 100000 := rfl
theorem pnX0 : plainName RX0 = true := by decide +kernel
theorem pnX1 : plainName RX1 = true := by decide +kernel
theorem pnX2 : plainName RX2 = true := by decide +kernel
theorem pnX3 : plainName RX3 = true := by decide +kernel
theorem pnX4 : plainName RX4 = true := by decide +kernel
theorem pnX5 : plainName RX5 = true := by decide +kernel
theorem pnX6 : plainName RX6 = true := by decide +kernel
theorem pnX7 : plainName RX7 = true := by decide +kernel
theorem pnX8 : plainName RX8 = true := by decide +kernel
theorem pnX9 : plainName RX9 = true := by decide +kernel
theorem pnX10 : plainName RX10 = true := by decide +kernel
theorem hd_X0_start : yX0_start.cls ≠ "java/lang/invoke/MethodHandle" ∧ yX0_start.cls ≠ "java/lang/invoke/VarHandle" ∧ (parseMethodDescriptor yX0_start.desc).map (fun d => d.parameters.length) = some 4 := by decide +kernel
theorem hd_X0_send : yX0_send.cls ≠ "java/lang/invoke/MethodHandle" ∧ yX0_send.cls ≠ "java/lang/invoke/VarHandle" ∧ (parseMethodDescriptor yX0_send.desc).map (fun d => d.parameters.length) = some 4 := by decide +kernel
theorem hd_X0_bodyOf : yX0_bodyOf.cls ≠ "java/lang/invoke/MethodHandle" ∧ yX0_bodyOf.cls ≠ "java/lang/invoke/VarHandle" ∧ (parseMethodDescriptor yX0_bodyOf.desc).map (fun d => d.parameters.length) = some 2 := by decide +kernel
theorem hd_X0_run : yX0_run.cls ≠ "java/lang/invoke/MethodHandle" ∧ yX0_run.cls ≠ "java/lang/invoke/VarHandle" ∧ (parseMethodDescriptor yX0_run.desc).map (fun d => d.parameters.length) = some 4 := by decide +kernel
theorem hd_X1_copy : yX1_copy.cls ≠ "java/lang/invoke/MethodHandle" ∧ yX1_copy.cls ≠ "java/lang/invoke/VarHandle" ∧ (parseMethodDescriptor yX1_copy.desc).map (fun d => d.parameters.length) = some 1 := by decide +kernel
theorem hd_X2_empty : yX2_empty.cls ≠ "java/lang/invoke/MethodHandle" ∧ yX2_empty.cls ≠ "java/lang/invoke/VarHandle" ∧ (parseMethodDescriptor yX2_empty.desc).map (fun d => d.parameters.length) = some 0 := by decide +kernel
theorem hd_X2_put : yX2_put.cls ≠ "java/lang/invoke/MethodHandle" ∧ yX2_put.cls ≠ "java/lang/invoke/VarHandle" ∧ (parseMethodDescriptor yX2_put.desc).map (fun d => d.parameters.length) = some 1 := by decide +kernel
theorem hd_X2_grows : yX2_grows.cls ≠ "java/lang/invoke/MethodHandle" ∧ yX2_grows.cls ≠ "java/lang/invoke/VarHandle" ∧ (parseMethodDescriptor yX2_grows.desc).map (fun d => d.parameters.length) = some 1 := by decide +kernel
theorem hd_X2_close : yX2_close.cls ≠ "java/lang/invoke/MethodHandle" ∧ yX2_close.cls ≠ "java/lang/invoke/VarHandle" ∧ (parseMethodDescriptor yX2_close.desc).map (fun d => d.parameters.length) = some 2 := by decide +kernel
theorem hd_X2_copy : yX2_copy.cls ≠ "java/lang/invoke/MethodHandle" ∧ yX2_copy.cls ≠ "java/lang/invoke/VarHandle" ∧ (parseMethodDescriptor yX2_copy.desc).map (fun d => d.parameters.length) = some 1 := by decide +kernel
theorem hd_X3_has : yX3_has.cls ≠ "java/lang/invoke/MethodHandle" ∧ yX3_has.cls ≠ "java/lang/invoke/VarHandle" ∧ (parseMethodDescriptor yX3_has.desc).map (fun d => d.parameters.length) = some 1 := by decide +kernel
theorem hd_X3_isLoose : yX3_isLoose.cls ≠ "java/lang/invoke/MethodHandle" ∧ yX3_isLoose.cls ≠ "java/lang/invoke/VarHandle" ∧ (parseMethodDescriptor yX3_isLoose.desc).map (fun d => d.parameters.length) = some 1 := by decide +kernel
theorem hd_X3_loose : yX3_loose.cls ≠ "java/lang/invoke/MethodHandle" ∧ yX3_loose.cls ≠ "java/lang/invoke/VarHandle" ∧ (parseMethodDescriptor yX3_loose.desc).map (fun d => d.parameters.length) = some 0 := by decide +kernel
theorem hd_X3_add : yX3_add.cls ≠ "java/lang/invoke/MethodHandle" ∧ yX3_add.cls ≠ "java/lang/invoke/VarHandle" ∧ (parseMethodDescriptor yX3_add.desc).map (fun d => d.parameters.length) = some 4 := by decide +kernel
theorem hd_X3_copy : yX3_copy.cls ≠ "java/lang/invoke/MethodHandle" ∧ yX3_copy.cls ≠ "java/lang/invoke/VarHandle" ∧ (parseMethodDescriptor yX3_copy.desc).map (fun d => d.parameters.length) = some 1 := by decide +kernel
theorem hd_X4_add : yX4_add.cls ≠ "java/lang/invoke/MethodHandle" ∧ yX4_add.cls ≠ "java/lang/invoke/VarHandle" ∧ (parseMethodDescriptor yX4_add.desc).map (fun d => d.parameters.length) = some 3 := by decide +kernel
theorem hd_X4_copy : yX4_copy.cls ≠ "java/lang/invoke/MethodHandle" ∧ yX4_copy.cls ≠ "java/lang/invoke/VarHandle" ∧ (parseMethodDescriptor yX4_copy.desc).map (fun d => d.parameters.length) = some 1 := by decide +kernel
theorem hd_X5_reads : yX5_reads.cls ≠ "java/lang/invoke/MethodHandle" ∧ yX5_reads.cls ≠ "java/lang/invoke/VarHandle" ∧ (parseMethodDescriptor yX5_reads.desc).map (fun d => d.parameters.length) = some 1 := by decide +kernel
theorem hd_X5_peek : yX5_peek.cls ≠ "java/lang/invoke/MethodHandle" ∧ yX5_peek.cls ≠ "java/lang/invoke/VarHandle" ∧ (parseMethodDescriptor yX5_peek.desc).map (fun d => d.parameters.length) = some 0 := by decide +kernel
theorem hd_X5_eats : yX5_eats.cls ≠ "java/lang/invoke/MethodHandle" ∧ yX5_eats.cls ≠ "java/lang/invoke/VarHandle" ∧ (parseMethodDescriptor yX5_eats.desc).map (fun d => d.parameters.length) = some 1 := by decide +kernel
theorem hd_X5_clause : yX5_clause.cls ≠ "java/lang/invoke/MethodHandle" ∧ yX5_clause.cls ≠ "java/lang/invoke/VarHandle" ∧ (parseMethodDescriptor yX5_clause.desc).map (fun d => d.parameters.length) = some 0 := by decide +kernel
theorem hd_X5_word : yX5_word.cls ≠ "java/lang/invoke/MethodHandle" ∧ yX5_word.cls ≠ "java/lang/invoke/VarHandle" ∧ (parseMethodDescriptor yX5_word.desc).map (fun d => d.parameters.length) = some 0 := by decide +kernel
theorem hd_X5_number : yX5_number.cls ≠ "java/lang/invoke/MethodHandle" ∧ yX5_number.cls ≠ "java/lang/invoke/VarHandle" ∧ (parseMethodDescriptor yX5_number.desc).map (fun d => d.parameters.length) = some 0 := by decide +kernel
theorem hd_X5_either : yX5_either.cls ≠ "java/lang/invoke/MethodHandle" ∧ yX5_either.cls ≠ "java/lang/invoke/VarHandle" ∧ (parseMethodDescriptor yX5_either.desc).map (fun d => d.parameters.length) = some 1 := by decide +kernel
theorem hd_X5_factor : yX5_factor.cls ≠ "java/lang/invoke/MethodHandle" ∧ yX5_factor.cls ≠ "java/lang/invoke/VarHandle" ∧ (parseMethodDescriptor yX5_factor.desc).map (fun d => d.parameters.length) = some 1 := by decide +kernel
theorem hd_X5_test : yX5_test.cls ≠ "java/lang/invoke/MethodHandle" ∧ yX5_test.cls ≠ "java/lang/invoke/VarHandle" ∧ (parseMethodDescriptor yX5_test.desc).map (fun d => d.parameters.length) = some 0 := by decide +kernel
theorem hd_X5_oneOf : yX5_oneOf.cls ≠ "java/lang/invoke/MethodHandle" ∧ yX5_oneOf.cls ≠ "java/lang/invoke/VarHandle" ∧ (parseMethodDescriptor yX5_oneOf.desc).map (fun d => d.parameters.length) = some 1 := by decide +kernel
theorem hd_X6_lengthOf : yX6_lengthOf.cls ≠ "java/lang/invoke/MethodHandle" ∧ yX6_lengthOf.cls ≠ "java/lang/invoke/VarHandle" ∧ (parseMethodDescriptor yX6_lengthOf.desc).map (fun d => d.parameters.length) = some 2 := by decide +kernel
theorem hd_X6_holdOf : yX6_holdOf.cls ≠ "java/lang/invoke/MethodHandle" ∧ yX6_holdOf.cls ≠ "java/lang/invoke/VarHandle" ∧ (parseMethodDescriptor yX6_holdOf.desc).map (fun d => d.parameters.length) = some 2 := by decide +kernel
theorem hd_X6_knocksOf : yX6_knocksOf.cls ≠ "java/lang/invoke/MethodHandle" ∧ yX6_knocksOf.cls ≠ "java/lang/invoke/VarHandle" ∧ (parseMethodDescriptor yX6_knocksOf.desc).map (fun d => d.parameters.length) = some 2 := by decide +kernel
theorem hd_X6_knockingOf : yX6_knockingOf.cls ≠ "java/lang/invoke/MethodHandle" ∧ yX6_knockingOf.cls ≠ "java/lang/invoke/VarHandle" ∧ (parseMethodDescriptor yX6_knockingOf.desc).map (fun d => d.parameters.length) = some 1 := by decide +kernel
theorem hd_X6_read : yX6_read.cls ≠ "java/lang/invoke/MethodHandle" ∧ yX6_read.cls ≠ "java/lang/invoke/VarHandle" ∧ (parseMethodDescriptor yX6_read.desc).map (fun d => d.parameters.length) = some 3 := by decide +kernel
theorem hd_X6_addTo : yX6_addTo.cls ≠ "java/lang/invoke/MethodHandle" ∧ yX6_addTo.cls ≠ "java/lang/invoke/VarHandle" ∧ (parseMethodDescriptor yX6_addTo.desc).map (fun d => d.parameters.length) = some 4 := by decide +kernel
theorem hd_X6_holds : yX6_holds.cls ≠ "java/lang/invoke/MethodHandle" ∧ yX6_holds.cls ≠ "java/lang/invoke/VarHandle" ∧ (parseMethodDescriptor yX6_holds.desc).map (fun d => d.parameters.length) = some 5 := by decide +kernel
theorem hd_X6_minutesOf : yX6_minutesOf.cls ≠ "java/lang/invoke/MethodHandle" ∧ yX6_minutesOf.cls ≠ "java/lang/invoke/VarHandle" ∧ (parseMethodDescriptor yX6_minutesOf.desc).map (fun d => d.parameters.length) = some 3 := by decide +kernel
theorem hd_X6_warm : yX6_warm.cls ≠ "java/lang/invoke/MethodHandle" ∧ yX6_warm.cls ≠ "java/lang/invoke/VarHandle" ∧ (parseMethodDescriptor yX6_warm.desc).map (fun d => d.parameters.length) = some 2 := by decide +kernel
theorem hd_X6_knock : yX6_knock.cls ≠ "java/lang/invoke/MethodHandle" ∧ yX6_knock.cls ≠ "java/lang/invoke/VarHandle" ∧ (parseMethodDescriptor yX6_knock.desc).map (fun d => d.parameters.length) = some 4 := by decide +kernel
theorem hd_X6_mark : yX6_mark.cls ≠ "java/lang/invoke/MethodHandle" ∧ yX6_mark.cls ≠ "java/lang/invoke/VarHandle" ∧ (parseMethodDescriptor yX6_mark.desc).map (fun d => d.parameters.length) = some 4 := by decide +kernel
theorem hd_X6_lasting : yX6_lasting.cls ≠ "java/lang/invoke/MethodHandle" ∧ yX6_lasting.cls ≠ "java/lang/invoke/VarHandle" ∧ (parseMethodDescriptor yX6_lasting.desc).map (fun d => d.parameters.length) = some 2 := by decide +kernel
theorem hd_X6_tick : yX6_tick.cls ≠ "java/lang/invoke/MethodHandle" ∧ yX6_tick.cls ≠ "java/lang/invoke/VarHandle" ∧ (parseMethodDescriptor yX6_tick.desc).map (fun d => d.parameters.length) = some 2 := by decide +kernel
theorem hd_X7_add : yX7_add.cls ≠ "java/lang/invoke/MethodHandle" ∧ yX7_add.cls ≠ "java/lang/invoke/VarHandle" ∧ (parseMethodDescriptor yX7_add.desc).map (fun d => d.parameters.length) = some 1 := by decide +kernel
theorem hd_X7_copy : yX7_copy.cls ≠ "java/lang/invoke/MethodHandle" ∧ yX7_copy.cls ≠ "java/lang/invoke/VarHandle" ∧ (parseMethodDescriptor yX7_copy.desc).map (fun d => d.parameters.length) = some 1 := by decide +kernel
theorem hd_X8_code : yX8_code.cls ≠ "java/lang/invoke/MethodHandle" ∧ yX8_code.cls ≠ "java/lang/invoke/VarHandle" ∧ (parseMethodDescriptor yX8_code.desc).map (fun d => d.parameters.length) = some 3 := by decide +kernel
theorem hd_X8_subject : yX8_subject.cls ≠ "java/lang/invoke/MethodHandle" ∧ yX8_subject.cls ≠ "java/lang/invoke/VarHandle" ∧ (parseMethodDescriptor yX8_subject.desc).map (fun d => d.parameters.length) = some 1 := by decide +kernel
theorem hd_X8_sign : yX8_sign.cls ≠ "java/lang/invoke/MethodHandle" ∧ yX8_sign.cls ≠ "java/lang/invoke/VarHandle" ∧ (parseMethodDescriptor yX8_sign.desc).map (fun d => d.parameters.length) = some 1 := by decide +kernel
theorem hd_X8_number : yX8_number.cls ≠ "java/lang/invoke/MethodHandle" ∧ yX8_number.cls ≠ "java/lang/invoke/VarHandle" ∧ (parseMethodDescriptor yX8_number.desc).map (fun d => d.parameters.length) = some 1 := by decide +kernel
theorem hd_X8_holds : yX8_holds.cls ≠ "java/lang/invoke/MethodHandle" ∧ yX8_holds.cls ≠ "java/lang/invoke/VarHandle" ∧ (parseMethodDescriptor yX8_holds.desc).map (fun d => d.parameters.length) = some 2 := by decide +kernel
theorem hd_X8_minutes : yX8_minutes.cls ≠ "java/lang/invoke/MethodHandle" ∧ yX8_minutes.cls ≠ "java/lang/invoke/VarHandle" ∧ (parseMethodDescriptor yX8_minutes.desc).map (fun d => d.parameters.length) = some 1 := by decide +kernel
theorem hd_X9_day : yX9_day.cls ≠ "java/lang/invoke/MethodHandle" ∧ yX9_day.cls ≠ "java/lang/invoke/VarHandle" ∧ (parseMethodDescriptor yX9_day.desc).map (fun d => d.parameters.length) = some 2 := by decide +kernel
theorem hd_X9_feed : yX9_feed.cls ≠ "java/lang/invoke/MethodHandle" ∧ yX9_feed.cls ≠ "java/lang/invoke/VarHandle" ∧ (parseMethodDescriptor yX9_feed.desc).map (fun d => d.parameters.length) = some 2 := by decide +kernel
theorem hd_X9_house : yX9_house.cls ≠ "java/lang/invoke/MethodHandle" ∧ yX9_house.cls ≠ "java/lang/invoke/VarHandle" ∧ (parseMethodDescriptor yX9_house.desc).map (fun d => d.parameters.length) = some 0 := by decide +kernel
theorem hd_X9_told : yX9_told.cls ≠ "java/lang/invoke/MethodHandle" ∧ yX9_told.cls ≠ "java/lang/invoke/VarHandle" ∧ (parseMethodDescriptor yX9_told.desc).map (fun d => d.parameters.length) = some 1 := by decide +kernel
theorem hd_X9_warmth : yX9_warmth.cls ≠ "java/lang/invoke/MethodHandle" ∧ yX9_warmth.cls ≠ "java/lang/invoke/VarHandle" ∧ (parseMethodDescriptor yX9_warmth.desc).map (fun d => d.parameters.length) = some 1 := by decide +kernel
theorem hd_X9_noise : yX9_noise.cls ≠ "java/lang/invoke/MethodHandle" ∧ yX9_noise.cls ≠ "java/lang/invoke/VarHandle" ∧ (parseMethodDescriptor yX9_noise.desc).map (fun d => d.parameters.length) = some 4 := by decide +kernel
theorem hd_X9_of : yX9_of.cls ≠ "java/lang/invoke/MethodHandle" ∧ yX9_of.cls ≠ "java/lang/invoke/VarHandle" ∧ (parseMethodDescriptor yX9_of.desc).map (fun d => d.parameters.length) = some 2 := by decide +kernel
theorem hd_X9_still : yX9_still.cls ≠ "java/lang/invoke/MethodHandle" ∧ yX9_still.cls ≠ "java/lang/invoke/VarHandle" ∧ (parseMethodDescriptor yX9_still.desc).map (fun d => d.parameters.length) = some 2 := by decide +kernel
theorem hd_X9_knocks : yX9_knocks.cls ≠ "java/lang/invoke/MethodHandle" ∧ yX9_knocks.cls ≠ "java/lang/invoke/VarHandle" ∧ (parseMethodDescriptor yX9_knocks.desc).map (fun d => d.parameters.length) = some 3 := by decide +kernel
theorem hd_X9_loud : yX9_loud.cls ≠ "java/lang/invoke/MethodHandle" ∧ yX9_loud.cls ≠ "java/lang/invoke/VarHandle" ∧ (parseMethodDescriptor yX9_loud.desc).map (fun d => d.parameters.length) = some 3 := by decide +kernel
theorem hd_X9_heard : yX9_heard.cls ≠ "java/lang/invoke/MethodHandle" ∧ yX9_heard.cls ≠ "java/lang/invoke/VarHandle" ∧ (parseMethodDescriptor yX9_heard.desc).map (fun d => d.parameters.length) = some 2 := by decide +kernel
theorem hd_X9_seems : yX9_seems.cls ≠ "java/lang/invoke/MethodHandle" ∧ yX9_seems.cls ≠ "java/lang/invoke/VarHandle" ∧ (parseMethodDescriptor yX9_seems.desc).map (fun d => d.parameters.length) = some 1 := by decide +kernel
theorem hd_X9_note : yX9_note.cls ≠ "java/lang/invoke/MethodHandle" ∧ yX9_note.cls ≠ "java/lang/invoke/VarHandle" ∧ (parseMethodDescriptor yX9_note.desc).map (fun d => d.parameters.length) = some 3 := by decide +kernel
theorem hd_X9_clear : yX9_clear.cls ≠ "java/lang/invoke/MethodHandle" ∧ yX9_clear.cls ≠ "java/lang/invoke/VarHandle" ∧ (parseMethodDescriptor yX9_clear.desc).map (fun d => d.parameters.length) = some 0 := by decide +kernel
theorem hd_X9_fits : yX9_fits.cls ≠ "java/lang/invoke/MethodHandle" ∧ yX9_fits.cls ≠ "java/lang/invoke/VarHandle" ∧ (parseMethodDescriptor yX9_fits.desc).map (fun d => d.parameters.length) = some 1 := by decide +kernel
theorem hd_X9_odds : yX9_odds.cls ≠ "java/lang/invoke/MethodHandle" ∧ yX9_odds.cls ≠ "java/lang/invoke/VarHandle" ∧ (parseMethodDescriptor yX9_odds.desc).map (fun d => d.parameters.length) = some 2 := by decide +kernel
theorem hd_X9_which : yX9_which.cls ≠ "java/lang/invoke/MethodHandle" ∧ yX9_which.cls ≠ "java/lang/invoke/VarHandle" ∧ (parseMethodDescriptor yX9_which.desc).map (fun d => d.parameters.length) = some 1 := by decide +kernel
theorem hd_X9_next : yX9_next.cls ≠ "java/lang/invoke/MethodHandle" ∧ yX9_next.cls ≠ "java/lang/invoke/VarHandle" ∧ (parseMethodDescriptor yX9_next.desc).map (fun d => d.parameters.length) = some 0 := by decide +kernel
theorem hd_X9_least : yX9_least.cls ≠ "java/lang/invoke/MethodHandle" ∧ yX9_least.cls ≠ "java/lang/invoke/VarHandle" ∧ (parseMethodDescriptor yX9_least.desc).map (fun d => d.parameters.length) = some 2 := by decide +kernel
theorem hd_X9_eased : yX9_eased.cls ≠ "java/lang/invoke/MethodHandle" ∧ yX9_eased.cls ≠ "java/lang/invoke/VarHandle" ∧ (parseMethodDescriptor yX9_eased.desc).map (fun d => d.parameters.length) = some 2 := by decide +kernel
theorem hd_X9_parted : yX9_parted.cls ≠ "java/lang/invoke/MethodHandle" ∧ yX9_parted.cls ≠ "java/lang/invoke/VarHandle" ∧ (parseMethodDescriptor yX9_parted.desc).map (fun d => d.parameters.length) = some 2 := by decide +kernel
theorem hd_X9_quiet : yX9_quiet.cls ≠ "java/lang/invoke/MethodHandle" ∧ yX9_quiet.cls ≠ "java/lang/invoke/VarHandle" ∧ (parseMethodDescriptor yX9_quiet.desc).map (fun d => d.parameters.length) = some 1 := by decide +kernel
theorem hd_X9_moved : yX9_moved.cls ≠ "java/lang/invoke/MethodHandle" ∧ yX9_moved.cls ≠ "java/lang/invoke/VarHandle" ∧ (parseMethodDescriptor yX9_moved.desc).map (fun d => d.parameters.length) = some 2 := by decide +kernel
theorem hd_X9_older : yX9_older.cls ≠ "java/lang/invoke/MethodHandle" ∧ yX9_older.cls ≠ "java/lang/invoke/VarHandle" ∧ (parseMethodDescriptor yX9_older.desc).map (fun d => d.parameters.length) = some 0 := by decide +kernel
theorem hd_X9_harm : yX9_harm.cls ≠ "java/lang/invoke/MethodHandle" ∧ yX9_harm.cls ≠ "java/lang/invoke/VarHandle" ∧ (parseMethodDescriptor yX9_harm.desc).map (fun d => d.parameters.length) = some 1 := by decide +kernel
theorem hd_X9_act : yX9_act.cls ≠ "java/lang/invoke/MethodHandle" ∧ yX9_act.cls ≠ "java/lang/invoke/VarHandle" ∧ (parseMethodDescriptor yX9_act.desc).map (fun d => d.parameters.length) = some 3 := by decide +kernel
theorem hd_X9_trace : yX9_trace.cls ≠ "java/lang/invoke/MethodHandle" ∧ yX9_trace.cls ≠ "java/lang/invoke/VarHandle" ∧ (parseMethodDescriptor yX9_trace.desc).map (fun d => d.parameters.length) = some 1 := by decide +kernel
theorem hd_X9_as : yX9_as.cls ≠ "java/lang/invoke/MethodHandle" ∧ yX9_as.cls ≠ "java/lang/invoke/VarHandle" ∧ (parseMethodDescriptor yX9_as.desc).map (fun d => d.parameters.length) = some 2 := by decide +kernel
theorem hd_X9_image : yX9_image.cls ≠ "java/lang/invoke/MethodHandle" ∧ yX9_image.cls ≠ "java/lang/invoke/VarHandle" ∧ (parseMethodDescriptor yX9_image.desc).map (fun d => d.parameters.length) = some 0 := by decide +kernel
theorem hd_X9_undo : yX9_undo.cls ≠ "java/lang/invoke/MethodHandle" ∧ yX9_undo.cls ≠ "java/lang/invoke/VarHandle" ∧ (parseMethodDescriptor yX9_undo.desc).map (fun d => d.parameters.length) = some 0 := by decide +kernel
theorem hd_X9_count : yX9_count.cls ≠ "java/lang/invoke/MethodHandle" ∧ yX9_count.cls ≠ "java/lang/invoke/VarHandle" ∧ (parseMethodDescriptor yX9_count.desc).map (fun d => d.parameters.length) = some 1 := by decide +kernel
theorem hd_X9_isMinute : yX9_isMinute.cls ≠ "java/lang/invoke/MethodHandle" ∧ yX9_isMinute.cls ≠ "java/lang/invoke/VarHandle" ∧ (parseMethodDescriptor yX9_isMinute.desc).map (fun d => d.parameters.length) = some 1 := by decide +kernel
theorem hd_X9_isPlace : yX9_isPlace.cls ≠ "java/lang/invoke/MethodHandle" ∧ yX9_isPlace.cls ≠ "java/lang/invoke/VarHandle" ∧ (parseMethodDescriptor yX9_isPlace.desc).map (fun d => d.parameters.length) = some 1 := by decide +kernel
theorem hd_X9_isKind : yX9_isKind.cls ≠ "java/lang/invoke/MethodHandle" ∧ yX9_isKind.cls ≠ "java/lang/invoke/VarHandle" ∧ (parseMethodDescriptor yX9_isKind.desc).map (fun d => d.parameters.length) = some 1 := by decide +kernel
theorem hd_X9_above : yX9_above.cls ≠ "java/lang/invoke/MethodHandle" ∧ yX9_above.cls ≠ "java/lang/invoke/VarHandle" ∧ (parseMethodDescriptor yX9_above.desc).map (fun d => d.parameters.length) = some 1 := by decide +kernel
theorem hd_X9_isUnder : yX9_isUnder.cls ≠ "java/lang/invoke/MethodHandle" ∧ yX9_isUnder.cls ≠ "java/lang/invoke/VarHandle" ∧ (parseMethodDescriptor yX9_isUnder.desc).map (fun d => d.parameters.length) = some 2 := by decide +kernel
theorem hd_X9_greatestShared : yX9_greatestShared.cls ≠ "java/lang/invoke/MethodHandle" ∧ yX9_greatestShared.cls ≠ "java/lang/invoke/VarHandle" ∧ (parseMethodDescriptor yX9_greatestShared.desc).map (fun d => d.parameters.length) = some 2 := by decide +kernel
theorem hd_X9_settle : yX9_settle.cls ≠ "java/lang/invoke/MethodHandle" ∧ yX9_settle.cls ≠ "java/lang/invoke/VarHandle" ∧ (parseMethodDescriptor yX9_settle.desc).map (fun d => d.parameters.length) = some 0 := by decide +kernel
theorem hd_X9_ring : yX9_ring.cls ≠ "java/lang/invoke/MethodHandle" ∧ yX9_ring.cls ≠ "java/lang/invoke/VarHandle" ∧ (parseMethodDescriptor yX9_ring.desc).map (fun d => d.parameters.length) = some 3 := by decide +kernel
theorem hd_X9_loudOf : yX9_loudOf.cls ≠ "java/lang/invoke/MethodHandle" ∧ yX9_loudOf.cls ≠ "java/lang/invoke/VarHandle" ∧ (parseMethodDescriptor yX9_loudOf.desc).map (fun d => d.parameters.length) = some 3 := by decide +kernel
theorem hd_X9_heardAlone : yX9_heardAlone.cls ≠ "java/lang/invoke/MethodHandle" ∧ yX9_heardAlone.cls ≠ "java/lang/invoke/VarHandle" ∧ (parseMethodDescriptor yX9_heardAlone.desc).map (fun d => d.parameters.length) = some 3 := by decide +kernel
theorem hd_X9_heardInDayOf : yX9_heardInDayOf.cls ≠ "java/lang/invoke/MethodHandle" ∧ yX9_heardInDayOf.cls ≠ "java/lang/invoke/VarHandle" ∧ (parseMethodDescriptor yX9_heardInDayOf.desc).map (fun d => d.parameters.length) = some 2 := by decide +kernel
theorem hd_X9_heardAt : yX9_heardAt.cls ≠ "java/lang/invoke/MethodHandle" ∧ yX9_heardAt.cls ≠ "java/lang/invoke/VarHandle" ∧ (parseMethodDescriptor yX9_heardAt.desc).map (fun d => d.parameters.length) = some 2 := by decide +kernel
theorem hd_X9_heardInDay : yX9_heardInDay.cls ≠ "java/lang/invoke/MethodHandle" ∧ yX9_heardInDay.cls ≠ "java/lang/invoke/VarHandle" ∧ (parseMethodDescriptor yX9_heardInDay.desc).map (fun d => d.parameters.length) = some 1 := by decide +kernel
theorem hd_X9_loudOfAll : yX9_loudOfAll.cls ≠ "java/lang/invoke/MethodHandle" ∧ yX9_loudOfAll.cls ≠ "java/lang/invoke/VarHandle" ∧ (parseMethodDescriptor yX9_loudOfAll.desc).map (fun d => d.parameters.length) = some 2 := by decide +kernel
theorem hd_X9_fittingRows : yX9_fittingRows.cls ≠ "java/lang/invoke/MethodHandle" ∧ yX9_fittingRows.cls ≠ "java/lang/invoke/VarHandle" ∧ (parseMethodDescriptor yX9_fittingRows.desc).map (fun d => d.parameters.length) = some 1 := by decide +kernel
theorem hd_X9_mostFitting : yX9_mostFitting.cls ≠ "java/lang/invoke/MethodHandle" ∧ yX9_mostFitting.cls ≠ "java/lang/invoke/VarHandle" ∧ (parseMethodDescriptor yX9_mostFitting.desc).map (fun d => d.parameters.length) = some 0 := by decide +kernel
theorem hd_X9_allFitting : yX9_allFitting.cls ≠ "java/lang/invoke/MethodHandle" ∧ yX9_allFitting.cls ≠ "java/lang/invoke/VarHandle" ∧ (parseMethodDescriptor yX9_allFitting.desc).map (fun d => d.parameters.length) = some 0 := by decide +kernel
theorem hd_X9_fitsAllRows : yX9_fitsAllRows.cls ≠ "java/lang/invoke/MethodHandle" ∧ yX9_fitsAllRows.cls ≠ "java/lang/invoke/VarHandle" ∧ (parseMethodDescriptor yX9_fitsAllRows.desc).map (fun d => d.parameters.length) = some 1 := by decide +kernel
theorem hd_X9_shareOf : yX9_shareOf.cls ≠ "java/lang/invoke/MethodHandle" ∧ yX9_shareOf.cls ≠ "java/lang/invoke/VarHandle" ∧ (parseMethodDescriptor yX9_shareOf.desc).map (fun d => d.parameters.length) = some 2 := by decide +kernel
theorem hd_X9_worst : yX9_worst.cls ≠ "java/lang/invoke/MethodHandle" ∧ yX9_worst.cls ≠ "java/lang/invoke/VarHandle" ∧ (parseMethodDescriptor yX9_worst.desc).map (fun d => d.parameters.length) = some 0 := by decide +kernel
theorem hd_X9_harmOf : yX9_harmOf.cls ≠ "java/lang/invoke/MethodHandle" ∧ yX9_harmOf.cls ≠ "java/lang/invoke/VarHandle" ∧ (parseMethodDescriptor yX9_harmOf.desc).map (fun d => d.parameters.length) = some 1 := by decide +kernel
theorem hd_X9_mostAlike : yX9_mostAlike.cls ≠ "java/lang/invoke/MethodHandle" ∧ yX9_mostAlike.cls ≠ "java/lang/invoke/VarHandle" ∧ (parseMethodDescriptor yX9_mostAlike.desc).map (fun d => d.parameters.length) = some 2 := by decide +kernel
theorem hd_X9_rowsHeard : yX9_rowsHeard.cls ≠ "java/lang/invoke/MethodHandle" ∧ yX9_rowsHeard.cls ≠ "java/lang/invoke/VarHandle" ∧ (parseMethodDescriptor yX9_rowsHeard.desc).map (fun d => d.parameters.length) = some 0 := by decide +kernel
theorem hd_X10_in : yX10_in.cls ≠ "java/lang/invoke/MethodHandle" ∧ yX10_in.cls ≠ "java/lang/invoke/VarHandle" ∧ (parseMethodDescriptor yX10_in.desc).map (fun d => d.parameters.length) = some 3 := by decide +kernel
theorem hd_X10_size : yX10_size.cls ≠ "java/lang/invoke/MethodHandle" ∧ yX10_size.cls ≠ "java/lang/invoke/VarHandle" ∧ (parseMethodDescriptor yX10_size.desc).map (fun d => d.parameters.length) = some 1 := by decide +kernel
theorem hd_X10_isNoise : yX10_isNoise.cls ≠ "java/lang/invoke/MethodHandle" ∧ yX10_isNoise.cls ≠ "java/lang/invoke/VarHandle" ∧ (parseMethodDescriptor yX10_isNoise.desc).map (fun d => d.parameters.length) = some 1 := by decide +kernel
theorem hd_X10_isPlace : yX10_isPlace.cls ≠ "java/lang/invoke/MethodHandle" ∧ yX10_isPlace.cls ≠ "java/lang/invoke/VarHandle" ∧ (parseMethodDescriptor yX10_isPlace.desc).map (fun d => d.parameters.length) = some 1 := by decide +kernel
theorem hd_X10_isMinute : yX10_isMinute.cls ≠ "java/lang/invoke/MethodHandle" ∧ yX10_isMinute.cls ≠ "java/lang/invoke/VarHandle" ∧ (parseMethodDescriptor yX10_isMinute.desc).map (fun d => d.parameters.length) = some 1 := by decide +kernel
theorem hd_X10_day : yX10_day.cls ≠ "java/lang/invoke/MethodHandle" ∧ yX10_day.cls ≠ "java/lang/invoke/VarHandle" ∧ (parseMethodDescriptor yX10_day.desc).map (fun d => d.parameters.length) = some 2 := by decide +kernel
theorem hd_X10_feed : yX10_feed.cls ≠ "java/lang/invoke/MethodHandle" ∧ yX10_feed.cls ≠ "java/lang/invoke/VarHandle" ∧ (parseMethodDescriptor yX10_feed.desc).map (fun d => d.parameters.length) = some 2 := by decide +kernel
theorem hd_X10_here : yX10_here.cls ≠ "java/lang/invoke/MethodHandle" ∧ yX10_here.cls ≠ "java/lang/invoke/VarHandle" ∧ (parseMethodDescriptor yX10_here.desc).map (fun d => d.parameters.length) = some 0 := by decide +kernel
theorem hd_X10_must : yX10_must.cls ≠ "java/lang/invoke/MethodHandle" ∧ yX10_must.cls ≠ "java/lang/invoke/VarHandle" ∧ (parseMethodDescriptor yX10_must.desc).map (fun d => d.parameters.length) = some 1 := by decide +kernel
theorem hd_X10_spells : yX10_spells.cls ≠ "java/lang/invoke/MethodHandle" ∧ yX10_spells.cls ≠ "java/lang/invoke/VarHandle" ∧ (parseMethodDescriptor yX10_spells.desc).map (fun d => d.parameters.length) = some 1 := by decide +kernel
theorem hd_X10_figures : yX10_figures.cls ≠ "java/lang/invoke/MethodHandle" ∧ yX10_figures.cls ≠ "java/lang/invoke/VarHandle" ∧ (parseMethodDescriptor yX10_figures.desc).map (fun d => d.parameters.length) = some 0 := by decide +kernel
theorem hd_X10_among : yX10_among.cls ≠ "java/lang/invoke/MethodHandle" ∧ yX10_among.cls ≠ "java/lang/invoke/VarHandle" ∧ (parseMethodDescriptor yX10_among.desc).map (fun d => d.parameters.length) = some 1 := by decide +kernel
theorem hd_X10_emits : yX10_emits.cls ≠ "java/lang/invoke/MethodHandle" ∧ yX10_emits.cls ≠ "java/lang/invoke/VarHandle" ∧ (parseMethodDescriptor yX10_emits.desc).map (fun d => d.parameters.length) = some 1 := by decide +kernel
theorem hd_X10_factor : yX10_factor.cls ≠ "java/lang/invoke/MethodHandle" ∧ yX10_factor.cls ≠ "java/lang/invoke/VarHandle" ∧ (parseMethodDescriptor yX10_factor.desc).map (fun d => d.parameters.length) = some 0 := by decide +kernel
theorem hd_X10_every : yX10_every.cls ≠ "java/lang/invoke/MethodHandle" ∧ yX10_every.cls ≠ "java/lang/invoke/VarHandle" ∧ (parseMethodDescriptor yX10_every.desc).map (fun d => d.parameters.length) = some 0 := by decide +kernel
theorem hd_X10_some : yX10_some.cls ≠ "java/lang/invoke/MethodHandle" ∧ yX10_some.cls ≠ "java/lang/invoke/VarHandle" ∧ (parseMethodDescriptor yX10_some.desc).map (fun d => d.parameters.length) = some 0 := by decide +kernel
theorem hd_X10_much : yX10_much.cls ≠ "java/lang/invoke/MethodHandle" ∧ yX10_much.cls ≠ "java/lang/invoke/VarHandle" ∧ (parseMethodDescriptor yX10_much.desc).map (fun d => d.parameters.length) = some 2 := by decide +kernel
theorem hd_X10_tellsHere : yX10_tellsHere.cls ≠ "java/lang/invoke/MethodHandle" ∧ yX10_tellsHere.cls ≠ "java/lang/invoke/VarHandle" ∧ (parseMethodDescriptor yX10_tellsHere.desc).map (fun d => d.parameters.length) = some 2 := by decide +kernel
theorem hd_X10_clauseOfH : yX10_clauseOfH.cls ≠ "java/lang/invoke/MethodHandle" ∧ yX10_clauseOfH.cls ≠ "java/lang/invoke/VarHandle" ∧ (parseMethodDescriptor yX10_clauseOfH.desc).map (fun d => d.parameters.length) = some 0 := by decide +kernel
theorem hd_X10_clauseHere : yX10_clauseHere.cls ≠ "java/lang/invoke/MethodHandle" ∧ yX10_clauseHere.cls ≠ "java/lang/invoke/VarHandle" ∧ (parseMethodDescriptor yX10_clauseHere.desc).map (fun d => d.parameters.length) = some 0 := by decide +kernel
theorem hd_X10_house : yX10_house.cls ≠ "java/lang/invoke/MethodHandle" ∧ yX10_house.cls ≠ "java/lang/invoke/VarHandle" ∧ (parseMethodDescriptor yX10_house.desc).map (fun d => d.parameters.length) = some 0 := by decide +kernel
theorem hd_X10_tellsOf : yX10_tellsOf.cls ≠ "java/lang/invoke/MethodHandle" ∧ yX10_tellsOf.cls ≠ "java/lang/invoke/VarHandle" ∧ (parseMethodDescriptor yX10_tellsOf.desc).map (fun d => d.parameters.length) = some 2 := by decide +kernel
theorem hd_X10_told : yX10_told.cls ≠ "java/lang/invoke/MethodHandle" ∧ yX10_told.cls ≠ "java/lang/invoke/VarHandle" ∧ (parseMethodDescriptor yX10_told.desc).map (fun d => d.parameters.length) = some 1 := by decide +kernel
theorem hd_X10_looksAt : yX10_looksAt.cls ≠ "java/lang/invoke/MethodHandle" ∧ yX10_looksAt.cls ≠ "java/lang/invoke/VarHandle" ∧ (parseMethodDescriptor yX10_looksAt.desc).map (fun d => d.parameters.length) = some 2 := by decide +kernel
theorem hd_X10_isOn : yX10_isOn.cls ≠ "java/lang/invoke/MethodHandle" ∧ yX10_isOn.cls ≠ "java/lang/invoke/VarHandle" ∧ (parseMethodDescriptor yX10_isOn.desc).map (fun d => d.parameters.length) = some 2 := by decide +kernel
theorem hd_X10_warms : yX10_warms.cls ≠ "java/lang/invoke/MethodHandle" ∧ yX10_warms.cls ≠ "java/lang/invoke/VarHandle" ∧ (parseMethodDescriptor yX10_warms.desc).map (fun d => d.parameters.length) = some 0 := by decide +kernel
theorem hd_X10_lengthOf : yX10_lengthOf.cls ≠ "java/lang/invoke/MethodHandle" ∧ yX10_lengthOf.cls ≠ "java/lang/invoke/VarHandle" ∧ (parseMethodDescriptor yX10_lengthOf.desc).map (fun d => d.parameters.length) = some 2 := by decide +kernel
theorem hd_X10_ticks : yX10_ticks.cls ≠ "java/lang/invoke/MethodHandle" ∧ yX10_ticks.cls ≠ "java/lang/invoke/VarHandle" ∧ (parseMethodDescriptor yX10_ticks.desc).map (fun d => d.parameters.length) = some 1 := by decide +kernel
theorem hd_X10_strikesBy : yX10_strikesBy.cls ≠ "java/lang/invoke/MethodHandle" ∧ yX10_strikesBy.cls ≠ "java/lang/invoke/VarHandle" ∧ (parseMethodDescriptor yX10_strikesBy.desc).map (fun d => d.parameters.length) = some 1 := by decide +kernel
theorem hd_X10_hums : yX10_hums.cls ≠ "java/lang/invoke/MethodHandle" ∧ yX10_hums.cls ≠ "java/lang/invoke/VarHandle" ∧ (parseMethodDescriptor yX10_hums.desc).map (fun d => d.parameters.length) = some 2 := by decide +kernel
theorem hd_X10_plainly : yX10_plainly.cls ≠ "java/lang/invoke/MethodHandle" ∧ yX10_plainly.cls ≠ "java/lang/invoke/VarHandle" ∧ (parseMethodDescriptor yX10_plainly.desc).map (fun d => d.parameters.length) = some 1 := by decide +kernel
theorem hd_X10_goesOf : yX10_goesOf.cls ≠ "java/lang/invoke/MethodHandle" ∧ yX10_goesOf.cls ≠ "java/lang/invoke/VarHandle" ∧ (parseMethodDescriptor yX10_goesOf.desc).map (fun d => d.parameters.length) = some 1 := by decide +kernel
theorem hd_X10_goes : yX10_goes.cls ≠ "java/lang/invoke/MethodHandle" ∧ yX10_goes.cls ≠ "java/lang/invoke/VarHandle" ∧ (parseMethodDescriptor yX10_goes.desc).map (fun d => d.parameters.length) = some 0 := by decide +kernel
theorem hd_X10_warmth : yX10_warmth.cls ≠ "java/lang/invoke/MethodHandle" ∧ yX10_warmth.cls ≠ "java/lang/invoke/VarHandle" ∧ (parseMethodDescriptor yX10_warmth.desc).map (fun d => d.parameters.length) = some 1 := by decide +kernel
theorem hd_X10_noise : yX10_noise.cls ≠ "java/lang/invoke/MethodHandle" ∧ yX10_noise.cls ≠ "java/lang/invoke/VarHandle" ∧ (parseMethodDescriptor yX10_noise.desc).map (fun d => d.parameters.length) = some 4 := by decide +kernel
theorem hd_X10_of : yX10_of.cls ≠ "java/lang/invoke/MethodHandle" ∧ yX10_of.cls ≠ "java/lang/invoke/VarHandle" ∧ (parseMethodDescriptor yX10_of.desc).map (fun d => d.parameters.length) = some 2 := by decide +kernel
theorem hd_X10_still : yX10_still.cls ≠ "java/lang/invoke/MethodHandle" ∧ yX10_still.cls ≠ "java/lang/invoke/VarHandle" ∧ (parseMethodDescriptor yX10_still.desc).map (fun d => d.parameters.length) = some 2 := by decide +kernel
theorem hd_X10_isStill : yX10_isStill.cls ≠ "java/lang/invoke/MethodHandle" ∧ yX10_isStill.cls ≠ "java/lang/invoke/VarHandle" ∧ (parseMethodDescriptor yX10_isStill.desc).map (fun d => d.parameters.length) = some 1 := by decide +kernel
theorem hd_X10_knocks : yX10_knocks.cls ≠ "java/lang/invoke/MethodHandle" ∧ yX10_knocks.cls ≠ "java/lang/invoke/VarHandle" ∧ (parseMethodDescriptor yX10_knocks.desc).map (fun d => d.parameters.length) = some 3 := by decide +kernel
theorem hd_X10_isStruck : yX10_isStruck.cls ≠ "java/lang/invoke/MethodHandle" ∧ yX10_isStruck.cls ≠ "java/lang/invoke/VarHandle" ∧ (parseMethodDescriptor yX10_isStruck.desc).map (fun d => d.parameters.length) = some 1 := by decide +kernel
theorem hd_X10_loudOf : yX10_loudOf.cls ≠ "java/lang/invoke/MethodHandle" ∧ yX10_loudOf.cls ≠ "java/lang/invoke/VarHandle" ∧ (parseMethodDescriptor yX10_loudOf.desc).map (fun d => d.parameters.length) = some 3 := by decide +kernel
theorem hd_X10_loud : yX10_loud.cls ≠ "java/lang/invoke/MethodHandle" ∧ yX10_loud.cls ≠ "java/lang/invoke/VarHandle" ∧ (parseMethodDescriptor yX10_loud.desc).map (fun d => d.parameters.length) = some 3 := by decide +kernel
theorem hd_X10_moving : yX10_moving.cls ≠ "java/lang/invoke/MethodHandle" ∧ yX10_moving.cls ≠ "java/lang/invoke/VarHandle" ∧ (parseMethodDescriptor yX10_moving.desc).map (fun d => d.parameters.length) = some 0 := by decide +kernel
theorem hd_X10_heardOf : yX10_heardOf.cls ≠ "java/lang/invoke/MethodHandle" ∧ yX10_heardOf.cls ≠ "java/lang/invoke/VarHandle" ∧ (parseMethodDescriptor yX10_heardOf.desc).map (fun d => d.parameters.length) = some 3 := by decide +kernel
theorem hd_X10_heardAll : yX10_heardAll.cls ≠ "java/lang/invoke/MethodHandle" ∧ yX10_heardAll.cls ≠ "java/lang/invoke/VarHandle" ∧ (parseMethodDescriptor yX10_heardAll.desc).map (fun d => d.parameters.length) = some 2 := by decide +kernel
theorem hd_X10_heard : yX10_heard.cls ≠ "java/lang/invoke/MethodHandle" ∧ yX10_heard.cls ≠ "java/lang/invoke/VarHandle" ∧ (parseMethodDescriptor yX10_heard.desc).map (fun d => d.parameters.length) = some 2 := by decide +kernel
theorem hd_X10_seems : yX10_seems.cls ≠ "java/lang/invoke/MethodHandle" ∧ yX10_seems.cls ≠ "java/lang/invoke/VarHandle" ∧ (parseMethodDescriptor yX10_seems.desc).map (fun d => d.parameters.length) = some 1 := by decide +kernel
theorem hd_X10_note : yX10_note.cls ≠ "java/lang/invoke/MethodHandle" ∧ yX10_note.cls ≠ "java/lang/invoke/VarHandle" ∧ (parseMethodDescriptor yX10_note.desc).map (fun d => d.parameters.length) = some 3 := by decide +kernel
theorem hd_X10_clear : yX10_clear.cls ≠ "java/lang/invoke/MethodHandle" ∧ yX10_clear.cls ≠ "java/lang/invoke/VarHandle" ∧ (parseMethodDescriptor yX10_clear.desc).map (fun d => d.parameters.length) = some 0 := by decide +kernel
theorem hd_X10_fitsOf : yX10_fitsOf.cls ≠ "java/lang/invoke/MethodHandle" ∧ yX10_fitsOf.cls ≠ "java/lang/invoke/VarHandle" ∧ (parseMethodDescriptor yX10_fitsOf.desc).map (fun d => d.parameters.length) = some 1 := by decide +kernel
theorem hd_X10_count1 : yX10_count1.cls ≠ "java/lang/invoke/MethodHandle" ∧ yX10_count1.cls ≠ "java/lang/invoke/VarHandle" ∧ (parseMethodDescriptor yX10_count1.desc).map (fun d => d.parameters.length) = some 1 := by decide +kernel
theorem hd_X10_fits : yX10_fits.cls ≠ "java/lang/invoke/MethodHandle" ∧ yX10_fits.cls ≠ "java/lang/invoke/VarHandle" ∧ (parseMethodDescriptor yX10_fits.desc).map (fun d => d.parameters.length) = some 1 := by decide +kernel
theorem hd_X10_divisor : yX10_divisor.cls ≠ "java/lang/invoke/MethodHandle" ∧ yX10_divisor.cls ≠ "java/lang/invoke/VarHandle" ∧ (parseMethodDescriptor yX10_divisor.desc).map (fun d => d.parameters.length) = some 2 := by decide +kernel
theorem hd_X10_odds : yX10_odds.cls ≠ "java/lang/invoke/MethodHandle" ∧ yX10_odds.cls ≠ "java/lang/invoke/VarHandle" ∧ (parseMethodDescriptor yX10_odds.desc).map (fun d => d.parameters.length) = some 2 := by decide +kernel
theorem hd_X10_mostFitting : yX10_mostFitting.cls ≠ "java/lang/invoke/MethodHandle" ∧ yX10_mostFitting.cls ≠ "java/lang/invoke/VarHandle" ∧ (parseMethodDescriptor yX10_mostFitting.desc).map (fun d => d.parameters.length) = some 0 := by decide +kernel
theorem hd_X10_allFitting : yX10_allFitting.cls ≠ "java/lang/invoke/MethodHandle" ∧ yX10_allFitting.cls ≠ "java/lang/invoke/VarHandle" ∧ (parseMethodDescriptor yX10_allFitting.desc).map (fun d => d.parameters.length) = some 0 := by decide +kernel
theorem hd_X10_harmOf : yX10_harmOf.cls ≠ "java/lang/invoke/MethodHandle" ∧ yX10_harmOf.cls ≠ "java/lang/invoke/VarHandle" ∧ (parseMethodDescriptor yX10_harmOf.desc).map (fun d => d.parameters.length) = some 1 := by decide +kernel
theorem hd_X10_worst : yX10_worst.cls ≠ "java/lang/invoke/MethodHandle" ∧ yX10_worst.cls ≠ "java/lang/invoke/VarHandle" ∧ (parseMethodDescriptor yX10_worst.desc).map (fun d => d.parameters.length) = some 0 := by decide +kernel
theorem hd_X10_which : yX10_which.cls ≠ "java/lang/invoke/MethodHandle" ∧ yX10_which.cls ≠ "java/lang/invoke/VarHandle" ∧ (parseMethodDescriptor yX10_which.desc).map (fun d => d.parameters.length) = some 1 := by decide +kernel
theorem hd_X10_next : yX10_next.cls ≠ "java/lang/invoke/MethodHandle" ∧ yX10_next.cls ≠ "java/lang/invoke/VarHandle" ∧ (parseMethodDescriptor yX10_next.desc).map (fun d => d.parameters.length) = some 0 := by decide +kernel
theorem hd_X10_least : yX10_least.cls ≠ "java/lang/invoke/MethodHandle" ∧ yX10_least.cls ≠ "java/lang/invoke/VarHandle" ∧ (parseMethodDescriptor yX10_least.desc).map (fun d => d.parameters.length) = some 2 := by decide +kernel
theorem hd_X10_eased : yX10_eased.cls ≠ "java/lang/invoke/MethodHandle" ∧ yX10_eased.cls ≠ "java/lang/invoke/VarHandle" ∧ (parseMethodDescriptor yX10_eased.desc).map (fun d => d.parameters.length) = some 2 := by decide +kernel
theorem hd_X10_parted : yX10_parted.cls ≠ "java/lang/invoke/MethodHandle" ∧ yX10_parted.cls ≠ "java/lang/invoke/VarHandle" ∧ (parseMethodDescriptor yX10_parted.desc).map (fun d => d.parameters.length) = some 2 := by decide +kernel
theorem hd_X10_quiet : yX10_quiet.cls ≠ "java/lang/invoke/MethodHandle" ∧ yX10_quiet.cls ≠ "java/lang/invoke/VarHandle" ∧ (parseMethodDescriptor yX10_quiet.desc).map (fun d => d.parameters.length) = some 1 := by decide +kernel
theorem hd_X10_moved : yX10_moved.cls ≠ "java/lang/invoke/MethodHandle" ∧ yX10_moved.cls ≠ "java/lang/invoke/VarHandle" ∧ (parseMethodDescriptor yX10_moved.desc).map (fun d => d.parameters.length) = some 2 := by decide +kernel
theorem hd_X10_older : yX10_older.cls ≠ "java/lang/invoke/MethodHandle" ∧ yX10_older.cls ≠ "java/lang/invoke/VarHandle" ∧ (parseMethodDescriptor yX10_older.desc).map (fun d => d.parameters.length) = some 0 := by decide +kernel
theorem hd_X10_harm : yX10_harm.cls ≠ "java/lang/invoke/MethodHandle" ∧ yX10_harm.cls ≠ "java/lang/invoke/VarHandle" ∧ (parseMethodDescriptor yX10_harm.desc).map (fun d => d.parameters.length) = some 1 := by decide +kernel
theorem hd_X10_runs : yX10_runs.cls ≠ "java/lang/invoke/MethodHandle" ∧ yX10_runs.cls ≠ "java/lang/invoke/VarHandle" ∧ (parseMethodDescriptor yX10_runs.desc).map (fun d => d.parameters.length) = some 1 := by decide +kernel
theorem hd_X10_isUnder : yX10_isUnder.cls ≠ "java/lang/invoke/MethodHandle" ∧ yX10_isUnder.cls ≠ "java/lang/invoke/VarHandle" ∧ (parseMethodDescriptor yX10_isUnder.desc).map (fun d => d.parameters.length) = some 2 := by decide +kernel
theorem hd_X10_plainGrows : yX10_plainGrows.cls ≠ "java/lang/invoke/MethodHandle" ∧ yX10_plainGrows.cls ≠ "java/lang/invoke/VarHandle" ∧ (parseMethodDescriptor yX10_plainGrows.desc).map (fun d => d.parameters.length) = some 1 := by decide +kernel
theorem hd_X10_growsActs : yX10_growsActs.cls ≠ "java/lang/invoke/MethodHandle" ∧ yX10_growsActs.cls ≠ "java/lang/invoke/VarHandle" ∧ (parseMethodDescriptor yX10_growsActs.desc).map (fun d => d.parameters.length) = some 1 := by decide +kernel
theorem hd_X10_plainStrikes : yX10_plainStrikes.cls ≠ "java/lang/invoke/MethodHandle" ∧ yX10_plainStrikes.cls ≠ "java/lang/invoke/VarHandle" ∧ (parseMethodDescriptor yX10_plainStrikes.desc).map (fun d => d.parameters.length) = some 1 := by decide +kernel
theorem hd_X10_strikesActs : yX10_strikesActs.cls ≠ "java/lang/invoke/MethodHandle" ∧ yX10_strikesActs.cls ≠ "java/lang/invoke/VarHandle" ∧ (parseMethodDescriptor yX10_strikesActs.desc).map (fun d => d.parameters.length) = some 1 := by decide +kernel
theorem hd_X10_plainTells : yX10_plainTells.cls ≠ "java/lang/invoke/MethodHandle" ∧ yX10_plainTells.cls ≠ "java/lang/invoke/VarHandle" ∧ (parseMethodDescriptor yX10_plainTells.desc).map (fun d => d.parameters.length) = some 1 := by decide +kernel
theorem hd_X10_tellsActs : yX10_tellsActs.cls ≠ "java/lang/invoke/MethodHandle" ∧ yX10_tellsActs.cls ≠ "java/lang/invoke/VarHandle" ∧ (parseMethodDescriptor yX10_tellsActs.desc).map (fun d => d.parameters.length) = some 1 := by decide +kernel
theorem hd_X10_act : yX10_act.cls ≠ "java/lang/invoke/MethodHandle" ∧ yX10_act.cls ≠ "java/lang/invoke/VarHandle" ∧ (parseMethodDescriptor yX10_act.desc).map (fun d => d.parameters.length) = some 3 := by decide +kernel
theorem hd_X10_trace : yX10_trace.cls ≠ "java/lang/invoke/MethodHandle" ∧ yX10_trace.cls ≠ "java/lang/invoke/VarHandle" ∧ (parseMethodDescriptor yX10_trace.desc).map (fun d => d.parameters.length) = some 1 := by decide +kernel
theorem hd_X10_as : yX10_as.cls ≠ "java/lang/invoke/MethodHandle" ∧ yX10_as.cls ≠ "java/lang/invoke/VarHandle" ∧ (parseMethodDescriptor yX10_as.desc).map (fun d => d.parameters.length) = some 2 := by decide +kernel
theorem hd_X10_image : yX10_image.cls ≠ "java/lang/invoke/MethodHandle" ∧ yX10_image.cls ≠ "java/lang/invoke/VarHandle" ∧ (parseMethodDescriptor yX10_image.desc).map (fun d => d.parameters.length) = some 0 := by decide +kernel
theorem hd_X10_undo : yX10_undo.cls ≠ "java/lang/invoke/MethodHandle" ∧ yX10_undo.cls ≠ "java/lang/invoke/VarHandle" ∧ (parseMethodDescriptor yX10_undo.desc).map (fun d => d.parameters.length) = some 0 := by decide +kernel
theorem hd_X10_count : yX10_count.cls ≠ "java/lang/invoke/MethodHandle" ∧ yX10_count.cls ≠ "java/lang/invoke/VarHandle" ∧ (parseMethodDescriptor yX10_count.desc).map (fun d => d.parameters.length) = some 1 := by decide +kernel
