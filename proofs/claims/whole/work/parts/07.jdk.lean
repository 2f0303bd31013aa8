-- the JDK's own methods that are called: bits counted, compare, and String's length and charAt over the literals
def kp_sI (x k : Int32) : Int32 := (x.toUInt32 >>> (k.toUInt32 &&& Int32.toUInt32 31)).toInt32
def kp_b1 (x : Int32) : Int32 := x - (kp_sI x 1 &&& 1431655765)
def kp_b2 (x : Int32) : Int32 := (x &&& 858993459) + (kp_sI x 2 &&& 858993459)
def kp_b3 (x : Int32) : Int32 := (x + kp_sI x 4) &&& 252645135
def kp_b4 (x : Int32) : Int32 := x + kp_sI x 8
def kp_b5 (x : Int32) : Int32 := x + kp_sI x 16
def kp_bc (x : Int) : Int := (kp_b5 (kp_b4 (kp_b3 (kp_b2 (kp_b1 (Int32.ofInt x))))) &&& 63).toInt
def kp_sL (x : Int64) (k : Int32) : Int64 := (x.toUInt64 >>> (k.toInt64.toUInt64 &&& Int64.toUInt64 63)).toInt64
def kp_c1 (x : Int64) : Int64 := x - (kp_sL x 1 &&& 6148914691236517205)
def kp_c2 (x : Int64) : Int64 := (x &&& 3689348814741910323) + (kp_sL x 2 &&& 3689348814741910323)
def kp_c3 (x : Int64) : Int64 := (x + kp_sL x 4) &&& 1085102592571150095
def kp_c4 (x : Int64) : Int64 := x + kp_sL x 8
def kp_c5 (x : Int64) : Int64 := x + kp_sL x 16
def kp_c6 (x : Int64) : Int64 := x + kp_sL x 32
def kp_bcL (x : Int) : Int := ((kp_c6 (kp_c5 (kp_c4 (kp_c3 (kp_c2 (kp_c1 (Int64.ofInt x))))))).toInt32 &&& 127).toInt
def kp_slen (i : Nat) : Int := ((kp_len.getD i 0 : Nat) : Int)
def kp_sch (i : Nat) (k : Int) : Int := (((kp_st.getD i []).getD k.toNat 0 : Nat) : Int)
theorem hd_J6_bitCount_0f7a4 : yJ6_bitCount_0f7a4.cls ≠ "java/lang/invoke/MethodHandle" ∧ yJ6_bitCount_0f7a4.cls ≠ "java/lang/invoke/VarHandle" ∧ (parseMethodDescriptor yJ6_bitCount_0f7a4.desc).map (fun d => d.parameters.length) = some 1 := by decide +kernel
theorem hd_J13_bitCount_95d88 : yJ13_bitCount_95d88.cls ≠ "java/lang/invoke/MethodHandle" ∧ yJ13_bitCount_95d88.cls ≠ "java/lang/invoke/VarHandle" ∧ (parseMethodDescriptor yJ13_bitCount_95d88.desc).map (fun d => d.parameters.length) = some 1 := by decide +kernel
theorem hd_J0_length_8abf5 : yJ0_length_8abf5.cls ≠ "java/lang/invoke/MethodHandle" ∧ yJ0_length_8abf5.cls ≠ "java/lang/invoke/VarHandle" ∧ (parseMethodDescriptor yJ0_length_8abf5.desc).map (fun d => d.parameters.length) = some 0 := by decide +kernel
theorem hd_J0_charAt_5068e : yJ0_charAt_5068e.cls ≠ "java/lang/invoke/MethodHandle" ∧ yJ0_charAt_5068e.cls ≠ "java/lang/invoke/VarHandle" ∧ (parseMethodDescriptor yJ0_charAt_5068e.desc).map (fun d => d.parameters.length) = some 1 := by decide +kernel
theorem hd_J0_coder : yJ0_coder_7d493.cls ≠ "java/lang/invoke/MethodHandle" ∧ yJ0_coder_7d493.cls ≠ "java/lang/invoke/VarHandle" ∧ (parseMethodDescriptor yJ0_coder_7d493.desc).map (fun d => d.parameters.length) = some 0 := by decide +kernel
theorem hd_J0_isLatin1 : yJ0_isLatin1_aae02.cls ≠ "java/lang/invoke/MethodHandle" ∧ yJ0_isLatin1_aae02.cls ≠ "java/lang/invoke/VarHandle" ∧ (parseMethodDescriptor yJ0_isLatin1_aae02.desc).map (fun d => d.parameters.length) = some 0 := by decide +kernel
theorem hd_J1_charAt : yJ1_charAt_3b067.cls ≠ "java/lang/invoke/MethodHandle" ∧ yJ1_charAt_3b067.cls ≠ "java/lang/invoke/VarHandle" ∧ (parseMethodDescriptor yJ1_charAt_3b067.desc).map (fun d => d.parameters.length) = some 2 := by decide +kernel
theorem hd_J0_checkIndex : yJ0_checkIndex_df160.cls ≠ "java/lang/invoke/MethodHandle" ∧ yJ0_checkIndex_df160.cls ≠ "java/lang/invoke/VarHandle" ∧ (parseMethodDescriptor yJ0_checkIndex_df160.desc).map (fun d => d.parameters.length) = some 2 := by decide +kernel
theorem hd_J3_checkIndex : yJ3_checkIndex_8e157.cls ≠ "java/lang/invoke/MethodHandle" ∧ yJ3_checkIndex_8e157.cls ≠ "java/lang/invoke/VarHandle" ∧ (parseMethodDescriptor yJ3_checkIndex_8e157.desc).map (fun d => d.parameters.length) = some 3 := by decide +kernel
theorem pnJ6 : plainName RJ6 = true := by decide +kernel
theorem pnJ13 : plainName RJ13 = true := by decide +kernel
theorem pnJ0 : plainName RJ0 = true := by decide +kernel
theorem pnJ1 : plainName RJ1 = true := by decide +kernel
theorem pnJ3 : plainName RJ3 = true := by decide +kernel
section KPJ
variable {p : Program} {l : Launch} {e : Env} {R : Room} {s : State} {m : MethodId} {args : Array Value} {below : List Frame} {meth : Method} {c : Code} {H : Heap} {locs : List Loc} {Q : State → Prop}
variable {cc : ByteArray} {nL : Nat} {own : String} {pc : Nat} {ls : Array Slot} {rest st : List Value} {X : kp_X} {lay : Nat → kp_D} {N : Nat} {σ σ' : kp_W} {r : Int}
variable {y : MethodName} {bytes : ByteArray} {maxL index n d dd : Nat} {ret : Option FieldType} {As : List Value} {Qc : Array Value → State → Outcome → State → Prop}
theorem kp_rT {i : Nat} (C : CallFix p m c cc nL s args kp_wl own) (G : kp_G X N s) (h : kp_H X lay N s σ H locs) (hi : i < 10) (hM : kp_Met l y bytes maxL ret dd X lay N σ (.ref (kp_sK X i) :: As) Qc) (w1 : Cond.methodLink own index y ∈ kp_wl) (w2 : Cond.instanceMethod y ∈ kp_wl) (w3 : Cond.selects "java/lang/String" y y ∈ kp_wl) (w4 : Cond.initialized "java/lang/String" ∈ kp_wl) (w5 : Cond.code y bytes maxL ret ∈ kp_wl) (hd : y.cls ≠ "java/lang/invoke/MethodHandle" ∧ y.cls ≠ "java/lang/invoke/VarHandle" ∧ (parseMethodDescriptor y.desc).map (fun d => d.parameters.length) = some n) (hR : dd + 1 ≤ d ∧ maxL ≤ 41) (hn : As.length = n) (hl : ls.size = nL) (hst : st = As.reverse ++ .ref (kp_sK X i) :: rest) (hW : (rest.map fun v => v.category).sum ≤ 8) (hdg : decode cc pc = .ok (.invokevirtual index, 3)) (hy : y.cls = "java/lang/String" := by rfl) : va_Run p l e (kp_rm d) s m args below meth c H locs 0 0 0 0 (F0 m pc ls st) rest (Qc (Value.ref (kp_sK X i) :: As).toArray) (kp_A X N) := by
  refine va_runV (C := "java/lang/String") C hM (cwV n C.2.2.2.2 ?_ rfl rfl rfl ⟨hy, hd⟩ (kp_rmle hR.1 hR.2)) ⟨kp_B_blind, vk_recv G.2.2.2.1 hi h.2, fun U hU hW => ⟨rfl, kp_B_of G h hU hW⟩⟩ rfl hn hl hst (lv_room hW) hdg ⟨Nat.zero_le _, Nat.zero_le _⟩
  unfold wsV
  refine kp_gapp (fun w hw => ?_) (kp_wsy w5)
  simp only [List.mem_cons, List.not_mem_nil, or_false] at hw
  rcases hw with rfl | rfl | rfl | rfl
  · exact kp_wl_good _ w1
  · exact kp_wl_good _ w2
  · exact kp_wl_good _ w3
  · exact kp_wl_good _ w4
end KPJ
theorem kp_shr0 (x : Int32) : x >>> (0 : Int32) = x := by
  refine Int32.toBitVec_inj.mp ?_
  rw [Int32.toBitVec_shiftRight, show BitVec.smod (Int32.toBitVec 0) (32 : BitVec 32) = 0#32 from by decide]
  exact (BitVec.sshiftRight_zero : x.toBitVec.sshiftRight 0 = x.toBitVec)
section KPK
variable {l : Launch} {X : kp_X} {lay : Nat → kp_D} {N : Nat} {σ : kp_W}
set_option maxRecDepth 100000 in
theorem kc_bitCount {x : Int} : kp_Met l yJ6_bitCount_0f7a4 cJ6_bitCount_0f7a4 1 (some .int) 0 X lay N σ [kp_iv x] (kp_Qi X lay N σ (kp_bc x)) := by
  refine kp_body pnJ6 (Nat.le_of_ble_eq_true rfl) ?_
  intro p e s m args below meth c ls C hr hlk G h hl
  obtain ⟨x0, e0⟩ : ∃ x0, x0 = Int32.ofInt x := ⟨_, rfl⟩
  have hl : lv_has ls 1 [(0, .int x0)] := by rw [e0]; exact hl
  refine lv_iload_n C.1 C.2.1 dJ6_bitCount_0f7a4_0 rfl (lv_at hl 0 rfl) ?_
  refine lv_iload_n C.1 C.2.1 dJ6_bitCount_0f7a4_1 rfl (lv_at hl 0 rfl) ?_
  refine lv_iconst (v := 1) C.1 C.2.1 dJ6_bitCount_0f7a4_2 rfl ?_
  refine lv_iushr C.1 C.2.1 dJ6_bitCount_0f7a4_3 rfl ?_
  refine lv_ldcw (v := 1431655765) C.1 C.2.1 C.2.2.2.1 (C.2.2.2.2 _ q3_133) dJ6_bitCount_0f7a4_4 ?_
  refine lv_iand C.1 C.2.1 dJ6_bitCount_0f7a4_7 ?_
  refine lv_isub C.1 C.2.1 dJ6_bitCount_0f7a4_8 ?_
  refine lv_topi (fun x1 e1 => ?_)
  refine lv_istore_n (lv' := [(0, .int x1)]) C.1 C.2.1 dJ6_bitCount_0f7a4_9 rfl hl (by decide) rfl (fun ls hl => ?_)
  refine lv_iload_n C.1 C.2.1 dJ6_bitCount_0f7a4_10 rfl (lv_at hl 0 rfl) ?_
  refine lv_ldcw (v := 858993459) C.1 C.2.1 C.2.2.2.1 (C.2.2.2.2 _ q3_134) dJ6_bitCount_0f7a4_11 ?_
  refine lv_iand C.1 C.2.1 dJ6_bitCount_0f7a4_14 ?_
  refine lv_iload_n C.1 C.2.1 dJ6_bitCount_0f7a4_15 rfl (lv_at hl 0 rfl) ?_
  refine lv_iconst (v := 2) C.1 C.2.1 dJ6_bitCount_0f7a4_16 rfl ?_
  refine lv_iushr C.1 C.2.1 dJ6_bitCount_0f7a4_17 rfl ?_
  refine lv_ldcw (v := 858993459) C.1 C.2.1 C.2.2.2.1 (C.2.2.2.2 _ q3_134) dJ6_bitCount_0f7a4_18 ?_
  refine lv_iand C.1 C.2.1 dJ6_bitCount_0f7a4_21 ?_
  refine lv_iadd C.1 C.2.1 dJ6_bitCount_0f7a4_22 ?_
  refine lv_topi (fun x2 e2 => ?_)
  refine lv_istore_n (lv' := [(0, .int x2)]) C.1 C.2.1 dJ6_bitCount_0f7a4_23 rfl hl (by decide) rfl (fun ls hl => ?_)
  refine lv_iload_n C.1 C.2.1 dJ6_bitCount_0f7a4_24 rfl (lv_at hl 0 rfl) ?_
  refine lv_iload_n C.1 C.2.1 dJ6_bitCount_0f7a4_25 rfl (lv_at hl 0 rfl) ?_
  refine lv_iconst (v := 4) C.1 C.2.1 dJ6_bitCount_0f7a4_26 rfl ?_
  refine lv_iushr C.1 C.2.1 dJ6_bitCount_0f7a4_27 rfl ?_
  refine lv_iadd C.1 C.2.1 dJ6_bitCount_0f7a4_28 ?_
  refine lv_ldcw (v := 252645135) C.1 C.2.1 C.2.2.2.1 (C.2.2.2.2 _ q3_135) dJ6_bitCount_0f7a4_29 ?_
  refine lv_iand C.1 C.2.1 dJ6_bitCount_0f7a4_32 ?_
  refine lv_topi (fun x3 e3 => ?_)
  refine lv_istore_n (lv' := [(0, .int x3)]) C.1 C.2.1 dJ6_bitCount_0f7a4_33 rfl hl (by decide) rfl (fun ls hl => ?_)
  refine lv_iload_n C.1 C.2.1 dJ6_bitCount_0f7a4_34 rfl (lv_at hl 0 rfl) ?_
  refine lv_iload_n C.1 C.2.1 dJ6_bitCount_0f7a4_35 rfl (lv_at hl 0 rfl) ?_
  refine lv_bipush (v := 8) C.1 C.2.1 dJ6_bitCount_0f7a4_36 rfl ?_
  refine lv_iushr C.1 C.2.1 dJ6_bitCount_0f7a4_38 rfl ?_
  refine lv_iadd C.1 C.2.1 dJ6_bitCount_0f7a4_39 ?_
  refine lv_topi (fun x4 e4 => ?_)
  refine lv_istore_n (lv' := [(0, .int x4)]) C.1 C.2.1 dJ6_bitCount_0f7a4_40 rfl hl (by decide) rfl (fun ls hl => ?_)
  refine lv_iload_n C.1 C.2.1 dJ6_bitCount_0f7a4_41 rfl (lv_at hl 0 rfl) ?_
  refine lv_iload_n C.1 C.2.1 dJ6_bitCount_0f7a4_42 rfl (lv_at hl 0 rfl) ?_
  refine lv_bipush (v := 16) C.1 C.2.1 dJ6_bitCount_0f7a4_43 rfl ?_
  refine lv_iushr C.1 C.2.1 dJ6_bitCount_0f7a4_45 rfl ?_
  refine lv_iadd C.1 C.2.1 dJ6_bitCount_0f7a4_46 ?_
  refine lv_topi (fun x5 e5 => ?_)
  refine lv_istore_n (lv' := [(0, .int x5)]) C.1 C.2.1 dJ6_bitCount_0f7a4_47 rfl hl (by decide) rfl (fun ls hl => ?_)
  refine lv_iload_n C.1 C.2.1 dJ6_bitCount_0f7a4_48 rfl (lv_at hl 0 rfl) ?_
  refine lv_bipush (v := 63) C.1 C.2.1 dJ6_bitCount_0f7a4_49 rfl ?_
  refine lv_iand C.1 C.2.1 dJ6_bitCount_0f7a4_51 ?_
  have ev : Value.int (x5 &&& 63) = kp_iv (kp_bc x) := by
    subst e0 e1 e2 e3 e4 e5
    unfold kp_iv kp_bc
    rw [Int32.ofInt_toInt]
    rfl
  rw [ev]
  exact kp_reti C hr hlk G h dJ6_bitCount_0f7a4_52 rfl
set_option maxRecDepth 100000 in
theorem kc_bitCountL {x : Int} : kp_Met l yJ13_bitCount_95d88 cJ13_bitCount_95d88 2 (some .int) 0 X lay N σ [kp_jv x] (kp_Qi X lay N σ (kp_bcL x)) := by
  refine kp_body pnJ13 (Nat.le_of_ble_eq_true rfl) ?_
  intro p e s m args below meth c ls C hr hlk G h hl
  obtain ⟨x0, e0⟩ : ∃ x0, x0 = Int64.ofInt x := ⟨_, rfl⟩
  have hl : lv_has ls 2 [(0, .long x0)] := by rw [e0]; exact hl
  refine lv_lload_n C.1 C.2.1 dJ13_bitCount_95d88_0 rfl (lv_at hl 0 rfl) ?_
  refine lv_lload_n C.1 C.2.1 dJ13_bitCount_95d88_1 rfl (lv_at hl 0 rfl) ?_
  refine lv_iconst (v := 1) C.1 C.2.1 dJ13_bitCount_95d88_2 rfl ?_
  refine lv_lushr C.1 C.2.1 dJ13_bitCount_95d88_3 rfl ?_
  refine lv_ldc2 (v := 6148914691236517205) C.1 C.2.1 C.2.2.2.1 (C.2.2.2.2 _ q2_45) dJ13_bitCount_95d88_4 ?_
  refine lv_land C.1 C.2.1 dJ13_bitCount_95d88_7 ?_
  refine lv_lsub C.1 C.2.1 dJ13_bitCount_95d88_8 ?_
  refine lv_topl (fun x1 e1 => ?_)
  refine lv_lstore_n (lv' := [(0, .long x1)]) C.1 C.2.1 dJ13_bitCount_95d88_9 rfl hl (by decide) rfl (fun ls hl => ?_)
  refine lv_lload_n C.1 C.2.1 dJ13_bitCount_95d88_10 rfl (lv_at hl 0 rfl) ?_
  refine lv_ldc2 (v := 3689348814741910323) C.1 C.2.1 C.2.2.2.1 (C.2.2.2.2 _ q2_46) dJ13_bitCount_95d88_11 ?_
  refine lv_land C.1 C.2.1 dJ13_bitCount_95d88_14 ?_
  refine lv_lload_n C.1 C.2.1 dJ13_bitCount_95d88_15 rfl (lv_at hl 0 rfl) ?_
  refine lv_iconst (v := 2) C.1 C.2.1 dJ13_bitCount_95d88_16 rfl ?_
  refine lv_lushr C.1 C.2.1 dJ13_bitCount_95d88_17 rfl ?_
  refine lv_ldc2 (v := 3689348814741910323) C.1 C.2.1 C.2.2.2.1 (C.2.2.2.2 _ q2_46) dJ13_bitCount_95d88_18 ?_
  refine lv_land C.1 C.2.1 dJ13_bitCount_95d88_21 ?_
  refine lv_ladd C.1 C.2.1 dJ13_bitCount_95d88_22 ?_
  refine lv_topl (fun x2 e2 => ?_)
  refine lv_lstore_n (lv' := [(0, .long x2)]) C.1 C.2.1 dJ13_bitCount_95d88_23 rfl hl (by decide) rfl (fun ls hl => ?_)
  refine lv_lload_n C.1 C.2.1 dJ13_bitCount_95d88_24 rfl (lv_at hl 0 rfl) ?_
  refine lv_lload_n C.1 C.2.1 dJ13_bitCount_95d88_25 rfl (lv_at hl 0 rfl) ?_
  refine lv_iconst (v := 4) C.1 C.2.1 dJ13_bitCount_95d88_26 rfl ?_
  refine lv_lushr C.1 C.2.1 dJ13_bitCount_95d88_27 rfl ?_
  refine lv_ladd C.1 C.2.1 dJ13_bitCount_95d88_28 ?_
  refine lv_ldc2 (v := 1085102592571150095) C.1 C.2.1 C.2.2.2.1 (C.2.2.2.2 _ q2_47) dJ13_bitCount_95d88_29 ?_
  refine lv_land C.1 C.2.1 dJ13_bitCount_95d88_32 ?_
  refine lv_topl (fun x3 e3 => ?_)
  refine lv_lstore_n (lv' := [(0, .long x3)]) C.1 C.2.1 dJ13_bitCount_95d88_33 rfl hl (by decide) rfl (fun ls hl => ?_)
  refine lv_lload_n C.1 C.2.1 dJ13_bitCount_95d88_34 rfl (lv_at hl 0 rfl) ?_
  refine lv_lload_n C.1 C.2.1 dJ13_bitCount_95d88_35 rfl (lv_at hl 0 rfl) ?_
  refine lv_bipush (v := 8) C.1 C.2.1 dJ13_bitCount_95d88_36 rfl ?_
  refine lv_lushr C.1 C.2.1 dJ13_bitCount_95d88_38 rfl ?_
  refine lv_ladd C.1 C.2.1 dJ13_bitCount_95d88_39 ?_
  refine lv_topl (fun x4 e4 => ?_)
  refine lv_lstore_n (lv' := [(0, .long x4)]) C.1 C.2.1 dJ13_bitCount_95d88_40 rfl hl (by decide) rfl (fun ls hl => ?_)
  refine lv_lload_n C.1 C.2.1 dJ13_bitCount_95d88_41 rfl (lv_at hl 0 rfl) ?_
  refine lv_lload_n C.1 C.2.1 dJ13_bitCount_95d88_42 rfl (lv_at hl 0 rfl) ?_
  refine lv_bipush (v := 16) C.1 C.2.1 dJ13_bitCount_95d88_43 rfl ?_
  refine lv_lushr C.1 C.2.1 dJ13_bitCount_95d88_45 rfl ?_
  refine lv_ladd C.1 C.2.1 dJ13_bitCount_95d88_46 ?_
  refine lv_topl (fun x5 e5 => ?_)
  refine lv_lstore_n (lv' := [(0, .long x5)]) C.1 C.2.1 dJ13_bitCount_95d88_47 rfl hl (by decide) rfl (fun ls hl => ?_)
  refine lv_lload_n C.1 C.2.1 dJ13_bitCount_95d88_48 rfl (lv_at hl 0 rfl) ?_
  refine lv_lload_n C.1 C.2.1 dJ13_bitCount_95d88_49 rfl (lv_at hl 0 rfl) ?_
  refine lv_bipush (v := 32) C.1 C.2.1 dJ13_bitCount_95d88_50 rfl ?_
  refine lv_lushr C.1 C.2.1 dJ13_bitCount_95d88_52 rfl ?_
  refine lv_ladd C.1 C.2.1 dJ13_bitCount_95d88_53 ?_
  refine lv_topl (fun x6 e6 => ?_)
  refine lv_lstore_n (lv' := [(0, .long x6)]) C.1 C.2.1 dJ13_bitCount_95d88_54 rfl hl (by decide) rfl (fun ls hl => ?_)
  refine lv_lload_n C.1 C.2.1 dJ13_bitCount_95d88_55 rfl (lv_at hl 0 rfl) ?_
  refine lv_l2i C.1 C.2.1 dJ13_bitCount_95d88_56 rfl ?_
  refine lv_bipush (v := 127) C.1 C.2.1 dJ13_bitCount_95d88_57 rfl ?_
  refine lv_iand C.1 C.2.1 dJ13_bitCount_95d88_59 ?_
  have ev : Value.int (x6.toInt32 &&& 127) = kp_iv (kp_bcL x) := by
    subst e0 e1 e2 e3 e4 e5 e6
    unfold kp_iv kp_bcL
    rw [Int32.ofInt_toInt]
    rfl
  rw [ev]
  exact kp_reti C hr hlk G h dJ13_bitCount_95d88_60 rfl
theorem kc_coder {i : Nat} (hi : i < 10) : kp_Met l yJ0_coder_7d493 cJ0_coder_7d493 1 (some .byte) 0 X lay N σ [.ref (kp_sK X i)] (kp_Qi X lay N σ 0) := by
  refine kp_body pnJ0 (Nat.le_of_ble_eq_true rfl) ?_
  intro p e s m args below meth c ls C hr hlk G h hl
  have hl : lv_has ls 1 [(0, .ref (kp_sK X i))] := hl
  have hS := (G.2.2.2.1.1 i hi).2.1
  have hZ := G.2.2.2.2.1
  refine va_gets C.1 C.2.1 hZ h.2 C.2.2.2.1 (C.2.2.2.2 _ q2_87) (fun _ z => z) dJ0_coder_7d493_0 ?_
  refine lv_if_eq (tgt := 13) C.1 C.2.1 dJ0_coder_7d493_3 (by decide) (fun z => absurd z (by decide)) (fun _ => ?_)
  refine lv_aload_n C.1 C.2.1 dJ0_coder_7d493_6 rfl (lv_at hl 0 rfl) ?_
  refine vk_getf C.1 C.2.1 hS h.2 C.2.2.2.1 (C.2.2.2.2 _ q5_217) (fun _ z => z) dJ0_coder_7d493_7 ?_
  refine lv_goto (tgt := 14) C.1 C.2.1 dJ0_coder_7d493_10 (by decide) ?_
  exact W.zret C.1 C.2.1 hr rfl (fun t ht hW => ⟨⟨_, (), rfl, rfl, (kp_hq G h t ht hW).1⟩, (kp_hq G h t ht hW).2⟩) h.2.2.2 dJ0_coder_7d493_14 hlk
theorem kc_isLatin1 {i : Nat} (hi : i < 10) : kp_Met l yJ0_isLatin1_aae02 cJ0_isLatin1_aae02 1 (some .boolean) 0 X lay N σ [.ref (kp_sK X i)] (kp_Qi X lay N σ 1) := by
  refine kp_body pnJ0 (Nat.le_of_ble_eq_true rfl) ?_
  intro p e s m args below meth c ls C hr hlk G h hl
  have hl : lv_has ls 1 [(0, .ref (kp_sK X i))] := hl
  have hS := (G.2.2.2.1.1 i hi).2.1
  have hZ := G.2.2.2.2.1
  refine va_gets C.1 C.2.1 hZ h.2 C.2.2.2.1 (C.2.2.2.2 _ q2_87) (fun _ z => z) dJ0_isLatin1_aae02_0 ?_
  refine lv_if_eq (tgt := 17) C.1 C.2.1 dJ0_isLatin1_aae02_3 (by decide) (fun z => absurd z (by decide)) (fun _ => ?_)
  refine lv_aload_n C.1 C.2.1 dJ0_isLatin1_aae02_6 rfl (lv_at hl 0 rfl) ?_
  refine vk_getf C.1 C.2.1 hS h.2 C.2.2.2.1 (C.2.2.2.2 _ q5_217) (fun _ z => z) dJ0_isLatin1_aae02_7 ?_
  refine lv_if_ne (tgt := 17) C.1 C.2.1 dJ0_isLatin1_aae02_10 (by decide) (fun z => absurd rfl z) (fun _ => ?_)
  refine kp_iconst C dJ0_isLatin1_aae02_13 ?_
  refine kp_goto (tgt := 18) C dJ0_isLatin1_aae02_14 (by decide) ?_
  exact W.zret C.1 C.2.1 hr rfl (fun t ht hW => ⟨⟨_, (), rfl, rfl, (kp_hq G h t ht hW).1⟩, (kp_hq G h t ht hW).2⟩) h.2.2.2 dJ0_isLatin1_aae02_18 hlk
theorem kc_chk3N {k n : Int} (hk : 0 ≤ k ∧ k < n) (hn : n ≤ 2147483647) : kp_Met l yJ3_checkIndex_8e157 cJ3_checkIndex_8e157 3 (some .int) 0 X lay N σ [kp_iv k, kp_iv n, .null] (kp_Qi X lay N σ k) := by
  refine kp_body pnJ3 (Nat.le_of_ble_eq_true rfl) ?_
  intro p e s m args below meth c ls C hr hlk G h hl
  have hl : lv_has ls 3 [(0, kp_iv k), (1, kp_iv n), (2, .null)] := hl
  have ik : kp_in k := ⟨by omega, by omega⟩
  have iN : kp_in n := ⟨by omega, by omega⟩
  refine kp_iload_n C dJ3_checkIndex_8e157_0 rfl (lv_at hl 0 rfl) ?_
  refine lv_if_lt (tgt := 9) C.1 C.2.1 dJ3_checkIndex_8e157_1 (by decide) (fun z => absurd z (kp_nn k ik hk.1)) (fun _ => ?_)
  refine kp_iload_n C dJ3_checkIndex_8e157_4 rfl (lv_at hl 0 rfl) ?_
  refine kp_iload_n C dJ3_checkIndex_8e157_5 rfl (lv_at hl 1 rfl) ?_
  refine lv_icmp_lt (tgt := 16) C.1 C.2.1 dJ3_checkIndex_8e157_6 (by decide) (fun _ => ?_) (fun z => absurd ((kp_lt_i ik iN).mpr hk.2) z)
  refine kp_iload_n C dJ3_checkIndex_8e157_16 rfl (lv_at hl 0 rfl) ?_
  exact kp_reti C hr hlk G h dJ3_checkIndex_8e157_17 rfl
theorem kc_chk3R {k n : Int} {t : Nat} (hk : 0 ≤ k ∧ k < n) (hn : n ≤ 2147483647) : kp_Met l yJ3_checkIndex_8e157 cJ3_checkIndex_8e157 3 (some .int) 0 X lay N σ [kp_iv k, kp_iv n, .ref t] (kp_Qi X lay N σ k) := by
  refine kp_body pnJ3 (Nat.le_of_ble_eq_true rfl) ?_
  intro p e s m args below meth c ls C hr hlk G h hl
  have hl : lv_has ls 3 [(0, kp_iv k), (1, kp_iv n), (2, .ref t)] := hl
  have ik : kp_in k := ⟨by omega, by omega⟩
  have iN : kp_in n := ⟨by omega, by omega⟩
  refine kp_iload_n C dJ3_checkIndex_8e157_0 rfl (lv_at hl 0 rfl) ?_
  refine lv_if_lt (tgt := 9) C.1 C.2.1 dJ3_checkIndex_8e157_1 (by decide) (fun z => absurd z (kp_nn k ik hk.1)) (fun _ => ?_)
  refine kp_iload_n C dJ3_checkIndex_8e157_4 rfl (lv_at hl 0 rfl) ?_
  refine kp_iload_n C dJ3_checkIndex_8e157_5 rfl (lv_at hl 1 rfl) ?_
  refine lv_icmp_lt (tgt := 16) C.1 C.2.1 dJ3_checkIndex_8e157_6 (by decide) (fun _ => ?_) (fun z => absurd ((kp_lt_i ik iN).mpr hk.2) z)
  refine kp_iload_n C dJ3_checkIndex_8e157_16 rfl (lv_at hl 0 rfl) ?_
  exact kp_reti C hr hlk G h dJ3_checkIndex_8e157_17 rfl
theorem kc_chk0 {k n : Int} (hk : 0 ≤ k ∧ k < n) (hn : n ≤ 2147483647) : kp_Met l yJ0_checkIndex_df160 cJ0_checkIndex_df160 2 none 1 X lay N σ [kp_iv k, kp_iv n] (kp_Qv X lay N σ) := by
  refine kp_body pnJ0 (Nat.le_of_ble_eq_true rfl) ?_
  intro p e s m args below meth c ls C hr hlk G h hl
  have hl : lv_has ls 2 [(0, kp_iv k), (1, kp_iv n)] := hl
  have hZ := G.2.2.2.2.2.1
  refine kp_iload_n C dJ0_checkIndex_df160_0 rfl (lv_at hl 0 rfl) ?_
  refine kp_iload_n C dJ0_checkIndex_df160_1 rfl (lv_at hl 1 rfl) ?_
  rcases hZ with hZ | ⟨t, hZ⟩
  · refine va_gets C.1 C.2.1 hZ h.2 C.2.2.2.1 (C.2.2.2.2 _ q2_95) (fun _ z => z) dJ0_checkIndex_df160_2 ?_
    refine kp_ci h (kp_rS (rest := []) C G h (kc_chk3N hk hn) q2_97 q2_98 q1_15 q2_99 hd_J3_checkIndex ⟨Nat.le_refl _, by decide⟩ rfl hl.1 rfl (by decide) dJ0_checkIndex_df160_5) (fun H1 locs1 h => ?_)
    refine lv_pop C.1 C.2.1 dJ0_checkIndex_df160_8 rfl ?_
    exact W.vret C.1 C.2.1 hr (fun t ht hW => ⟨⟨(), rfl, trivial, (kp_hq G h t ht hW).1⟩, (kp_hq G h t ht hW).2⟩) h.2.2.2 dJ0_checkIndex_df160_9 hlk
  · refine va_gets C.1 C.2.1 hZ h.2 C.2.2.2.1 (C.2.2.2.2 _ q2_95) (fun _ z => z) dJ0_checkIndex_df160_2 ?_
    refine kp_ci h (kp_rS (rest := []) C G h (kc_chk3R hk hn) q2_97 q2_98 q1_15 q2_99 hd_J3_checkIndex ⟨Nat.le_refl _, by decide⟩ rfl hl.1 rfl (by decide) dJ0_checkIndex_df160_5) (fun H1 locs1 h => ?_)
    refine lv_pop C.1 C.2.1 dJ0_checkIndex_df160_8 rfl ?_
    exact W.vret C.1 C.2.1 hr (fun t ht hW => ⟨⟨(), rfl, trivial, (kp_hq G h t ht hW).1⟩, (kp_hq G h t ht hW).2⟩) h.2.2.2 dJ0_checkIndex_df160_9 hlk
theorem kp_chf : ∀ i, i < 10 → ∀ k, k < kp_len.getD i 0 → ((((kp_byt.getD i []).getD k 0) &&& 255).toUInt32 % 65536).toInt32 = Int32.ofInt (((kp_st.getD i []).getD k 0 : Nat) : Int) ∧ (Int32.ofInt (((kp_st.getD i []).getD k 0 : Nat) : Int)).toUInt32.toUInt16.toUInt32.toInt32 = Int32.ofInt (((kp_st.getD i []).getD k 0 : Nat) : Int) := by decide +kernel
theorem kp_len31 : ∀ i, i < 10 → kp_len.getD i 0 ≤ 35 := by decide +kernel
theorem kc_charAt1 {i : Nat} {k : Int} (hi : i < 10) (hk : 0 ≤ k ∧ k < kp_slen i) : kp_Met l yJ1_charAt_3b067 cJ1_charAt_3b067 2 (some .char) 2 X lay N σ [.ref (kp_sV X i), kp_iv k] (kp_Qi X lay N σ (kp_sch i k)) := by
  refine kp_body pnJ1 (Nat.le_of_ble_eq_true rfl) ?_
  intro p e s m args below meth c ls C hr hlk G h hl
  have hl : lv_has ls 2 [(0, .ref (kp_sV X i)), (1, kp_iv k)] := hl
  have hT := (G.2.2.2.1.1 i hi).2.2.2
  have h35 : kp_slen i ≤ 35 := by
    have := kp_len31 i hi
    unfold kp_slen
    omega
  have hN : (kp_slen i).toNat = kp_len.getD i 0 := Int.toNat_natCast _
  have ekn : k.toNat < kp_len.getD i 0 := by omega
  have hf := kp_chf i hi k.toNat ekn
  refine kp_iload_n C dJ1_charAt_3b067_0 rfl (lv_at hl 1 rfl) ?_
  refine lv_aload_n C.1 C.2.1 dJ1_charAt_3b067_1 rfl (lv_at hl 0 rfl) ?_
  refine va_tlen C.1 C.2.1 hT h.2 (v := Int32.ofInt (kp_slen i)) (by unfold kp_slen; exact (Int32.ofInt_eq_ofNat).symm) dJ1_charAt_3b067_2 ?_
  refine kp_cv h (kp_rS (rest := []) (As := [kp_iv k, kp_iv (kp_slen i)]) C G h (kc_chk0 hk (by omega)) q2_92 q2_93 q1_13 q2_94 hd_J0_checkIndex ⟨Nat.le_refl _, by decide⟩ rfl hl.1 rfl (by decide) dJ1_charAt_3b067_3) (fun H1 locs1 h => ?_)
  refine lv_aload_n C.1 C.2.1 dJ1_charAt_3b067_6 rfl (lv_at hl 0 rfl) ?_
  refine kp_iload_n C dJ1_charAt_3b067_7 rfl (lv_at hl 1 rfl) ?_
  refine va_tb C.1 C.2.1 hT h.2 (i := Int32.ofInt k) (v := .int ((kp_byt.getD i []).getD k.toNat 0)) (by rw [← hN]; exact kp_vin hk (by omega)) (by rw [kp_clx hk (by omega)]) dJ1_charAt_3b067_8 ?_
  refine lv_sipush (v := 255) C.1 C.2.1 dJ1_charAt_3b067_9 rfl ?_
  refine lv_iand C.1 C.2.1 dJ1_charAt_3b067_12 ?_
  refine lv_i2c (v := Int32.ofInt (kp_sch i k)) C.1 C.2.1 dJ1_charAt_3b067_13 hf.1 ?_
  exact W.zret C.1 C.2.1 hr (congrArg Value.int hf.2) (fun t ht hW => ⟨⟨_, (), rfl, rfl, (kp_hq G h t ht hW).1⟩, (kp_hq G h t ht hW).2⟩) h.2.2.2 dJ1_charAt_3b067_14 hlk
theorem kc_length {i : Nat} (hi : i < 10) : kp_Met l yJ0_length_8abf5 cJ0_length_8abf5 1 (some .int) 1 X lay N σ [.ref (kp_sK X i)] (kp_Qi X lay N σ (kp_slen i)) := by
  refine kp_body pnJ0 (Nat.le_of_ble_eq_true rfl) ?_
  intro p e s m args below meth c ls C hr hlk G h hl
  have hl : lv_has ls 1 [(0, .ref (kp_sK X i))] := hl
  have hV := (G.2.2.2.1.1 i hi).2.2.1
  have hT := (G.2.2.2.1.1 i hi).2.2.2
  refine lv_aload_n C.1 C.2.1 dJ0_length_8abf5_0 rfl (lv_at hl 0 rfl) ?_
  refine vk_getf C.1 C.2.1 hV h.2 C.2.2.2.1 (C.2.2.2.2 _ q5_218) (fun _ z => z) dJ0_length_8abf5_1 ?_
  refine va_tlen C.1 C.2.1 hT h.2 (v := Int32.ofInt (kp_slen i)) (by unfold kp_slen; exact (Int32.ofInt_eq_ofNat).symm) dJ0_length_8abf5_4 ?_
  refine lv_aload_n C.1 C.2.1 dJ0_length_8abf5_5 rfl (lv_at hl 0 rfl) ?_
  refine kp_ci h (kp_rT (As := []) (rest := [kp_iv (kp_slen i)]) C G h hi (kc_coder hi) q2_152 q2_153 q2_154 q1_13 q2_155 hd_J0_coder ⟨Nat.le_refl _, by decide⟩ rfl hl.1 rfl (by exact Nat.le_of_ble_eq_true rfl) dJ0_length_8abf5_6) (fun H1 locs1 h => ?_)
  refine lv_ishr C.1 C.2.1 dJ0_length_8abf5_9 ?_
  have ev : Value.int (Int32.ofInt (kp_slen i) >>> (Int32.ofInt 0 &&& 31)) = kp_iv (kp_slen i) := by
    unfold kp_iv
    rw [show (Int32.ofInt 0 &&& 31 : Int32) = 0 from by decide, kp_shr0]
  rw [ev]
  exact kp_reti C hr hlk G h dJ0_length_8abf5_10 rfl
theorem kc_charAt {i : Nat} {k : Int} (hi : i < 10) (hk : 0 ≤ k ∧ k < kp_slen i) : kp_Met l yJ0_charAt_5068e cJ0_charAt_5068e 2 (some .char) 4 X lay N σ [.ref (kp_sK X i), kp_iv k] (kp_Qi X lay N σ (kp_sch i k)) := by
  refine kp_body pnJ0 (Nat.le_of_ble_eq_true rfl) ?_
  intro p e s m args below meth c ls C hr hlk G h hl
  have hl : lv_has ls 2 [(0, .ref (kp_sK X i)), (1, kp_iv k)] := hl
  have hV := (G.2.2.2.1.1 i hi).2.2.1
  have h35 : kp_slen i ≤ 35 := by
    have := kp_len31 i hi
    unfold kp_slen
    omega
  have hf := kp_chf i hi k.toNat (by unfold kp_slen at hk; omega)
  refine lv_aload_n C.1 C.2.1 dJ0_charAt_5068e_0 rfl (lv_at hl 0 rfl) ?_
  refine kp_ci h (kp_rT (As := []) (rest := []) C G h hi (kc_isLatin1 hi) q2_83 q2_84 q2_85 q1_13 q2_86 hd_J0_isLatin1 ⟨by decide, by decide⟩ rfl hl.1 rfl (by decide) dJ0_charAt_5068e_1) (fun H1 locs1 h => ?_)
  refine lv_if_eq (tgt := 16) C.1 C.2.1 dJ0_charAt_5068e_4 (by decide) (fun z => absurd z (by decide)) (fun _ => ?_)
  refine lv_aload_n C.1 C.2.1 dJ0_charAt_5068e_7 rfl (lv_at hl 0 rfl) ?_
  refine vk_getf C.1 C.2.1 hV h.2 C.2.2.2.1 (C.2.2.2.2 _ q5_218) (fun _ z => z) dJ0_charAt_5068e_8 ?_
  refine kp_iload_n C dJ0_charAt_5068e_11 rfl (lv_at hl 1 rfl) ?_
  refine kp_ci h (kp_rS (rest := []) (As := [.ref (kp_sV X i), kp_iv k]) C G h (kc_charAt1 hi hk) q2_89 q2_90 q1_14 q2_91 hd_J1_charAt ⟨by decide, by decide⟩ rfl hl.1 rfl (by decide) dJ0_charAt_5068e_12) (fun H1 locs1 h => ?_)
  exact W.zret C.1 C.2.1 hr (congrArg Value.int hf.2) (fun t ht hW => ⟨⟨_, (), rfl, rfl, (kp_hq G h t ht hW).1⟩, (kp_hq G h t ht hW).2⟩) h.2.2.2 dJ0_charAt_5068e_15 hlk
end KPK
