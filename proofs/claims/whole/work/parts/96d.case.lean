-- by program (wip/whole/gen/law.py): the law's cases
section KLC
variable {p : Program} {l : Launch} {e : Env} {s : State} {m : MethodId} {args : Array Value} {below : List Frame} {meth : Method} {c : Code} {H : Heap} {locs : List Loc} {Q : State → Prop}
variable {own : String} {ls : Array Slot} {X : kp_X} {σ τ : kp_W} {cls clsK : List kz_C} {i : Int} {b L : Nat} {xs : Nat → Int32}
set_option maxRecDepth 100000 in
set_option maxHeartbeats 4000000 in
theorem kl_c24 (C : CallFix p m c cL_law 4 s args kp_wl own) (ho : own = RL) (G : kp_GK X s.heap.size s) (hX : va_X b L xs s s.heap) (hbl : b < s.heap.size) (hL : L ≤ 320) (S : kl_S X s σ τ H locs) (hD : kz_D σ τ cls clsK) (hl : lv_has ls 4 [(0, .ref b), (1, .ref s.heap.size), (2, .ref (s.heap.size + 55)), (3, kp_iv i)]) (hi : 0 ≤ i ∧ i + 5 ≤ (L : Int)) (K : ∀ (H : Heap) (locs : List Loc) (σ τ : kp_W) (cls clsK : List kz_C), kl_S X s σ τ H locs → kz_D σ τ cls clsK → W p l e room_1 s m args below meth c H locs 600000 7302250 Q (F0 m 1122 ls [])) : W p l e room_1 s m args below meth c H locs 600000 7302250 Q (F0 m 951 ls []) := by
  subst ho
  obtain ⟨r, σ1, e1, r1, τ1, e2, hr, cls1, clsK1, hD1⟩ := s_harm hD (a := kl_x xs (i + 1)) (kl_xin xs _)
  subst hr
  refine lv_aload_n C.1 C.2.1 dL_law_951 rfl (lv_at hl 1 rfl) ?_
  refine kl_arg (pc := 952) C hX hbl hL S hl (k := 1) ⟨hi.1, by decide, by omega⟩ dL_law_952 dL_law_953 dL_law_954 dL_law_955 dL_law_956 ?_
  refine kl_cK (pc := 957) (rest := []) (As := [kp_iv (kl_x xs (i + 1))]) (dd := 6) C G S hl.1 (kc_X9_harm e1) q3_217 q3_218 q3_219 q3_220 ⟨rfl, hd_X9_harm⟩ ⟨by decide, by decide⟩ rfl rfl (by exact Nat.le_of_ble_eq_true rfl) dL_law_957 (fun H locs S => ?_)
  refine lv_aload_n C.1 C.2.1 dL_law_960 rfl (lv_at hl 2 rfl) ?_
  refine kl_arg (pc := 961) C hX hbl hL S hl (k := 1) ⟨hi.1, by decide, by omega⟩ dL_law_961 dL_law_962 dL_law_963 dL_law_964 dL_law_965 ?_
  refine kl_cM (pc := 966) (rest := [kp_iv r1]) (As := [kp_iv (kl_x xs (i + 1))]) (dd := 6) C G S hl.1 (kc_X10_harm e2) q5_157 q5_158 q5_159 q5_160 ⟨rfl, hd_X10_harm⟩ ⟨by decide, by decide⟩ rfl rfl (by exact Nat.le_of_ble_eq_true rfl) dL_law_966 (fun H locs S => ?_)
  exact lv_icmp_eq (tgt := 1122) C.1 C.2.1 dL_law_969 (by decide) (fun _ => K _ _ _ _ _ _ S hD1) (fun z => absurd rfl z)
set_option maxRecDepth 100000 in
set_option maxHeartbeats 4000000 in
theorem kl_c25 (C : CallFix p m c cL_law 4 s args kp_wl own) (ho : own = RL) (G : kp_GK X s.heap.size s) (hX : va_X b L xs s s.heap) (hbl : b < s.heap.size) (hL : L ≤ 320) (S : kl_S X s σ τ H locs) (hD : kz_D σ τ cls clsK) (hl : lv_has ls 4 [(0, .ref b), (1, .ref s.heap.size), (2, .ref (s.heap.size + 55)), (3, kp_iv i)]) (hi : 0 ≤ i ∧ i + 5 ≤ (L : Int)) (K : ∀ (H : Heap) (locs : List Loc) (σ τ : kp_W) (cls clsK : List kz_C), kl_S X s σ τ H locs → kz_D σ τ cls clsK → W p l e room_1 s m args below meth c H locs 600000 7302250 Q (F0 m 1122 ls [])) : W p l e room_1 s m args below meth c H locs 600000 7302250 Q (F0 m 974 ls []) := by
  subst ho
  obtain ⟨r, σ1, e1, r1, τ1, e2, hr, cls1, clsK1, hD1⟩ := s_act hD (a := kl_x xs (i + 1)) (b := kl_x xs (i + 2)) (c := kl_x xs (i + 3)) (kl_xin xs _) (kl_xin xs _)
  subst hr
  refine lv_aload_n C.1 C.2.1 dL_law_974 rfl (lv_at hl 1 rfl) ?_
  refine kl_arg (pc := 975) C hX hbl hL S hl (k := 1) ⟨hi.1, by decide, by omega⟩ dL_law_975 dL_law_976 dL_law_977 dL_law_978 dL_law_979 ?_
  refine kl_arg (pc := 980) C hX hbl hL S hl (k := 2) ⟨hi.1, by decide, by omega⟩ dL_law_980 dL_law_981 dL_law_982 dL_law_983 dL_law_984 ?_
  refine kl_arg (pc := 985) C hX hbl hL S hl (k := 3) ⟨hi.1, by decide, by omega⟩ dL_law_985 dL_law_986 dL_law_987 dL_law_988 dL_law_989 ?_
  refine kl_cK (pc := 990) (rest := []) (As := [kp_iv (kl_x xs (i + 1)), kp_iv (kl_x xs (i + 2)), kp_iv (kl_x xs (i + 3))]) (dd := 126) C G S hl.1 (kc_X9_act e1) q3_221 q3_222 q3_223 q3_224 ⟨rfl, hd_X9_act⟩ ⟨by decide, by decide⟩ rfl rfl (by exact Nat.le_of_ble_eq_true rfl) dL_law_990 (fun H locs S => ?_)
  refine lv_aload_n C.1 C.2.1 dL_law_993 rfl (lv_at hl 2 rfl) ?_
  refine kl_arg (pc := 994) C hX hbl hL S hl (k := 1) ⟨hi.1, by decide, by omega⟩ dL_law_994 dL_law_995 dL_law_996 dL_law_997 dL_law_998 ?_
  refine kl_arg (pc := 999) C hX hbl hL S hl (k := 2) ⟨hi.1, by decide, by omega⟩ dL_law_999 dL_law_1000 dL_law_1001 dL_law_1002 dL_law_1003 ?_
  refine kl_arg (pc := 1004) C hX hbl hL S hl (k := 3) ⟨hi.1, by decide, by omega⟩ dL_law_1004 dL_law_1005 dL_law_1006 dL_law_1007 dL_law_1008 ?_
  refine kl_cM (pc := 1009) (rest := [kp_iv r1]) (As := [kp_iv (kl_x xs (i + 1)), kp_iv (kl_x xs (i + 2)), kp_iv (kl_x xs (i + 3))]) (dd := 7) C G S hl.1 (kc_X10_act e2) q5_161 q5_162 q5_163 q5_164 ⟨rfl, hd_X10_act⟩ ⟨by decide, by decide⟩ rfl rfl (by exact Nat.le_of_ble_eq_true rfl) dL_law_1009 (fun H locs S => ?_)
  exact lv_icmp_eq (tgt := 1122) C.1 C.2.1 dL_law_1012 (by decide) (fun _ => K _ _ _ _ _ _ S hD1) (fun z => absurd rfl z)
set_option maxRecDepth 100000 in
set_option maxHeartbeats 4000000 in
theorem kl_c26 (C : CallFix p m c cL_law 4 s args kp_wl own) (ho : own = RL) (G : kp_GK X s.heap.size s) (hX : va_X b L xs s s.heap) (hbl : b < s.heap.size) (hL : L ≤ 320) (S : kl_S X s σ τ H locs) (hD : kz_D σ τ cls clsK) (hl : lv_has ls 4 [(0, .ref b), (1, .ref s.heap.size), (2, .ref (s.heap.size + 55)), (3, kp_iv i)]) (hi : 0 ≤ i ∧ i + 5 ≤ (L : Int)) (K : ∀ (H : Heap) (locs : List Loc) (σ τ : kp_W) (cls clsK : List kz_C), kl_S X s σ τ H locs → kz_D σ τ cls clsK → W p l e room_1 s m args below meth c H locs 600000 7302250 Q (F0 m 1122 ls [])) : W p l e room_1 s m args below meth c H locs 600000 7302250 Q (F0 m 1017 ls []) := by
  subst ho
  obtain ⟨r, σ1, e1, r1, τ1, e2, hr, cls1, clsK1, hD1⟩ := s_trace hD (a := kl_x xs (i + 1)) (kl_xin xs _)
  subst hr
  refine lv_aload_n C.1 C.2.1 dL_law_1017 rfl (lv_at hl 1 rfl) ?_
  refine kl_arg (pc := 1018) C hX hbl hL S hl (k := 1) ⟨hi.1, by decide, by omega⟩ dL_law_1018 dL_law_1019 dL_law_1020 dL_law_1021 dL_law_1022 ?_
  refine kl_cK (pc := 1023) (rest := []) (As := [kp_iv (kl_x xs (i + 1))]) (dd := 0) C G S hl.1 (kc_X9_trace e1) q4_2 q4_3 q4_4 q4_5 ⟨rfl, hd_X9_trace⟩ ⟨by decide, by decide⟩ rfl rfl (by exact Nat.le_of_ble_eq_true rfl) dL_law_1023 (fun H locs S => ?_)
  refine lv_aload_n C.1 C.2.1 dL_law_1026 rfl (lv_at hl 2 rfl) ?_
  refine kl_arg (pc := 1027) C hX hbl hL S hl (k := 1) ⟨hi.1, by decide, by omega⟩ dL_law_1027 dL_law_1028 dL_law_1029 dL_law_1030 dL_law_1031 ?_
  refine kl_cM (pc := 1032) (rest := [kp_iv r1]) (As := [kp_iv (kl_x xs (i + 1))]) (dd := 1) C G S hl.1 (kc_X10_trace e2) q5_196 q5_197 q5_198 q5_199 ⟨rfl, hd_X10_trace⟩ ⟨by decide, by decide⟩ rfl rfl (by exact Nat.le_of_ble_eq_true rfl) dL_law_1032 (fun H locs S => ?_)
  exact lv_icmp_eq (tgt := 1122) C.1 C.2.1 dL_law_1035 (by decide) (fun _ => K _ _ _ _ _ _ S hD1) (fun z => absurd rfl z)
set_option maxRecDepth 100000 in
set_option maxHeartbeats 4000000 in
theorem kl_c27 (C : CallFix p m c cL_law 4 s args kp_wl own) (ho : own = RL) (G : kp_GK X s.heap.size s) (hX : va_X b L xs s s.heap) (hbl : b < s.heap.size) (hL : L ≤ 320) (S : kl_S X s σ τ H locs) (hD : kz_D σ τ cls clsK) (hl : lv_has ls 4 [(0, .ref b), (1, .ref s.heap.size), (2, .ref (s.heap.size + 55)), (3, kp_iv i)]) (hi : 0 ≤ i ∧ i + 5 ≤ (L : Int)) (K : ∀ (H : Heap) (locs : List Loc) (σ τ : kp_W) (cls clsK : List kz_C), kl_S X s σ τ H locs → kz_D σ τ cls clsK → W p l e room_1 s m args below meth c H locs 600000 7302250 Q (F0 m 1122 ls [])) : W p l e room_1 s m args below meth c H locs 600000 7302250 Q (F0 m 1040 ls []) := by
  subst ho
  obtain ⟨r, σ1, e1, r1, τ1, e2, hr, cls1, clsK1, hD1⟩ := s_as hD (a := kl_x xs (i + 1)) (b := kl_x xs (i + 2)) (kl_xin xs _) (kl_xin xs _)
  subst hr
  refine lv_aload_n C.1 C.2.1 dL_law_1040 rfl (lv_at hl 1 rfl) ?_
  refine kl_arg (pc := 1041) C hX hbl hL S hl (k := 1) ⟨hi.1, by decide, by omega⟩ dL_law_1041 dL_law_1042 dL_law_1043 dL_law_1044 dL_law_1045 ?_
  refine kl_arg (pc := 1046) C hX hbl hL S hl (k := 2) ⟨hi.1, by decide, by omega⟩ dL_law_1046 dL_law_1047 dL_law_1048 dL_law_1049 dL_law_1050 ?_
  refine kl_cK (pc := 1051) (rest := []) (As := [kp_iv (kl_x xs (i + 1)), kp_iv (kl_x xs (i + 2))]) (dd := 2) C G S hl.1 (kc_X9_as e1) q4_6 q4_7 q4_8 q4_9 ⟨rfl, hd_X9_as⟩ ⟨by decide, by decide⟩ rfl rfl (by exact Nat.le_of_ble_eq_true rfl) dL_law_1051 (fun H locs S => ?_)
  refine lv_aload_n C.1 C.2.1 dL_law_1054 rfl (lv_at hl 2 rfl) ?_
  refine kl_arg (pc := 1055) C hX hbl hL S hl (k := 1) ⟨hi.1, by decide, by omega⟩ dL_law_1055 dL_law_1056 dL_law_1057 dL_law_1058 dL_law_1059 ?_
  refine kl_arg (pc := 1060) C hX hbl hL S hl (k := 2) ⟨hi.1, by decide, by omega⟩ dL_law_1060 dL_law_1061 dL_law_1062 dL_law_1063 dL_law_1064 ?_
  refine kl_cM (pc := 1065) (rest := [kp_iv r1]) (As := [kp_iv (kl_x xs (i + 1)), kp_iv (kl_x xs (i + 2))]) (dd := 2) C G S hl.1 (kc_X10_as e2) q5_200 q5_201 q5_202 q5_203 ⟨rfl, hd_X10_as⟩ ⟨by decide, by decide⟩ rfl rfl (by exact Nat.le_of_ble_eq_true rfl) dL_law_1065 (fun H locs S => ?_)
  exact lv_icmp_eq (tgt := 1122) C.1 C.2.1 dL_law_1068 (by decide) (fun _ => K _ _ _ _ _ _ S hD1) (fun z => absurd rfl z)
set_option maxRecDepth 100000 in
set_option maxHeartbeats 4000000 in
theorem kl_c28 (C : CallFix p m c cL_law 4 s args kp_wl own) (ho : own = RL) (G : kp_GK X s.heap.size s) (hX : va_X b L xs s s.heap) (hbl : b < s.heap.size) (hL : L ≤ 320) (S : kl_S X s σ τ H locs) (hD : kz_D σ τ cls clsK) (hl : lv_has ls 4 [(0, .ref b), (1, .ref s.heap.size), (2, .ref (s.heap.size + 55)), (3, kp_iv i)]) (hi : 0 ≤ i ∧ i + 5 ≤ (L : Int)) (K : ∀ (H : Heap) (locs : List Loc) (σ τ : kp_W) (cls clsK : List kz_C), kl_S X s σ τ H locs → kz_D σ τ cls clsK → W p l e room_1 s m args below meth c H locs 600000 7302250 Q (F0 m 1122 ls [])) : W p l e room_1 s m args below meth c H locs 600000 7302250 Q (F0 m 1073 ls []) := by
  subst ho
  obtain ⟨r, σ1, e1, r1, τ1, e2, hr, cls1, clsK1, hD1⟩ := s_image hD
  subst hr
  refine lv_aload_n C.1 C.2.1 dL_law_1073 rfl (lv_at hl 1 rfl) ?_
  refine kl_cK (pc := 1074) (rest := []) (As := []) (dd := 3) C G S hl.1 (kc_X9_image e1) q4_10 q4_11 q4_12 q4_13 ⟨rfl, hd_X9_image⟩ ⟨by decide, by decide⟩ rfl rfl (by exact Nat.le_of_ble_eq_true rfl) dL_law_1074 (fun H locs S => ?_)
  refine lv_aload_n C.1 C.2.1 dL_law_1077 rfl (lv_at hl 2 rfl) ?_
  refine kl_cM (pc := 1078) (rest := [kp_iv r1]) (As := []) (dd := 0) C G S hl.1 (kc_X10_image e2) q5_204 q5_205 q5_206 q5_207 ⟨rfl, hd_X10_image⟩ ⟨by decide, by decide⟩ rfl rfl (by exact Nat.le_of_ble_eq_true rfl) dL_law_1078 (fun H locs S => ?_)
  exact lv_icmp_eq (tgt := 1122) C.1 C.2.1 dL_law_1081 (by decide) (fun _ => K _ _ _ _ _ _ S hD1) (fun z => absurd rfl z)
set_option maxRecDepth 100000 in
set_option maxHeartbeats 4000000 in
theorem kl_c29 (C : CallFix p m c cL_law 4 s args kp_wl own) (ho : own = RL) (G : kp_GK X s.heap.size s) (hX : va_X b L xs s s.heap) (hbl : b < s.heap.size) (hL : L ≤ 320) (S : kl_S X s σ τ H locs) (hD : kz_D σ τ cls clsK) (hl : lv_has ls 4 [(0, .ref b), (1, .ref s.heap.size), (2, .ref (s.heap.size + 55)), (3, kp_iv i)]) (hi : 0 ≤ i ∧ i + 5 ≤ (L : Int)) (K : ∀ (H : Heap) (locs : List Loc) (σ τ : kp_W) (cls clsK : List kz_C), kl_S X s σ τ H locs → kz_D σ τ cls clsK → W p l e room_1 s m args below meth c H locs 600000 7302250 Q (F0 m 1122 ls [])) : W p l e room_1 s m args below meth c H locs 600000 7302250 Q (F0 m 1086 ls []) := by
  subst ho
  obtain ⟨r, σ1, e1, r1, τ1, e2, hr, cls1, clsK1, hD1⟩ := s_undo hD
  subst hr
  refine lv_aload_n C.1 C.2.1 dL_law_1086 rfl (lv_at hl 1 rfl) ?_
  refine kl_cK (pc := 1087) (rest := []) (As := []) (dd := 3) C G S hl.1 (kc_X9_undo e1) q4_31 q4_32 q4_33 q4_34 ⟨rfl, hd_X9_undo⟩ ⟨by decide, by decide⟩ rfl rfl (by exact Nat.le_of_ble_eq_true rfl) dL_law_1087 (fun H locs S => ?_)
  refine lv_aload_n C.1 C.2.1 dL_law_1090 rfl (lv_at hl 2 rfl) ?_
  refine kl_cM (pc := 1091) (rest := [kp_iv r1]) (As := []) (dd := 0) C G S hl.1 (kc_X10_undo e2) q5_208 q5_209 q5_210 q5_211 ⟨rfl, hd_X10_undo⟩ ⟨by decide, by decide⟩ rfl rfl (by exact Nat.le_of_ble_eq_true rfl) dL_law_1091 (fun H locs S => ?_)
  exact lv_icmp_eq (tgt := 1122) C.1 C.2.1 dL_law_1094 (by decide) (fun _ => K _ _ _ _ _ _ S hD1) (fun z => absurd rfl z)
set_option maxRecDepth 100000 in
set_option maxHeartbeats 4000000 in
theorem kl_c30 (C : CallFix p m c cL_law 4 s args kp_wl own) (ho : own = RL) (G : kp_GK X s.heap.size s) (hX : va_X b L xs s s.heap) (hbl : b < s.heap.size) (hL : L ≤ 320) (S : kl_S X s σ τ H locs) (hD : kz_D σ τ cls clsK) (hl : lv_has ls 4 [(0, .ref b), (1, .ref s.heap.size), (2, .ref (s.heap.size + 55)), (3, kp_iv i)]) (hi : 0 ≤ i ∧ i + 5 ≤ (L : Int)) (K : ∀ (H : Heap) (locs : List Loc) (σ τ : kp_W) (cls clsK : List kz_C), kl_S X s σ τ H locs → kz_D σ τ cls clsK → W p l e room_1 s m args below meth c H locs 600000 7302250 Q (F0 m 1122 ls [])) : W p l e room_1 s m args below meth c H locs 600000 7302250 Q (F0 m 1099 ls []) := by
  subst ho
  obtain ⟨r, σ1, e1, r1, τ1, e2, hr, cls1, clsK1, hD1⟩ := s_count hD (a := kl_x xs (i + 1)) (kl_xin xs _)
  subst hr
  refine lv_aload_n C.1 C.2.1 dL_law_1099 rfl (lv_at hl 1 rfl) ?_
  refine kl_arg (pc := 1100) C hX hbl hL S hl (k := 1) ⟨hi.1, by decide, by omega⟩ dL_law_1100 dL_law_1101 dL_law_1102 dL_law_1103 dL_law_1104 ?_
  refine kl_cK (pc := 1105) (rest := []) (As := [kp_iv (kl_x xs (i + 1))]) (dd := 0) C G S hl.1 (kc_X9_count e1) q4_35 q4_36 q4_37 q4_38 ⟨rfl, hd_X9_count⟩ ⟨by decide, by decide⟩ rfl rfl (by exact Nat.le_of_ble_eq_true rfl) dL_law_1105 (fun H locs S => ?_)
  refine lv_aload_n C.1 C.2.1 dL_law_1108 rfl (lv_at hl 2 rfl) ?_
  refine kl_arg (pc := 1109) C hX hbl hL S hl (k := 1) ⟨hi.1, by decide, by omega⟩ dL_law_1109 dL_law_1110 dL_law_1111 dL_law_1112 dL_law_1113 ?_
  refine kl_cM (pc := 1114) (rest := [kp_iv r1]) (As := [kp_iv (kl_x xs (i + 1))]) (dd := 0) C G S hl.1 (kc_X10_count e2) q5_212 q5_213 q5_214 q5_215 ⟨rfl, hd_X10_count⟩ ⟨by decide, by decide⟩ rfl rfl (by exact Nat.le_of_ble_eq_true rfl) dL_law_1114 (fun H locs S => ?_)
  exact lv_icmp_eq (tgt := 1122) C.1 C.2.1 dL_law_1117 (by decide) (fun _ => K _ _ _ _ _ _ S hD1) (fun z => absurd rfl z)
end KLC
