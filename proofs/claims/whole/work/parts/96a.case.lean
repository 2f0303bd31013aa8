-- by program (wip/whole/gen/law.py): the law's cases
section KLC
variable {p : Program} {l : Launch} {e : Env} {s : State} {m : MethodId} {args : Array Value} {below : List Frame} {meth : Method} {c : Code} {H : Heap} {locs : List Loc} {Q : State → Prop}
variable {own : String} {ls : Array Slot} {X : kp_X} {σ τ : kp_W} {cls clsK : List kz_C} {i : Int} {b L : Nat} {xs : Nat → Int32}
set_option maxRecDepth 100000 in
set_option maxHeartbeats 4000000 in
theorem kl_c0 (C : CallFix p m c cL_law 4 s args kp_wl own) (ho : own = RL) (G : kp_GK X s.heap.size s) (hX : va_X b L xs s s.heap) (hbl : b < s.heap.size) (hL : L ≤ 320) (S : kl_S X s σ τ H locs) (hD : kz_D σ τ cls clsK) (hl : lv_has ls 4 [(0, .ref b), (1, .ref s.heap.size), (2, .ref (s.heap.size + 55)), (3, kp_iv i)]) (hi : 0 ≤ i ∧ i + 5 ≤ (L : Int)) (K : ∀ (H : Heap) (locs : List Loc) (σ τ : kp_W) (cls clsK : List kz_C), kl_S X s σ τ H locs → kz_D σ τ cls clsK → W p l e room_1 s m args below meth c H locs 600000 7302250 Q (F0 m 1122 ls [])) : W p l e room_1 s m args below meth c H locs 600000 7302250 Q (F0 m 172 ls []) := by
  subst ho
  obtain ⟨r, σ1, e1, r1, τ1, e2, hr, cls1, clsK1, hD1⟩ := s_day hD (w := kl_x xs (i + 1)) (v := kl_J (kl_x xs (i + 2)) (kl_x xs (i + 3))) (kl_xin xs _) (kl_Jin _ _)
  subst hr
  refine lv_aload_n C.1 C.2.1 dL_law_172 rfl (lv_at hl 1 rfl) ?_
  refine kl_arg (pc := 173) C hX hbl hL S hl (k := 1) ⟨hi.1, by decide, by omega⟩ dL_law_173 dL_law_174 dL_law_175 dL_law_176 dL_law_177 ?_
  refine kl_arg (pc := 178) C hX hbl hL S hl (k := 2) ⟨hi.1, by decide, by omega⟩ dL_law_178 dL_law_179 dL_law_180 dL_law_181 dL_law_182 ?_
  refine kl_argJ (pc := 183) C dL_law_183 dL_law_184 dL_law_186 ?_
  refine kl_arg (pc := 187) C hX hbl hL S hl (k := 3) ⟨hi.1, by decide, by omega⟩ dL_law_187 dL_law_188 dL_law_189 dL_law_190 dL_law_191 ?_
  refine kl_argK (pc := 192) C q5_216 dL_law_192 dL_law_193 dL_law_196 dL_law_197 ?_
  refine kl_cK (pc := 198) (rest := []) (As := [kp_iv (kl_x xs (i + 1)), kp_jv (kl_J (kl_x xs (i + 2)) (kl_x xs (i + 3)))]) (dd := 1) C G S hl.1 (kc_X9_day e1) q2_37 q2_38 q2_39 q2_40 ⟨rfl, hd_X9_day⟩ ⟨by decide, by decide⟩ rfl rfl (by exact Nat.le_of_ble_eq_true rfl) dL_law_198 (fun H locs S => ?_)
  refine lv_aload_n C.1 C.2.1 dL_law_201 rfl (lv_at hl 2 rfl) ?_
  refine kl_arg (pc := 202) C hX hbl hL S hl (k := 1) ⟨hi.1, by decide, by omega⟩ dL_law_202 dL_law_203 dL_law_204 dL_law_205 dL_law_206 ?_
  refine kl_arg (pc := 207) C hX hbl hL S hl (k := 2) ⟨hi.1, by decide, by omega⟩ dL_law_207 dL_law_208 dL_law_209 dL_law_210 dL_law_211 ?_
  refine kl_argJ (pc := 212) C dL_law_212 dL_law_213 dL_law_215 ?_
  refine kl_arg (pc := 216) C hX hbl hL S hl (k := 3) ⟨hi.1, by decide, by omega⟩ dL_law_216 dL_law_217 dL_law_218 dL_law_219 dL_law_220 ?_
  refine kl_argK (pc := 221) C q5_216 dL_law_221 dL_law_222 dL_law_225 dL_law_226 ?_
  refine kl_cM (pc := 227) (rest := [kp_iv r1]) (As := [kp_iv (kl_x xs (i + 1)), kp_jv (kl_J (kl_x xs (i + 2)) (kl_x xs (i + 3)))]) (dd := 1) C G S hl.1 (kc_X10_day e2) q4_124 q4_125 q4_126 q4_127 ⟨rfl, hd_X10_day⟩ ⟨by decide, by decide⟩ rfl rfl (by exact Nat.le_of_ble_eq_true rfl) dL_law_227 (fun H locs S => ?_)
  exact lv_icmp_eq (tgt := 1122) C.1 C.2.1 dL_law_230 (by decide) (fun _ => K _ _ _ _ _ _ S hD1) (fun z => absurd rfl z)
set_option maxRecDepth 100000 in
set_option maxHeartbeats 4000000 in
theorem kl_c1 (C : CallFix p m c cL_law 4 s args kp_wl own) (ho : own = RL) (G : kp_GK X s.heap.size s) (hX : va_X b L xs s s.heap) (hbl : b < s.heap.size) (hL : L ≤ 320) (S : kl_S X s σ τ H locs) (hD : kz_D σ τ cls clsK) (hl : lv_has ls 4 [(0, .ref b), (1, .ref s.heap.size), (2, .ref (s.heap.size + 55)), (3, kp_iv i)]) (hi : 0 ≤ i ∧ i + 5 ≤ (L : Int)) (K : ∀ (H : Heap) (locs : List Loc) (σ τ : kp_W) (cls clsK : List kz_C), kl_S X s σ τ H locs → kz_D σ τ cls clsK → W p l e room_1 s m args below meth c H locs 600000 7302250 Q (F0 m 1122 ls [])) : W p l e room_1 s m args below meth c H locs 600000 7302250 Q (F0 m 235 ls []) := by
  subst ho
  obtain ⟨r, σ1, e1, r1, τ1, e2, hr, cls1, clsK1, hD1⟩ := s_feed hD (v := kl_J (kl_x xs (i + 1)) (kl_x xs (i + 2))) (n := kl_x xs (i + 3)) (kl_Jin _ _) (kl_xin xs _)
  subst hr
  refine lv_aload_n C.1 C.2.1 dL_law_235 rfl (lv_at hl 1 rfl) ?_
  refine kl_arg (pc := 236) C hX hbl hL S hl (k := 1) ⟨hi.1, by decide, by omega⟩ dL_law_236 dL_law_237 dL_law_238 dL_law_239 dL_law_240 ?_
  refine kl_argJ (pc := 241) C dL_law_241 dL_law_242 dL_law_244 ?_
  refine kl_arg (pc := 245) C hX hbl hL S hl (k := 2) ⟨hi.1, by decide, by omega⟩ dL_law_245 dL_law_246 dL_law_247 dL_law_248 dL_law_249 ?_
  refine kl_argK (pc := 250) C q5_216 dL_law_250 dL_law_251 dL_law_254 dL_law_255 ?_
  refine kl_arg (pc := 256) C hX hbl hL S hl (k := 3) ⟨hi.1, by decide, by omega⟩ dL_law_256 dL_law_257 dL_law_258 dL_law_259 dL_law_260 ?_
  refine kl_cK (pc := 261) (rest := []) (As := [kp_jv (kl_J (kl_x xs (i + 1)) (kl_x xs (i + 2))), kp_iv (kl_x xs (i + 3))]) (dd := 1) C G S hl.1 (kc_X9_feed e1) q2_48 q2_49 q2_50 q2_51 ⟨rfl, hd_X9_feed⟩ ⟨by decide, by decide⟩ rfl rfl (by exact Nat.le_of_ble_eq_true rfl) dL_law_261 (fun H locs S => ?_)
  refine lv_aload_n C.1 C.2.1 dL_law_264 rfl (lv_at hl 2 rfl) ?_
  refine kl_arg (pc := 265) C hX hbl hL S hl (k := 1) ⟨hi.1, by decide, by omega⟩ dL_law_265 dL_law_266 dL_law_267 dL_law_268 dL_law_269 ?_
  refine kl_argJ (pc := 270) C dL_law_270 dL_law_271 dL_law_273 ?_
  refine kl_arg (pc := 274) C hX hbl hL S hl (k := 2) ⟨hi.1, by decide, by omega⟩ dL_law_274 dL_law_275 dL_law_276 dL_law_277 dL_law_278 ?_
  refine kl_argK (pc := 279) C q5_216 dL_law_279 dL_law_280 dL_law_283 dL_law_284 ?_
  refine kl_arg (pc := 285) C hX hbl hL S hl (k := 3) ⟨hi.1, by decide, by omega⟩ dL_law_285 dL_law_286 dL_law_287 dL_law_288 dL_law_289 ?_
  refine kl_cM (pc := 290) (rest := [kp_iv r1]) (As := [kp_jv (kl_J (kl_x xs (i + 1)) (kl_x xs (i + 2))), kp_iv (kl_x xs (i + 3))]) (dd := 1) C G S hl.1 (kc_X10_feed e2) q4_132 q4_133 q4_134 q4_135 ⟨rfl, hd_X10_feed⟩ ⟨by decide, by decide⟩ rfl rfl (by exact Nat.le_of_ble_eq_true rfl) dL_law_290 (fun H locs S => ?_)
  exact lv_icmp_eq (tgt := 1122) C.1 C.2.1 dL_law_293 (by decide) (fun _ => K _ _ _ _ _ _ S hD1) (fun z => absurd rfl z)
set_option maxRecDepth 100000 in
set_option maxHeartbeats 4000000 in
theorem kl_c2 (C : CallFix p m c cL_law 4 s args kp_wl own) (ho : own = RL) (G : kp_GK X s.heap.size s) (hX : va_X b L xs s s.heap) (hbl : b < s.heap.size) (hL : L ≤ 320) (S : kl_S X s σ τ H locs) (hD : kz_D σ τ cls clsK) (hl : lv_has ls 4 [(0, .ref b), (1, .ref s.heap.size), (2, .ref (s.heap.size + 55)), (3, kp_iv i)]) (hi : 0 ≤ i ∧ i + 5 ≤ (L : Int)) (K : ∀ (H : Heap) (locs : List Loc) (σ τ : kp_W) (cls clsK : List kz_C), kl_S X s σ τ H locs → kz_D σ τ cls clsK → W p l e room_1 s m args below meth c H locs 600000 7302250 Q (F0 m 1122 ls [])) : W p l e room_1 s m args below meth c H locs 600000 7302250 Q (F0 m 298 ls []) := by
  subst ho
  obtain ⟨r, σ1, e1, r1, τ1, e2, hr, cls1, clsK1, hD1⟩ := s_house hD
  subst hr
  refine lv_aload_n C.1 C.2.1 dL_law_298 rfl (lv_at hl 1 rfl) ?_
  refine kl_cK (pc := 299) (rest := []) (As := []) (dd := 53) C G S hl.1 (kc_X9_house e1) q2_56 q2_57 q2_58 q2_59 ⟨rfl, hd_X9_house⟩ ⟨by decide, by decide⟩ rfl rfl (by exact Nat.le_of_ble_eq_true rfl) dL_law_299 (fun H locs S => ?_)
  refine lv_aload_n C.1 C.2.1 dL_law_302 rfl (lv_at hl 2 rfl) ?_
  refine kl_cM (pc := 303) (rest := [kp_iv r1]) (As := []) (dd := 53) C G S hl.1 (kc_X10_house e2) q4_137 q4_138 q4_139 q4_140 ⟨rfl, hd_X10_house⟩ ⟨by decide, by decide⟩ rfl rfl (by exact Nat.le_of_ble_eq_true rfl) dL_law_303 (fun H locs S => ?_)
  exact lv_icmp_eq (tgt := 1122) C.1 C.2.1 dL_law_306 (by decide) (fun _ => K _ _ _ _ _ _ S hD1) (fun z => absurd rfl z)
set_option maxRecDepth 100000 in
set_option maxHeartbeats 4000000 in
theorem kl_c3 (C : CallFix p m c cL_law 4 s args kp_wl own) (ho : own = RL) (G : kp_GK X s.heap.size s) (hX : va_X b L xs s s.heap) (hbl : b < s.heap.size) (hL : L ≤ 320) (S : kl_S X s σ τ H locs) (hD : kz_D σ τ cls clsK) (hl : lv_has ls 4 [(0, .ref b), (1, .ref s.heap.size), (2, .ref (s.heap.size + 55)), (3, kp_iv i)]) (hi : 0 ≤ i ∧ i + 5 ≤ (L : Int)) (K : ∀ (H : Heap) (locs : List Loc) (σ τ : kp_W) (cls clsK : List kz_C), kl_S X s σ τ H locs → kz_D σ τ cls clsK → W p l e room_1 s m args below meth c H locs 600000 7302250 Q (F0 m 1122 ls [])) : W p l e room_1 s m args below meth c H locs 600000 7302250 Q (F0 m 311 ls []) := by
  subst ho
  obtain ⟨r, σ1, e1, r1, τ1, e2, hr, cls1, clsK1, hD1⟩ := s_told hD (a := kl_x xs (i + 1)) (kl_xin xs _)
  subst hr
  refine lv_aload_n C.1 C.2.1 dL_law_311 rfl (lv_at hl 1 rfl) ?_
  refine kl_arg (pc := 312) C hX hbl hL S hl (k := 1) ⟨hi.1, by decide, by omega⟩ dL_law_312 dL_law_313 dL_law_314 dL_law_315 dL_law_316 ?_
  refine kl_cK (pc := 317) (rest := []) (As := [kp_iv (kl_x xs (i + 1))]) (dd := 0) C G S hl.1 (kc_X9_told e1) q2_173 q2_174 q2_175 q2_176 ⟨rfl, hd_X9_told⟩ ⟨by decide, by decide⟩ rfl rfl (by exact Nat.le_of_ble_eq_true rfl) dL_law_317 (fun H locs S => ?_)
  refine lv_aload_n C.1 C.2.1 dL_law_320 rfl (lv_at hl 2 rfl) ?_
  refine kl_arg (pc := 321) C hX hbl hL S hl (k := 1) ⟨hi.1, by decide, by omega⟩ dL_law_321 dL_law_322 dL_law_323 dL_law_324 dL_law_325 ?_
  refine kl_cM (pc := 326) (rest := [kp_iv r1]) (As := [kp_iv (kl_x xs (i + 1))]) (dd := 1) C G S hl.1 (kc_X10_told e2) q4_204 q4_205 q4_206 q4_207 ⟨rfl, hd_X10_told⟩ ⟨by decide, by decide⟩ rfl rfl (by exact Nat.le_of_ble_eq_true rfl) dL_law_326 (fun H locs S => ?_)
  exact lv_icmp_eq (tgt := 1122) C.1 C.2.1 dL_law_329 (by decide) (fun _ => K _ _ _ _ _ _ S hD1) (fun z => absurd rfl z)
set_option maxRecDepth 100000 in
set_option maxHeartbeats 4000000 in
theorem kl_c4 (C : CallFix p m c cL_law 4 s args kp_wl own) (ho : own = RL) (G : kp_GK X s.heap.size s) (hX : va_X b L xs s s.heap) (hbl : b < s.heap.size) (hL : L ≤ 320) (S : kl_S X s σ τ H locs) (hD : kz_D σ τ cls clsK) (hl : lv_has ls 4 [(0, .ref b), (1, .ref s.heap.size), (2, .ref (s.heap.size + 55)), (3, kp_iv i)]) (hi : 0 ≤ i ∧ i + 5 ≤ (L : Int)) (K : ∀ (H : Heap) (locs : List Loc) (σ τ : kp_W) (cls clsK : List kz_C), kl_S X s σ τ H locs → kz_D σ τ cls clsK → W p l e room_1 s m args below meth c H locs 600000 7302250 Q (F0 m 1122 ls [])) : W p l e room_1 s m args below meth c H locs 600000 7302250 Q (F0 m 334 ls []) := by
  subst ho
  obtain ⟨r, σ1, e1, r1, τ1, e2, hr, cls1, clsK1, hD1⟩ := s_warmth hD (a := kl_x xs (i + 1)) (kl_xin xs _)
  subst hr
  refine lv_aload_n C.1 C.2.1 dL_law_334 rfl (lv_at hl 1 rfl) ?_
  refine kl_arg (pc := 335) C hX hbl hL S hl (k := 1) ⟨hi.1, by decide, by omega⟩ dL_law_335 dL_law_336 dL_law_337 dL_law_338 dL_law_339 ?_
  refine kl_cK (pc := 340) (rest := []) (As := [kp_iv (kl_x xs (i + 1))]) (dd := 6) C G S hl.1 (kc_X9_warmth e1) q2_177 q2_178 q2_179 q2_180 ⟨rfl, hd_X9_warmth⟩ ⟨by decide, by decide⟩ rfl rfl (by exact Nat.le_of_ble_eq_true rfl) dL_law_340 (fun H locs S => ?_)
  refine lv_aload_n C.1 C.2.1 dL_law_343 rfl (lv_at hl 2 rfl) ?_
  refine kl_arg (pc := 344) C hX hbl hL S hl (k := 1) ⟨hi.1, by decide, by omega⟩ dL_law_344 dL_law_345 dL_law_346 dL_law_347 dL_law_348 ?_
  refine kl_cM (pc := 349) (rest := [kp_iv r1]) (As := [kp_iv (kl_x xs (i + 1))]) (dd := 3) C G S hl.1 (kc_X10_warmth e2) q4_212 q4_213 q4_214 q4_215 ⟨rfl, hd_X10_warmth⟩ ⟨by decide, by decide⟩ rfl rfl (by exact Nat.le_of_ble_eq_true rfl) dL_law_349 (fun H locs S => ?_)
  exact lv_icmp_eq (tgt := 1122) C.1 C.2.1 dL_law_352 (by decide) (fun _ => K _ _ _ _ _ _ S hD1) (fun z => absurd rfl z)
set_option maxRecDepth 100000 in
set_option maxHeartbeats 4000000 in
theorem kl_c5 (C : CallFix p m c cL_law 4 s args kp_wl own) (ho : own = RL) (G : kp_GK X s.heap.size s) (hX : va_X b L xs s s.heap) (hbl : b < s.heap.size) (hL : L ≤ 320) (S : kl_S X s σ τ H locs) (hD : kz_D σ τ cls clsK) (hl : lv_has ls 4 [(0, .ref b), (1, .ref s.heap.size), (2, .ref (s.heap.size + 55)), (3, kp_iv i)]) (hi : 0 ≤ i ∧ i + 5 ≤ (L : Int)) (K : ∀ (H : Heap) (locs : List Loc) (σ τ : kp_W) (cls clsK : List kz_C), kl_S X s σ τ H locs → kz_D σ τ cls clsK → W p l e room_1 s m args below meth c H locs 600000 7302250 Q (F0 m 1122 ls [])) : W p l e room_1 s m args below meth c H locs 600000 7302250 Q (F0 m 357 ls []) := by
  subst ho
  obtain ⟨r, σ1, e1, r1, τ1, e2, hr, cls1, clsK1, hD1⟩ := s_noise hD (a := kl_x xs (i + 1)) (b := kl_x xs (i + 2)) (c := kl_x xs (i + 3)) (d := kl_x xs (i + 4)) (kl_xin xs _) (kl_xin xs _) (kl_xin xs _) (kl_xin xs _)
  subst hr
  refine lv_aload_n C.1 C.2.1 dL_law_357 rfl (lv_at hl 1 rfl) ?_
  refine kl_arg (pc := 358) C hX hbl hL S hl (k := 1) ⟨hi.1, by decide, by omega⟩ dL_law_358 dL_law_359 dL_law_360 dL_law_361 dL_law_362 ?_
  refine kl_arg (pc := 363) C hX hbl hL S hl (k := 2) ⟨hi.1, by decide, by omega⟩ dL_law_363 dL_law_364 dL_law_365 dL_law_366 dL_law_367 ?_
  refine kl_arg (pc := 368) C hX hbl hL S hl (k := 3) ⟨hi.1, by decide, by omega⟩ dL_law_368 dL_law_369 dL_law_370 dL_law_371 dL_law_372 ?_
  refine kl_arg (pc := 373) C hX hbl hL S hl (k := 4) ⟨hi.1, by decide, by omega⟩ dL_law_373 dL_law_374 dL_law_375 dL_law_376 dL_law_377 ?_
  refine kl_cK (pc := 378) (rest := []) (As := [kp_iv (kl_x xs (i + 1)), kp_iv (kl_x xs (i + 2)), kp_iv (kl_x xs (i + 3)), kp_iv (kl_x xs (i + 4))]) (dd := 1) C G S hl.1 (kc_X9_noise e1) q3_26 q3_27 q3_28 q3_29 ⟨rfl, hd_X9_noise⟩ ⟨by decide, by decide⟩ rfl rfl (by exact Nat.le_of_ble_eq_true rfl) dL_law_378 (fun H locs S => ?_)
  refine lv_aload_n C.1 C.2.1 dL_law_381 rfl (lv_at hl 2 rfl) ?_
  refine kl_arg (pc := 382) C hX hbl hL S hl (k := 1) ⟨hi.1, by decide, by omega⟩ dL_law_382 dL_law_383 dL_law_384 dL_law_385 dL_law_386 ?_
  refine kl_arg (pc := 387) C hX hbl hL S hl (k := 2) ⟨hi.1, by decide, by omega⟩ dL_law_387 dL_law_388 dL_law_389 dL_law_390 dL_law_391 ?_
  refine kl_arg (pc := 392) C hX hbl hL S hl (k := 3) ⟨hi.1, by decide, by omega⟩ dL_law_392 dL_law_393 dL_law_394 dL_law_395 dL_law_396 ?_
  refine kl_arg (pc := 397) C hX hbl hL S hl (k := 4) ⟨hi.1, by decide, by omega⟩ dL_law_397 dL_law_398 dL_law_399 dL_law_400 dL_law_401 ?_
  refine kl_cM (pc := 402) (rest := [kp_iv r1]) (As := [kp_iv (kl_x xs (i + 1)), kp_iv (kl_x xs (i + 2)), kp_iv (kl_x xs (i + 3)), kp_iv (kl_x xs (i + 4))]) (dd := 2) C G S hl.1 (kc_X10_noise e2) q4_228 q4_229 q4_230 q4_231 ⟨rfl, hd_X10_noise⟩ ⟨by decide, by decide⟩ rfl rfl (by exact Nat.le_of_ble_eq_true rfl) dL_law_402 (fun H locs S => ?_)
  exact lv_icmp_eq (tgt := 1122) C.1 C.2.1 dL_law_405 (by decide) (fun _ => K _ _ _ _ _ _ S hD1) (fun z => absurd rfl z)
set_option maxRecDepth 100000 in
set_option maxHeartbeats 4000000 in
theorem kl_c6 (C : CallFix p m c cL_law 4 s args kp_wl own) (ho : own = RL) (G : kp_GK X s.heap.size s) (hX : va_X b L xs s s.heap) (hbl : b < s.heap.size) (hL : L ≤ 320) (S : kl_S X s σ τ H locs) (hD : kz_D σ τ cls clsK) (hl : lv_has ls 4 [(0, .ref b), (1, .ref s.heap.size), (2, .ref (s.heap.size + 55)), (3, kp_iv i)]) (hi : 0 ≤ i ∧ i + 5 ≤ (L : Int)) (K : ∀ (H : Heap) (locs : List Loc) (σ τ : kp_W) (cls clsK : List kz_C), kl_S X s σ τ H locs → kz_D σ τ cls clsK → W p l e room_1 s m args below meth c H locs 600000 7302250 Q (F0 m 1122 ls [])) : W p l e room_1 s m args below meth c H locs 600000 7302250 Q (F0 m 410 ls []) := by
  subst ho
  obtain ⟨r, σ1, e1, r1, τ1, e2, hr, cls1, clsK1, hD1⟩ := s_of hD (a := kl_x xs (i + 1)) (b := kl_x xs (i + 2)) (kl_xin xs _) (kl_xin xs _)
  subst hr
  refine lv_aload_n C.1 C.2.1 dL_law_410 rfl (lv_at hl 1 rfl) ?_
  refine kl_arg (pc := 411) C hX hbl hL S hl (k := 1) ⟨hi.1, by decide, by omega⟩ dL_law_411 dL_law_412 dL_law_413 dL_law_414 dL_law_415 ?_
  refine kl_arg (pc := 416) C hX hbl hL S hl (k := 2) ⟨hi.1, by decide, by omega⟩ dL_law_416 dL_law_417 dL_law_418 dL_law_419 dL_law_420 ?_
  refine kl_cK (pc := 421) (rest := []) (As := [kp_iv (kl_x xs (i + 1)), kp_iv (kl_x xs (i + 2))]) (dd := 1) C G S hl.1 (kc_X9_of e1) q3_40 q3_41 q3_42 q3_43 ⟨rfl, hd_X9_of⟩ ⟨by decide, by decide⟩ rfl rfl (by exact Nat.le_of_ble_eq_true rfl) dL_law_421 (fun H locs S => ?_)
  refine lv_aload_n C.1 C.2.1 dL_law_424 rfl (lv_at hl 2 rfl) ?_
  refine kl_arg (pc := 425) C hX hbl hL S hl (k := 1) ⟨hi.1, by decide, by omega⟩ dL_law_425 dL_law_426 dL_law_427 dL_law_428 dL_law_429 ?_
  refine kl_arg (pc := 430) C hX hbl hL S hl (k := 2) ⟨hi.1, by decide, by omega⟩ dL_law_430 dL_law_431 dL_law_432 dL_law_433 dL_law_434 ?_
  refine kl_cM (pc := 435) (rest := [kp_iv r1]) (As := [kp_iv (kl_x xs (i + 1)), kp_iv (kl_x xs (i + 2))]) (dd := 2) C G S hl.1 (kc_X10_of e2) q4_235 q4_236 q4_237 q4_238 ⟨rfl, hd_X10_of⟩ ⟨by decide, by decide⟩ rfl rfl (by exact Nat.le_of_ble_eq_true rfl) dL_law_435 (fun H locs S => ?_)
  exact lv_icmp_eq (tgt := 1122) C.1 C.2.1 dL_law_438 (by decide) (fun _ => K _ _ _ _ _ _ S hD1) (fun z => absurd rfl z)
set_option maxRecDepth 100000 in
set_option maxHeartbeats 4000000 in
theorem kl_c7 (C : CallFix p m c cL_law 4 s args kp_wl own) (ho : own = RL) (G : kp_GK X s.heap.size s) (hX : va_X b L xs s s.heap) (hbl : b < s.heap.size) (hL : L ≤ 320) (S : kl_S X s σ τ H locs) (hD : kz_D σ τ cls clsK) (hl : lv_has ls 4 [(0, .ref b), (1, .ref s.heap.size), (2, .ref (s.heap.size + 55)), (3, kp_iv i)]) (hi : 0 ≤ i ∧ i + 5 ≤ (L : Int)) (K : ∀ (H : Heap) (locs : List Loc) (σ τ : kp_W) (cls clsK : List kz_C), kl_S X s σ τ H locs → kz_D σ τ cls clsK → W p l e room_1 s m args below meth c H locs 600000 7302250 Q (F0 m 1122 ls [])) : W p l e room_1 s m args below meth c H locs 600000 7302250 Q (F0 m 443 ls []) := by
  subst ho
  obtain ⟨r, σ1, e1, r1, τ1, e2, hr, cls1, clsK1, hD1⟩ := s_still hD (a := kl_x xs (i + 1)) (b := kl_z (kl_x xs (i + 2))) (kl_xin xs _) (kl_zin _)
  subst hr
  refine lv_aload_n C.1 C.2.1 dL_law_443 rfl (lv_at hl 1 rfl) ?_
  refine kl_arg (pc := 444) C hX hbl hL S hl (k := 1) ⟨hi.1, by decide, by omega⟩ dL_law_444 dL_law_445 dL_law_446 dL_law_447 dL_law_448 ?_
  refine kl_arg (pc := 449) C hX hbl hL S hl (k := 2) ⟨hi.1, by decide, by omega⟩ dL_law_449 dL_law_450 dL_law_451 dL_law_452 dL_law_453 ?_
  refine kl_bool (pc := 454) C (kl_xin xs _) dL_law_454 dL_law_457 dL_law_458 dL_law_461 ?_
  refine kl_cK (pc := 462) (rest := []) (As := [kp_iv (kl_x xs (i + 1)), kp_iv (kl_z (kl_x xs (i + 2)))]) (dd := 1) C G S hl.1 (kc_X9_still e1) q3_48 q3_49 q3_50 q3_51 ⟨rfl, hd_X9_still⟩ ⟨by decide, by decide⟩ rfl rfl (by exact Nat.le_of_ble_eq_true rfl) dL_law_462 (fun H locs S => ?_)
  refine lv_aload_n C.1 C.2.1 dL_law_465 rfl (lv_at hl 2 rfl) ?_
  refine kl_arg (pc := 466) C hX hbl hL S hl (k := 1) ⟨hi.1, by decide, by omega⟩ dL_law_466 dL_law_467 dL_law_468 dL_law_469 dL_law_470 ?_
  refine kl_arg (pc := 471) C hX hbl hL S hl (k := 2) ⟨hi.1, by decide, by omega⟩ dL_law_471 dL_law_472 dL_law_473 dL_law_474 dL_law_475 ?_
  refine kl_bool (pc := 476) C (kl_xin xs _) dL_law_476 dL_law_479 dL_law_480 dL_law_483 ?_
  refine kl_cM (pc := 484) (rest := [kp_iv r1]) (As := [kp_iv (kl_x xs (i + 1)), kp_iv (kl_z (kl_x xs (i + 2)))]) (dd := 2) C G S hl.1 (kc_X10_still e2) q5_3 q5_4 q5_5 q5_6 ⟨rfl, hd_X10_still⟩ ⟨by decide, by decide⟩ rfl rfl (by exact Nat.le_of_ble_eq_true rfl) dL_law_484 (fun H locs S => ?_)
  exact lv_icmp_eq (tgt := 1122) C.1 C.2.1 dL_law_487 (by decide) (fun _ => K _ _ _ _ _ _ S hD1) (fun z => absurd rfl z)
end KLC
