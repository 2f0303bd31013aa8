-- the law's loop, its start
theorem kl_31 (x : Int32) : 0 ≤ (x &&& Int32.ofInt 31).toInt ∧ (x &&& Int32.ofInt 31).toInt ≤ 31 := by
  have q : ((x &&& Int32.ofInt 31).toBitVec).toNat ≤ 31 := by
    show (x.toBitVec &&& 31#32).toNat ≤ 31
    rw [BitVec.toNat_and]
    exact Nat.and_le_right
  have e : (x &&& Int32.ofInt 31).toInt = (((x &&& Int32.ofInt 31).toBitVec).toNat : Int) := by
    show BitVec.toInt _ = _
    exact BitVec.toInt_eq_toNat_of_lt (by omega)
  omega
theorem kl_s0 {j : Nat} (h : j ≠ 4) : kp_sM 1 j = 0 := if_neg h
theorem kl_D0 : kz_D kp_sK0 kp_sM [] [] := by
  have e4 : kp_sM 1 4 = -1 := rfl
  have hE : kz_E (kp_sM 1, []) kp_sK0 := by
    refine ⟨⟨rfl, fun w h1 h2 => ⟨⟨?_, ?_⟩, fun t h3 h4 => ?_⟩, ⟨rfl, fun i h1 h2 => ?_⟩, fun j h1 h2 => ?_, ⟨rfl, ⟨?_, ?_⟩, rfl⟩, ⟨by decide, by decide⟩, ⟨rfl, ⟨?_, ?_⟩, fun n h1 h2 => ?_⟩, ⟨rfl, fun r h1 h2 => ?_⟩⟩, Or.inl rfl, fun h => ?_⟩
    · show (0 : Int) ≤ 0
      decide
    · show (0 : Int) < 1099511627776
      decide
    · refine Eq.trans ?_ (kl_s0 (j := (130 + 40 * w + t).toNat) (by omega)).symm
      show (0 : Int) / _ % 2 = 0
      rw [Int.zero_ediv]
      rfl
    · have h2 : i < 0 := h2
      omega
    · rcases (show j = 0 ∨ j = 1 ∨ j = 2 ∨ j = 3 ∨ j = 4 by omega) with rfl | rfl | rfl | rfl | rfl <;> decide +kernel
    · show (0 : Int) ≤ 0
      decide
    · show (0 : Int) ≤ 120
      decide
    · show (0 : Int) ≤ 0
      decide
    · show (0 : Int) < 1
      decide
    · have h2 : n < 0 := h2
      omega
    · have h2 : r < 0 := h2
      omega
    · have h : (0 : Int) = 1 := h
      omega
  have hI : kz_I (kp_sM 1, []) := by
    refine ⟨⟨⟨⟨?_, ?_⟩, ⟨?_, ?_⟩, ⟨?_, ?_⟩, ⟨?_, ?_⟩, ?_, ?_⟩, fun i h1 h2 => ?_, fun i h1 h2 => Or.inl (kl_s0 (by omega)), fun n h1 h2 => ?_, fun r h1 h2 => ?_, fun h => ?_⟩, ⟨Nat.zero_le _, fun c h => absurd h List.not_mem_nil, fun _ => rfl, fun h => ?_⟩⟩
    · show (0 : Int) ≤ 0
      decide
    · show (0 : Int) ≤ 10
      decide
    · show (0 : Int) ≤ 0
      decide
    · show (0 : Int) ≤ 5
      decide
    · show (0 : Int) ≤ 0
      decide
    · show (0 : Int) ≤ 12
      decide
    · show (0 : Int) ≤ 0
      decide
    · show (0 : Int) ≤ 120
      decide
    · show (-1 : Int) ≤ -1
      decide
    · show (-1 : Int) < 0
      decide
    · have h2 : i < 0 := h2
      omega
    · have h2 : n < 0 := h2
      omega
    · have h2 : r < 0 := h2
      omega
    · have h : (0 : Int) ≤ -1 := h
      omega
    · have h : (0 : Int) ≤ -1 := h
      omega
  refine ⟨⟨hI, ⟨rfl, rfl, rfl⟩, hE⟩, fun i hi => ?_, ⟨Or.inl rfl, rfl, fun h => ?_⟩, ⟨rfl, rfl, ?_, ?_⟩, z_RzT⟩
  · rw [kl_s0 (by omega)]
    rfl
  · have h : (0 : Int) = 1 := h
    omega
  · show (0 : Int) ≤ 0
    decide
  · show (0 : Int) ≤ 1000
    decide
theorem kl_split {D : va_G} {cl : List vw_C} {a b : va_W} {H : Heap} (hP : va_P D cl (a ++ b) H) : va_P D cl a H ∧ va_P D cl b H := by
  refine ⟨fun k q hk => hP k q ?_, fun k q hk => hP (a.length + k) q ?_⟩
  · rw [List.getElem?_append_left (List.getElem?_eq_some_iff.mp hk).1]
    exact hk
  · rw [List.getElem?_append_right (Nat.le_add_right _ _), Nat.add_sub_cancel_left]
    exact hk
section KLL
variable {p : Program} {l : Launch} {e : Env} {s : State} {m : MethodId} {args : Array Value} {below : List Frame} {meth : Method} {c : Code} {Q : State → Prop}
variable {X : kp_X} {b L : Nat} {xs : Nat → Int32}
set_option maxRecDepth 100000 in
set_option maxHeartbeats 4000000 in
theorem kl_sw (C : CallFix p m c cL_law 4 s args kp_wl RL) (G : kp_GK X s.heap.size s) (hX : va_X b L xs s s.heap) (hbl : b < s.heap.size) (hL : L ≤ 320) {i : Int} {ls : Array Slot} {H : Heap} {locs : List Loc} {σ τ : kp_W} {cls clsK : List kz_C} {y : Int32} (hy : 0 ≤ y.toInt ∧ y.toInt ≤ 31) (S : kl_S X s σ τ H locs) (hD : kz_D σ τ cls clsK) (hl : lv_has ls 4 [(0, .ref b), (1, .ref s.heap.size), (2, .ref (s.heap.size + 55)), (3, kp_iv i)]) (hi : 0 ≤ i ∧ i + 5 ≤ (L : Int)) (K : ∀ (H : Heap) (locs : List Loc) (σ τ : kp_W) (cls clsK : List kz_C), kl_S X s σ τ H locs → kz_D σ τ cls clsK → W p l e room_1 s m args below meth c H locs 600000 7302250 Q (F0 m 1122 ls [])) : W p l e room_1 s m args below meth c H locs 600000 7302250 Q (F0 m 32 ls [.int y]) := by
  rcases (show y.toInt = 0 ∨ y.toInt = 1 ∨ y.toInt = 2 ∨ y.toInt = 3 ∨ y.toInt = 4 ∨ y.toInt = 5 ∨ y.toInt = 6 ∨ y.toInt = 7 ∨ y.toInt = 8 ∨ y.toInt = 9 ∨ y.toInt = 10 ∨ y.toInt = 11 ∨ y.toInt = 12 ∨ y.toInt = 13 ∨ y.toInt = 14 ∨ y.toInt = 15 ∨ y.toInt = 16 ∨ y.toInt = 17 ∨ y.toInt = 18 ∨ y.toInt = 19 ∨ y.toInt = 20 ∨ y.toInt = 21 ∨ y.toInt = 22 ∨ y.toInt = 23 ∨ y.toInt = 24 ∨ y.toInt = 25 ∨ y.toInt = 26 ∨ y.toInt = 27 ∨ y.toInt = 28 ∨ y.toInt = 29 ∨ y.toInt = 30 ∨ y.toInt = 31 by omega) with hv | hv | hv | hv | hv | hv | hv | hv | hv | hv | hv | hv | hv | hv | hv | hv | hv | hv | hv | hv | hv | hv | hv | hv | hv | hv | hv | hv | hv | hv | hv | hv
  · exact lv_tableIn (off := 140) (tgt := 172) C.1 C.2.1 dL_law_32 (by omega) (by omega) (by rw [hv]; rfl) (by decide) (kl_c0 C rfl G hX hbl hL S hD hl hi K)
  · exact lv_tableIn (off := 203) (tgt := 235) C.1 C.2.1 dL_law_32 (by omega) (by omega) (by rw [hv]; rfl) (by decide) (kl_c1 C rfl G hX hbl hL S hD hl hi K)
  · exact lv_tableIn (off := 266) (tgt := 298) C.1 C.2.1 dL_law_32 (by omega) (by omega) (by rw [hv]; rfl) (by decide) (kl_c2 C rfl G hX hbl hL S hD hl hi K)
  · exact lv_tableIn (off := 279) (tgt := 311) C.1 C.2.1 dL_law_32 (by omega) (by omega) (by rw [hv]; rfl) (by decide) (kl_c3 C rfl G hX hbl hL S hD hl hi K)
  · exact lv_tableIn (off := 302) (tgt := 334) C.1 C.2.1 dL_law_32 (by omega) (by omega) (by rw [hv]; rfl) (by decide) (kl_c4 C rfl G hX hbl hL S hD hl hi K)
  · exact lv_tableIn (off := 325) (tgt := 357) C.1 C.2.1 dL_law_32 (by omega) (by omega) (by rw [hv]; rfl) (by decide) (kl_c5 C rfl G hX hbl hL S hD hl hi K)
  · exact lv_tableIn (off := 378) (tgt := 410) C.1 C.2.1 dL_law_32 (by omega) (by omega) (by rw [hv]; rfl) (by decide) (kl_c6 C rfl G hX hbl hL S hD hl hi K)
  · exact lv_tableIn (off := 411) (tgt := 443) C.1 C.2.1 dL_law_32 (by omega) (by omega) (by rw [hv]; rfl) (by decide) (kl_c7 C rfl G hX hbl hL S hD hl hi K)
  · exact lv_tableIn (off := 460) (tgt := 492) C.1 C.2.1 dL_law_32 (by omega) (by omega) (by rw [hv]; rfl) (by decide) (kl_c8 C rfl G hX hbl hL S hD hl hi K)
  · exact lv_tableIn (off := 503) (tgt := 535) C.1 C.2.1 dL_law_32 (by omega) (by omega) (by rw [hv]; rfl) (by decide) (kl_c9 C rfl G hX hbl hL S hD hl hi K)
  · exact lv_tableIn (off := 546) (tgt := 578) C.1 C.2.1 dL_law_32 (by omega) (by omega) (by rw [hv]; rfl) (by decide) (kl_c10 C rfl G hX hbl hL S hD hl hi K)
  · exact lv_tableIn (off := 579) (tgt := 611) C.1 C.2.1 dL_law_32 (by omega) (by omega) (by rw [hv]; rfl) (by decide) (kl_c11 C rfl G hX hbl hL S hD hl hi K)
  · exact lv_tableIn (off := 602) (tgt := 634) C.1 C.2.1 dL_law_32 (by omega) (by omega) (by rw [hv]; rfl) (by decide) (kl_c12 C rfl G hX hbl hL S hD hl hi K)
  · exact lv_tableIn (off := 645) (tgt := 677) C.1 C.2.1 dL_law_32 (by omega) (by omega) (by rw [hv]; rfl) (by decide) (kl_c13 C rfl G hX hbl hL S hD hl hi K)
  · exact lv_tableIn (off := 658) (tgt := 690) C.1 C.2.1 dL_law_32 (by omega) (by omega) (by rw [hv]; rfl) (by decide) (kl_c14 C rfl G hX hbl hL S hD hl hi K)
  · exact lv_tableIn (off := 681) (tgt := 713) C.1 C.2.1 dL_law_32 (by omega) (by omega) (by rw [hv]; rfl) (by decide) (kl_c15 C rfl G hX hbl hL S hD hl hi K)
  · exact lv_tableIn (off := 714) (tgt := 746) C.1 C.2.1 dL_law_32 (by omega) (by omega) (by rw [hv]; rfl) (by decide) (kl_c16 C rfl G hX hbl hL S hD hl hi K)
  · exact lv_tableIn (off := 737) (tgt := 769) C.1 C.2.1 dL_law_32 (by omega) (by omega) (by rw [hv]; rfl) (by decide) (kl_c17 C rfl G hX hbl hL S hD hl hi K)
  · exact lv_tableIn (off := 750) (tgt := 782) C.1 C.2.1 dL_law_32 (by omega) (by omega) (by rw [hv]; rfl) (by decide) (kl_c18 C rfl G hX hbl hL S hD hl hi K)
  · exact lv_tableIn (off := 783) (tgt := 815) C.1 C.2.1 dL_law_32 (by omega) (by omega) (by rw [hv]; rfl) (by decide) (kl_c19 C rfl G hX hbl hL S hD hl hi K)
  · exact lv_tableIn (off := 816) (tgt := 848) C.1 C.2.1 dL_law_32 (by omega) (by omega) (by rw [hv]; rfl) (by decide) (kl_c20 C rfl G hX hbl hL S hD hl hi K)
  · exact lv_tableIn (off := 850) (tgt := 882) C.1 C.2.1 dL_law_32 (by omega) (by omega) (by rw [hv]; rfl) (by decide) (kl_c21 C rfl G hX hbl hL S hD hl hi K)
  · exact lv_tableIn (off := 873) (tgt := 905) C.1 C.2.1 dL_law_32 (by omega) (by omega) (by rw [hv]; rfl) (by decide) (kl_c22 C rfl G hX hbl hL S hD hl hi K)
  · exact lv_tableIn (off := 906) (tgt := 938) C.1 C.2.1 dL_law_32 (by omega) (by omega) (by rw [hv]; rfl) (by decide) (kl_c23 C rfl G hX hbl hL S hD hl hi K)
  · exact lv_tableIn (off := 919) (tgt := 951) C.1 C.2.1 dL_law_32 (by omega) (by omega) (by rw [hv]; rfl) (by decide) (kl_c24 C rfl G hX hbl hL S hD hl hi K)
  · exact lv_tableIn (off := 942) (tgt := 974) C.1 C.2.1 dL_law_32 (by omega) (by omega) (by rw [hv]; rfl) (by decide) (kl_c25 C rfl G hX hbl hL S hD hl hi K)
  · exact lv_tableIn (off := 985) (tgt := 1017) C.1 C.2.1 dL_law_32 (by omega) (by omega) (by rw [hv]; rfl) (by decide) (kl_c26 C rfl G hX hbl hL S hD hl hi K)
  · exact lv_tableIn (off := 1008) (tgt := 1040) C.1 C.2.1 dL_law_32 (by omega) (by omega) (by rw [hv]; rfl) (by decide) (kl_c27 C rfl G hX hbl hL S hD hl hi K)
  · exact lv_tableIn (off := 1041) (tgt := 1073) C.1 C.2.1 dL_law_32 (by omega) (by omega) (by rw [hv]; rfl) (by decide) (kl_c28 C rfl G hX hbl hL S hD hl hi K)
  · exact lv_tableIn (off := 1054) (tgt := 1086) C.1 C.2.1 dL_law_32 (by omega) (by omega) (by rw [hv]; rfl) (by decide) (kl_c29 C rfl G hX hbl hL S hD hl hi K)
  · exact lv_tableIn (off := 1067) (tgt := 1099) C.1 C.2.1 dL_law_32 (by omega) (by omega) (by rw [hv]; rfl) (by decide) (kl_c30 C rfl G hX hbl hL S hD hl hi K)
  · exact lv_tableOut (tgt := 1122) C.1 C.2.1 dL_law_32 (Or.inr (by omega)) (by decide) (K _ _ _ _ _ _ S hD)
set_option maxRecDepth 100000 in
set_option maxHeartbeats 4000000 in
theorem kl_loop (C : CallFix p m c cL_law 4 s args kp_wl RL) (G : kp_GK X s.heap.size s) (hX : va_X b L xs s s.heap) (hbl : b < s.heap.size) (hL : L ≤ 320) (K0 : ∀ (H : Heap) (locs : List Loc) (ls : Array Slot), va_S (fun q : Nat => s.heap.size ≤ q) s.heap H locs → W p l e room_1 s m args below meth c H locs 600000 7302250 Q (F0 m 1128 ls [])) : ∀ (n : Nat) (i : Int) (ls : Array Slot) (H : Heap) (locs : List Loc) (σ τ : kp_W) (cls clsK : List kz_C), kl_S X s σ τ H locs → kz_D σ τ cls clsK → lv_has ls 4 [(0, .ref b), (1, .ref s.heap.size), (2, .ref (s.heap.size + 55)), (3, kp_iv i)] → 0 ≤ i → i ≤ (L : Int) → (L : Int) - i < n → W p l e room_1 s m args below meth c H locs 600000 7302250 Q (F0 m 18 ls []) := by
  intro n
  induction n with
  | zero => intro i ls H locs σ τ cls clsK _ _ _ h0 h1 h2; omega
  | succ n ih =>
    intro i ls H locs σ τ cls clsK S hD hl h0 h1 h2
    have eL : (Value.int (Int32.ofNat L)) = kp_iv (L : Int) := by
      unfold kp_iv
      rw [Int32.ofInt_eq_ofNat]
    refine lv_iload_n C.1 C.2.1 dL_law_18 rfl (lv_at hl 3 rfl) ?_
    refine lv_aload_n C.1 C.2.1 dL_law_19 rfl (lv_at hl 0 rfl) ?_
    refine va_slen C.1 C.2.1 hX hbl (Nat.not_le.mpr hbl) S.2.2 dL_law_20 ?_
    rw [eL]
    refine lv_iconst (v := Int32.ofInt 5) C.1 C.2.1 dL_law_21 rfl ?_
    refine lv_isub C.1 C.2.1 dL_law_22 ?_
    rw [← Int32.ofInt_sub]
    refine lv_icmp_gt (tgt := 1128) C.1 C.2.1 dL_law_23 (by decide) (fun _ => K0 H locs ls S.2.2) (fun z => ?_)
    have hle : i + 5 ≤ (L : Int) := by
      have := (kp_lt_i (x := (L : Int) - 5) (y := i) ⟨by omega, by omega⟩ ⟨by omega, by omega⟩).mpr
      by_cases h : (L : Int) - 5 < i
      · exact absurd (this h) z
      · omega
    refine lv_aload_n C.1 C.2.1 dL_law_26 rfl (lv_at hl 0 rfl) ?_
    refine lv_iload_n C.1 C.2.1 dL_law_27 rfl (lv_at hl 3 rfl) ?_
    have hv : vp_in (Int32.ofInt i) L := by
      have := kp_vin (x := i) (n := (L : Int)) ⟨h0, by omega⟩ (by omega)
      rwa [Int.toNat_natCast] at this
    refine va_sld C.1 C.2.1 hX hbl (Nat.not_le.mpr hbl) S.2.2 hv dL_law_28 ?_
    refine lv_bipush (v := Int32.ofInt 31) C.1 C.2.1 dL_law_29 rfl ?_
    refine lv_iand C.1 C.2.1 dL_law_31 ?_
    refine kl_sw C G hX hbl hL (kl_31 _) S hD hl ⟨h0, hle⟩ (fun H locs σ τ cls clsK S hD => ?_)
    refine lv_iinc (lv' := [(3, kp_iv (i + 5)), (0, .ref b), (1, .ref s.heap.size), (2, .ref (s.heap.size + 55))]) (k := 3) (x := Int32.ofInt i) (v := Int32.ofInt (i + 5)) C.1 C.2.1 dL_law_1122 hl rfl (Int32.ofInt_add i 5).symm (by decide) rfl (fun ls' hl' => ?_)
    refine lv_goto (tgt := 18) C.1 C.2.1 dL_law_1125 (by decide) ?_
    exact ih (i + 5) ls' H locs σ τ cls clsK S hD (lv_sub hl' [1, 2, 3, 0] rfl) (by omega) hle (by omega)
end KLL
