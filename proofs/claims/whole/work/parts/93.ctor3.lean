-- constructors: a house empties itself, the model holds none
section CTT
variable {p : Program} {l : Launch} {e : Env} {s : State} {m : MethodId} {args : Array Value} {below : List Frame} {meth : Method} {c : Code} {H : Heap} {locs : List Loc} {slots : Nat} {ls : Array Slot} {X : kp_X} {h : Nat} {ws : va_W}
theorem kp_gv {own C0 : String} {index : Nat} {y : MethodName} {bytes : ByteArray} {maxL : Nat} {ret : Option FieldType} (w1 : Cond.methodLink own index y ∈ kp_wl) (w2 : Cond.instanceMethod y ∈ kp_wl) (w3 : Cond.selects C0 y y ∈ kp_wl) (w4 : Cond.initialized C0 ∈ kp_wl) (w5 : Cond.code y bytes maxL ret ∈ kp_wl) : GoodIn kp_wl (wsV own index C0 y (Cond.code y bytes maxL ret :: kp_wl)) := by
  unfold wsV
  refine kp_gapp (fun w hw => ?_) (kp_wsy w5)
  simp only [List.mem_cons, List.not_mem_nil, or_false] at hw
  rcases hw with rfl | rfl | rfl | rfl
  · exact kp_wl_good _ w1
  · exact kp_wl_good _ w2
  · exact kp_wl_good _ w3
  · exact kp_wl_good _ w4
theorem cr_empty (C : CallFix p m c cX2_init 1 s args kp_wl RX2) (hr : meth.sig.returnType = none) (hlk : meth.locks = false) (G : kp_GK X h s) (S : kp_CS X h s (kp_ws (kp_Xh X h) kp_lH 5 kp_s0) H locs 4) (hl : lv_has ls 1 [(0, .ref h)]) (hs : slots ≤ 145) : W p l e (kp_rc 2 4 145) s m args below meth c H locs 4 slots (MQ below (va_Qv (fun _ : Unit => True) (fun _ t => kp_CE X kp_lH 5 kp_sH h t) (fun q => h ≤ q)) args s 4 145 (fun q => h ≤ q)) (F0 m 50 ls []) := by
  have inA : ∀ q, kp_A (kp_Xh X h) 5 q → h ≤ q := fun q hq => by
    obtain ⟨k, _, rfl⟩ := hq
    show h ≤ h + k
    omega
  refine lv_aload_n C.1 C.2.1 dX2_init_50 rfl (lv_at hl 0 rfl) ?_
  refine va_callv (va_runV (As := []) (rest := []) C (kc_X2_empty_H (X := kp_Xh X h) kp_sHe) (cwV 0 C.2.2.2.2 (kp_gv q1_58 q1_59 q1_60 q1_4 q1_61) rfl rfl rfl ⟨rfl, hd_X2_empty⟩ ⟨Nat.le_of_ble_eq_true rfl, Nat.le_of_ble_eq_true rfl⟩) ⟨kp_B_blind, va_recv G.1 S.1 (ci := 2) (q0 := 0) rfl rfl, fun U hU hW => ⟨rfl, by rw [hU]; exact S.1, cr_G G 5 S.2.2.2.2.1 hU hW⟩⟩ rfl rfl hl.1 rfl (lv_room (Nat.le_of_ble_eq_true rfl)) dX2_init_51 ⟨Nat.le_of_ble_eq_true rfl, by show slots + 0 ≤ 145; omega⟩) S.2.2.2.2.1 (fun q _ hq => inA q hq) (fun q hq => inA q hq) (fun u t H1 locs1 ht hvm hw hB hz1 hk1 hS1 => cr_sq (fun hsz => ?_))
  have hz := S.2.2.1
  have hs0 := S.2.2.2.2.2
  have hc1 := S.2.2.2.1
  rw [kp_ws_len] at hz hc1
  have S1 : kp_CS X h s (kp_ws (kp_Xh X h) kp_lH 5 kp_sH) H1 locs1 (4 + 0) := ⟨by rw [← ht]; exact hB.1, kp_ws_dn, by rw [kp_ws_len]; omega, by rw [kp_ws_len]; omega, hS1, hs0⟩
  exact cr_ret C hr hlk G S1 rfl (Nat.le_refl _) (by show slots + 0 ≤ 145; omega) dX2_init_54
theorem cr_none (C : CallFix p m c cX10_init 1 s args kp_wl RX10) (hr : meth.sig.returnType = none) (hlk : meth.locks = false) (G : kp_GK X h s) (S : kp_CS X h s (kp_ws (kp_Xh X h) kp_lM 10 kp_s0) H locs 9) (hl : lv_has ls 1 [(0, .ref h)]) (hs : slots ≤ 2681) {σM : kp_W} (hM1 : σM 1 = fun j => if j = 4 then -1 else 0) (hM : ∀ k, k ≠ 1 → σM k = fun _ => 0) : W p l e (kp_rc 1 9 2681) s m args below meth c H locs 9 slots (MQ below (va_Qv (fun _ : Unit => True) (fun _ t => kp_CE X kp_lM 10 σM h t) (fun q => h ≤ q)) args s 9 2681 (fun q => h ≤ q)) (F0 m 78 ls []) := by
  refine lv_aload_n C.1 C.2.1 dX10_init_78 rfl (lv_at hl 0 rfl) ?_
  refine va_get C.1 C.2.1 C.2.2.2.2 inWX10 C.2.2.2.1 G.1 S.1 0 rfl (ci := 9) rfl 1 (by decide) (C.2.2.2.2 _ q4_45) (fun _ z => z) (v := .ref (h + 1)) rfl dX10_init_79 ?_
  refine lv_iconst (v := Int32.ofInt 4) C.1 C.2.1 dX10_init_82 rfl ?_
  refine lv_iconst (v := Int32.ofInt (-1)) C.1 C.2.1 dX10_init_83 rfl ?_
  have hD := cr_D S
  have hS2 : va_S (fun q : Nat => h ≤ q) H H locs := ⟨Nat.le_refl _, fun _ _ _ => rfl, S.2.2.2.2.1.2.2⟩
  have hz := S.2.2.1
  have hs0 := S.2.2.2.2.2
  have hS := S.2.2.2.2.1
  have hc1 := S.2.2.2.1
  rw [kp_ws_len] at hz hc1
  refine va_iast (f := fun _ => Int32.ofInt 0) (n := 1066) (cA := kp_cy X 0) C.1 C.2.1 G.1 S.1 hD hS2 1 0 rfl rfl (kp_vin (x := 4) (n := 1066) (by decide) (by decide)) dX10_init_84 (fun H1 locs1 hP1 hD1 hS1 => cr_sq (fun hsz => ?_))
  have e1 : (kp_ws (kp_Xh X h) kp_lM 10 kp_s0).set 1 (h + 1, .inl (kp_cy X 0, 1066, .inl (upd (fun _ => Int32.ofInt 0) (Int32.ofInt 4).toNatClampNeg (Int32.ofInt (-1))))) = kp_ws (kp_Xh X h) kp_lM 10 σM := by
    refine kp_ws_set (k := 1) (by decide) ?_ (fun j hj => by rw [hM j hj]; rfl)
    rw [hM1]
    show (.inl (kp_cy X 0, 1066, .inl fun j => Int32.ofInt (if j = 4 then -1 else 0)) : va_E) = _
    congr 4
    funext j
    unfold upd
    rw [show (Int32.ofInt 4).toNatClampNeg = 4 from rfl]
    by_cases hj : j = 4
    · rw [if_pos hj, if_pos hj]
    · rw [if_neg hj, if_neg hj]
  have hP1' : va_P X.1 vwCl (kp_ws (kp_Xh X h) kp_lM 10 σM) H1 := by rw [← e1]; exact hP1
  have := hS1.1
  have S1 : kp_CS X h s (kp_ws (kp_Xh X h) kp_lM 10 σM) H1 locs1 9 := ⟨hP1', kp_ws_dn, by rw [kp_ws_len]; omega, by rw [kp_ws_len]; omega, ⟨Nat.le_trans hS.1 hS1.1, fun x h1 h2 => (hS1.2.1 x (Nat.lt_of_lt_of_le h1 hS.1) h2).trans (hS.2.1 x h1 h2), hS1.2.2⟩, hs0⟩
  exact cr_ret C hr hlk G S1 rfl (Nat.le_refl _) hs dX10_init_85
end CTT
