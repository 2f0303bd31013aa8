-- the law: both objects on one heap; calls, arguments
/-- the place on the heap, behind the object's own, of each of the class's cells -/
def kp_pmL : List Nat := [0, 1, 2, 3, 4, 5, 6, 7, 52, 8, 9, 10, 11, 12, 13, 14, 15, 16, 17, 18, 19, 20, 21, 22, 23, 24, 25, 53, 26, 27, 28, 29, 30, 31, 32, 33, 34, 35, 36, 37, 38, 39, 40, 54, 41, 42, 43, 44, 45, 46, 47, 48, 49, 50, 51]
def kp_pm (k : Nat) : Nat := kp_pmL.getD k 0
theorem kp_pm_lt : ∀ {k : Nat}, k < 55 → kp_pm k < 55 := by
  have h : ∀ k : Nat, k < 55 → kp_pm k < 55 := by decide +kernel
  exact fun {k} hk => h k hk
theorem kp_pm_in : ∀ i : Nat, i < 55 → ∀ j : Nat, j < 55 → kp_pm i = kp_pm j → i = j := by decide +kernel
def kp_Xk (X : kp_X) (h : Nat) : kp_X := (X.1, fun k => h + kp_pm k, X.2.2)
def kp_sK0 : kp_W := fun k => match k with
  | 6 => kp_sH 1
  | 25 => kp_sH 1
  | 41 => kp_sH 1
  | _ => fun _ => 0
set_option maxRecDepth 100000 in
theorem kl_perm {X : kp_X} {h : Nat} {H : Heap} (hP : va_P X.1 vwCl (kp_ws (kp_Xh X h) kp_lX9 55 kp_sK9) H) : va_P X.1 vwCl (kp_ws (kp_Xk X h) kp_lK 55 kp_sK0) H := by
  intro k q hq
  obtain ⟨hk, rfl⟩ := kp_ws_some hq
  have key : (kp_ad (kp_Xk X h) k, kp_ce (kp_Xk X h) (kp_lK k) (kp_sK0 k)) = (kp_ad (kp_Xh X h) (kp_pm k), kp_ce (kp_Xh X h) (kp_lX9 (kp_pm k)) (kp_sK9 (kp_pm k))) := by
    match k, hk with
    | 0, _ => rfl
    | 1, _ => rfl
    | 2, _ => rfl
    | 3, _ => rfl
    | 4, _ => rfl
    | 5, _ => rfl
    | 6, _ => rfl
    | 7, _ => rfl
    | 8, _ => rfl
    | 9, _ => rfl
    | 10, _ => rfl
    | 11, _ => rfl
    | 12, _ => rfl
    | 13, _ => rfl
    | 14, _ => rfl
    | 15, _ => rfl
    | 16, _ => rfl
    | 17, _ => rfl
    | 18, _ => rfl
    | 19, _ => rfl
    | 20, _ => rfl
    | 21, _ => rfl
    | 22, _ => rfl
    | 23, _ => rfl
    | 24, _ => rfl
    | 25, _ => rfl
    | 26, _ => rfl
    | 27, _ => rfl
    | 28, _ => rfl
    | 29, _ => rfl
    | 30, _ => rfl
    | 31, _ => rfl
    | 32, _ => rfl
    | 33, _ => rfl
    | 34, _ => rfl
    | 35, _ => rfl
    | 36, _ => rfl
    | 37, _ => rfl
    | 38, _ => rfl
    | 39, _ => rfl
    | 40, _ => rfl
    | 41, _ => rfl
    | 42, _ => rfl
    | 43, _ => rfl
    | 44, _ => rfl
    | 45, _ => rfl
    | 46, _ => rfl
    | 47, _ => rfl
    | 48, _ => rfl
    | 49, _ => rfl
    | 50, _ => rfl
    | 51, _ => rfl
    | 52, _ => rfl
    | 53, _ => rfl
    | 54, _ => rfl
    | k + 55, hk => omega
  rw [key]
  exact hP (kp_pm k) _ (kp_ws_at (kp_pm_lt hk))
def kl_S (X : kp_X) (s : State) (σ τ : kp_W) (H : Heap) (locs : List Loc) : Prop := va_P X.1 vwCl (kp_ws (kp_Xk X s.heap.size) kp_lK 55 σ) H ∧ va_P X.1 vwCl (kp_ws (kp_Xh X (s.heap.size + 55)) kp_lM 10 τ) H ∧ va_S (fun q : Nat => s.heap.size ≤ q) s.heap H locs
/-- a script's int -/
def kl_x (xs : Nat → Int32) (j : Int) : Int := (xs j.toNat).toInt
def kl_J (x y : Int) : Int := ((Int32.ofInt x).toInt64 <<< ((Int32.ofInt 32).toInt64 &&& 63) ||| ((Int32.ofInt y).toInt64 &&& Int64.ofInt 4294967295)).toInt
def kl_z (a : Int) : Int := if a = 0 then 0 else 1
theorem kl_xin (xs : Nat → Int32) (j : Int) : kp_in (kl_x xs j) := ⟨by have := Int32.le_toInt (xs j.toNat); unfold kl_x; omega, by have := Int32.toInt_lt (xs j.toNat); unfold kl_x; omega⟩
theorem kl_Jin (x y : Int) : kp_inL (kl_J x y) := kz_toInt64 _
theorem kl_zin (a : Int) : kp_in (kl_z a) := by unfold kl_z; split <;> decide
theorem kl_cmp (r : Int) : lg_cmp (Int64.ofInt r) (Int64.ofInt r) = 0 := by simp [lg_cmp]
section KLW
variable {p : Program} {l : Launch} {e : Env} {s : State} {m : MethodId} {args : Array Value} {below : List Frame} {meth : Method} {c : Code} {H : Heap} {locs : List Loc} {Q : State → Prop}
variable {own : String} {pc : Nat} {ls : Array Slot} {rest st : List Value} {X : kp_X} {σ τ σ' τ' : kp_W} {r i : Int} {b L : Nat} {xs : Nat → Int32}
variable {y : MethodName} {bytes : ByteArray} {maxL index n dd : Nat} {As : List Value}
theorem kl_inK {q : Nat} (hq : kp_A (kp_Xk X s.heap.size) 55 q) : s.heap.size ≤ q ∧ q < s.heap.size + 55 := by
  obtain ⟨k, hk, rfl⟩ := hq
  have := kp_pm_lt hk
  show s.heap.size ≤ s.heap.size + kp_pm k ∧ s.heap.size + kp_pm k < s.heap.size + 55
  omega
theorem kl_inM {q : Nat} (hq : kp_A (kp_Xh X (s.heap.size + 55)) 10 q) : s.heap.size + 55 ≤ q ∧ q < s.heap.size + 65 := by
  obtain ⟨k, hk, rfl⟩ := hq
  show s.heap.size + 55 ≤ s.heap.size + 55 + k ∧ s.heap.size + 55 + k < s.heap.size + 65
  omega
theorem kl_G (G : kp_GK X s.heap.size s) {g N : Nat} (hg : s.heap.size ≤ g) {U : State} (hS : va_S (fun q : Nat => s.heap.size ≤ q) s.heap H locs) (hU : U.heap = H) (hW : s.WarmedH U.vm) : kp_G (kp_Xh X g) N U := by
  have gg := G.to hS hU hW
  refine ⟨gg.1, fun i j _ _ z => by have z2 : g + i = g + j := z; omega, ?_⟩
  have n : kp_ST X (kp_A (kp_Xh X g) N) U U.heap := gg.2.narrow (fun q hq => by
    obtain ⟨k, _, rfl⟩ := hq
    show s.heap.size ≤ g + k
    omega)
  exact n
theorem kl_GK (G : kp_GK X s.heap.size s) {U : State} (hS : va_S (fun q : Nat => s.heap.size ≤ q) s.heap H locs) (hU : U.heap = H) (hW : s.WarmedH U.vm) : kp_G (kp_Xk X s.heap.size) 55 U := by
  have gg := G.to hS hU hW
  refine ⟨gg.1, fun i j hi hj z => kp_pm_in i hi j hj (by have z2 : s.heap.size + kp_pm i = s.heap.size + kp_pm j := z; omega), ?_⟩
  have n : kp_ST X (kp_A (kp_Xk X s.heap.size) 55) U U.heap := gg.2.narrow (fun q hq => (kl_inK hq).1)
  exact n
theorem kl_RL {dd maxL : Nat} (h : dd ≤ 1000 ∧ maxL ≤ 41) : (kp_rm dd).frames + 1 ≤ room_1.frames ∧ 8 + (maxL + 11) + (kp_rm dd).locals ≤ room_1.locals := by
  show dd + 1 ≤ 2048 ∧ 8 + (maxL + 11) + 60 * dd ≤ 84000
  omega
theorem kl_cK (C : CallFix p m c cL_law 4 s args kp_wl own) (G : kp_GK X s.heap.size s) (S : kl_S X s σ τ H locs) (hls : ls.size = 4) (hM : kp_Met l y bytes maxL (some .int) dd (kp_Xk X s.heap.size) kp_lK 55 σ (.ref (kp_ad (kp_Xk X s.heap.size) 0) :: As) (kp_Qi (kp_Xk X s.heap.size) kp_lK 55 σ' r)) (w1 : Cond.methodLink own index y ∈ kp_wl) (w2 : Cond.instanceMethod y ∈ kp_wl) (w3 : Cond.selects RX9 y y ∈ kp_wl) (w5 : Cond.code y bytes maxL (some .int) ∈ kp_wl) (hd : y.cls = RX9 ∧ y.cls ≠ "java/lang/invoke/MethodHandle" ∧ y.cls ≠ "java/lang/invoke/VarHandle" ∧ (parseMethodDescriptor y.desc).map (fun d => d.parameters.length) = some n) (hR : dd ≤ 1000 ∧ maxL ≤ 41) (hn : As.length = n) (hst : st = As.reverse ++ .ref s.heap.size :: rest) (hW : (rest.map fun v => v.category).sum ≤ 8) (hdg : decode cL_law pc = .ok (.invokevirtual index, 3))
    (kk : ∀ (H1 : Heap) (locs1 : List Loc), kl_S X s σ' τ H1 locs1 → W p l e room_1 s m args below meth c H1 locs1 600000 7302250 Q (F0 m (pc + 3) ls (kp_iv r :: rest))) : W p l e room_1 s m args below meth c H locs 600000 7302250 Q (F0 m pc ls st) := by
  obtain ⟨hP, hPM, hS⟩ := S
  refine va_calli (va_runV C hM (cwV n C.2.2.2.2 (kp_gv w1 w2 w3 q1_1 w5) rfl rfl rfl hd (kl_RL hR)) ⟨kp_B_blind, va_recv G.1 hP (ci := 8) (q0 := 0) rfl rfl, fun U hU hW => ⟨rfl, by rw [hU]; exact hP, kl_GK G hS hU hW⟩⟩ rfl hn hls hst (lv_room hW) hdg ⟨Nat.le_refl _, Nat.le_refl _⟩) hS (fun q _ hq => (kl_inK hq).1) (fun q hq => (kl_inK hq).1) (fun r2 u t H1 locs1 ht hvm hp hB hz hk hS1 => ?_)
  subst hp
  refine kk H1 locs1 ⟨by rw [← ht]; exact hB.1, hPM.kept (fun k q hq => hk q.1 (hPM k q hq).lt (fun z => ?_)), hS1⟩
  obtain ⟨hk10, rfl⟩ := kp_ws_some hq
  have z1 := (kl_inK z).2
  have z2 : s.heap.size + 55 + k < s.heap.size + 55 := z1
  omega
theorem kl_cM (C : CallFix p m c cL_law 4 s args kp_wl own) (G : kp_GK X s.heap.size s) (S : kl_S X s σ τ H locs) (hls : ls.size = 4) (hM : kp_Met l y bytes maxL (some .int) dd (kp_Xh X (s.heap.size + 55)) kp_lM 10 τ (.ref (kp_ad (kp_Xh X (s.heap.size + 55)) 0) :: As) (kp_Qi (kp_Xh X (s.heap.size + 55)) kp_lM 10 τ' r)) (w1 : Cond.methodLink own index y ∈ kp_wl) (w2 : Cond.instanceMethod y ∈ kp_wl) (w3 : Cond.selects RX10 y y ∈ kp_wl) (w5 : Cond.code y bytes maxL (some .int) ∈ kp_wl) (hd : y.cls = RX10 ∧ y.cls ≠ "java/lang/invoke/MethodHandle" ∧ y.cls ≠ "java/lang/invoke/VarHandle" ∧ (parseMethodDescriptor y.desc).map (fun d => d.parameters.length) = some n) (hR : dd ≤ 1000 ∧ maxL ≤ 41) (hn : As.length = n) (hst : st = As.reverse ++ .ref (s.heap.size + 55) :: rest) (hW : (rest.map fun v => v.category).sum ≤ 8) (hdg : decode cL_law pc = .ok (.invokevirtual index, 3))
    (kk : ∀ (H1 : Heap) (locs1 : List Loc), kl_S X s σ τ' H1 locs1 → W p l e room_1 s m args below meth c H1 locs1 600000 7302250 Q (F0 m (pc + 3) ls (kp_iv r :: rest))) : W p l e room_1 s m args below meth c H locs 600000 7302250 Q (F0 m pc ls st) := by
  obtain ⟨hP, hPM, hS⟩ := S
  have inA : ∀ q, kp_A (kp_Xh X (s.heap.size + 55)) 10 q → s.heap.size ≤ q := fun q hq => by have := (kl_inM hq).1; omega
  refine va_calli (va_runV C hM (cwV n C.2.2.2.2 (kp_gv w1 w2 w3 q1_11 w5) rfl rfl rfl hd (kl_RL hR)) ⟨kp_B_blind, va_recv G.1 hPM (ci := 9) (q0 := 0) rfl rfl, fun U hU hW => ⟨rfl, by rw [hU]; exact hPM, kl_G G (Nat.le_add_right _ _) hS hU hW⟩⟩ rfl hn hls hst (lv_room hW) hdg ⟨Nat.le_refl _, Nat.le_refl _⟩) hS (fun q _ hq => inA q hq) (fun q hq => inA q hq) (fun r2 u t H1 locs1 ht hvm hp hB hz hk hS1 => ?_)
  subst hp
  refine kk H1 locs1 ⟨hP.kept (fun k q hq => hk q.1 (hP k q hq).lt (fun z => ?_)), by rw [← ht]; exact hB.1, hS1⟩
  obtain ⟨hk58, rfl⟩ := kp_ws_some hq
  have z1 := (kl_inM z).1
  have z2 : s.heap.size + 55 ≤ s.heap.size + kp_pm k := z1
  have := kp_pm_lt hk58
  omega
theorem kl_cKl (C : CallFix p m c cL_law 4 s args kp_wl own) (G : kp_GK X s.heap.size s) (S : kl_S X s σ τ H locs) (hls : ls.size = 4) (hM : kp_Met l y bytes maxL (some .long) dd (kp_Xk X s.heap.size) kp_lK 55 σ (.ref (kp_ad (kp_Xk X s.heap.size) 0) :: As) (kp_Ql (kp_Xk X s.heap.size) kp_lK 55 σ' r)) (w1 : Cond.methodLink own index y ∈ kp_wl) (w2 : Cond.instanceMethod y ∈ kp_wl) (w3 : Cond.selects RX9 y y ∈ kp_wl) (w5 : Cond.code y bytes maxL (some .long) ∈ kp_wl) (hd : y.cls = RX9 ∧ y.cls ≠ "java/lang/invoke/MethodHandle" ∧ y.cls ≠ "java/lang/invoke/VarHandle" ∧ (parseMethodDescriptor y.desc).map (fun d => d.parameters.length) = some n) (hR : dd ≤ 1000 ∧ maxL ≤ 41) (hn : As.length = n) (hst : st = As.reverse ++ .ref s.heap.size :: rest) (hW : (rest.map fun v => v.category).sum ≤ 8) (hdg : decode cL_law pc = .ok (.invokevirtual index, 3))
    (kk : ∀ (H1 : Heap) (locs1 : List Loc), kl_S X s σ' τ H1 locs1 → W p l e room_1 s m args below meth c H1 locs1 600000 7302250 Q (F0 m (pc + 3) ls (kp_jv r :: rest))) : W p l e room_1 s m args below meth c H locs 600000 7302250 Q (F0 m pc ls st) := by
  obtain ⟨hP, hPM, hS⟩ := S
  refine va_calll (va_runV C hM (cwV n C.2.2.2.2 (kp_gv w1 w2 w3 q1_1 w5) rfl rfl rfl hd (kl_RL hR)) ⟨kp_B_blind, va_recv G.1 hP (ci := 8) (q0 := 0) rfl rfl, fun U hU hW => ⟨rfl, by rw [hU]; exact hP, kl_GK G hS hU hW⟩⟩ rfl hn hls hst (lv_room hW) hdg ⟨Nat.le_refl _, Nat.le_refl _⟩) hS (fun q _ hq => (kl_inK hq).1) (fun q hq => (kl_inK hq).1) (fun r2 u t H1 locs1 ht hvm hp hB hz hk hS1 => ?_)
  subst hp
  refine kk H1 locs1 ⟨by rw [← ht]; exact hB.1, hPM.kept (fun k q hq => hk q.1 (hPM k q hq).lt (fun z => ?_)), hS1⟩
  obtain ⟨hk10, rfl⟩ := kp_ws_some hq
  have z1 := (kl_inK z).2
  have z2 : s.heap.size + 55 + k < s.heap.size + 55 := z1
  omega
theorem kl_cMl (C : CallFix p m c cL_law 4 s args kp_wl own) (G : kp_GK X s.heap.size s) (S : kl_S X s σ τ H locs) (hls : ls.size = 4) (hM : kp_Met l y bytes maxL (some .long) dd (kp_Xh X (s.heap.size + 55)) kp_lM 10 τ (.ref (kp_ad (kp_Xh X (s.heap.size + 55)) 0) :: As) (kp_Ql (kp_Xh X (s.heap.size + 55)) kp_lM 10 τ' r)) (w1 : Cond.methodLink own index y ∈ kp_wl) (w2 : Cond.instanceMethod y ∈ kp_wl) (w3 : Cond.selects RX10 y y ∈ kp_wl) (w5 : Cond.code y bytes maxL (some .long) ∈ kp_wl) (hd : y.cls = RX10 ∧ y.cls ≠ "java/lang/invoke/MethodHandle" ∧ y.cls ≠ "java/lang/invoke/VarHandle" ∧ (parseMethodDescriptor y.desc).map (fun d => d.parameters.length) = some n) (hR : dd ≤ 1000 ∧ maxL ≤ 41) (hn : As.length = n) (hst : st = As.reverse ++ .ref (s.heap.size + 55) :: rest) (hW : (rest.map fun v => v.category).sum ≤ 8) (hdg : decode cL_law pc = .ok (.invokevirtual index, 3))
    (kk : ∀ (H1 : Heap) (locs1 : List Loc), kl_S X s σ τ' H1 locs1 → W p l e room_1 s m args below meth c H1 locs1 600000 7302250 Q (F0 m (pc + 3) ls (kp_jv r :: rest))) : W p l e room_1 s m args below meth c H locs 600000 7302250 Q (F0 m pc ls st) := by
  obtain ⟨hP, hPM, hS⟩ := S
  have inA : ∀ q, kp_A (kp_Xh X (s.heap.size + 55)) 10 q → s.heap.size ≤ q := fun q hq => by have := (kl_inM hq).1; omega
  refine va_calll (va_runV C hM (cwV n C.2.2.2.2 (kp_gv w1 w2 w3 q1_11 w5) rfl rfl rfl hd (kl_RL hR)) ⟨kp_B_blind, va_recv G.1 hPM (ci := 9) (q0 := 0) rfl rfl, fun U hU hW => ⟨rfl, by rw [hU]; exact hPM, kl_G G (Nat.le_add_right _ _) hS hU hW⟩⟩ rfl hn hls hst (lv_room hW) hdg ⟨Nat.le_refl _, Nat.le_refl _⟩) hS (fun q _ hq => inA q hq) (fun q hq => inA q hq) (fun r2 u t H1 locs1 ht hvm hp hB hz hk hS1 => ?_)
  subst hp
  refine kk H1 locs1 ⟨hP.kept (fun k q hq => hk q.1 (hP k q hq).lt (fun z => ?_)), by rw [← ht]; exact hB.1, hS1⟩
  obtain ⟨hk58, rfl⟩ := kp_ws_some hq
  have z1 := (kl_inM z).1
  have z2 : s.heap.size + 55 ≤ s.heap.size + kp_pm k := z1
  have := kp_pm_lt hk58
  omega
/-- script[i + k] -/
theorem kl_arg (C : CallFix p m c cL_law 4 s args kp_wl own) (hX : va_X b L xs s s.heap) (hbl : b < s.heap.size) (hL : L ≤ 320) (S : kl_S X s σ τ H locs) {g1 g2 : Nat} (hl : lv_has ls 4 [(0, .ref b), (1, .ref g1), (2, .ref g2), (3, kp_iv i)]) {k : Int} (hi : 0 ≤ i ∧ 0 ≤ k ∧ i + k < (L : Int)) (d0 : decode cL_law pc = .ok (.aload_n 0, 1)) (d1 : decode cL_law (pc + 1) = .ok (.iload_n 3, 1)) (d2 : decode cL_law (pc + 2) = .ok (.iconst k, 1)) (d3 : decode cL_law (pc + 3) = .ok (.iadd, 1)) (d4 : decode cL_law (pc + 4) = .ok (.iaload, 1)) (kk : W p l e room_1 s m args below meth c H locs 600000 7302250 Q (F0 m (pc + 5) ls (kp_iv (kl_x xs (i + k)) :: rest))) : W p l e room_1 s m args below meth c H locs 600000 7302250 Q (F0 m pc ls rest) := by
  refine lv_aload_n C.1 C.2.1 d0 rfl (lv_at hl 0 rfl) ?_
  refine lv_iload_n C.1 C.2.1 d1 rfl (lv_at hl 3 rfl) ?_
  refine lv_iconst (v := Int32.ofInt k) C.1 C.2.1 d2 rfl ?_
  refine lv_iadd C.1 C.2.1 d3 ?_
  rw [← Int32.ofInt_add]
  have hv : vp_in (Int32.ofInt (i + k)) L := by
    have := kp_vin (x := i + k) (n := (L : Int)) ⟨by omega, hi.2.2⟩ (by omega)
    rwa [Int.toNat_natCast] at this
  refine va_sld C.1 C.2.1 hX hbl (Nat.not_le.mpr hbl) S.2.2 hv d4 ?_
  rw [kp_cl ⟨by omega, by omega⟩]
  have e1 : (kp_iv (kl_x xs (i + k)) : Value) = .int (xs (i + k).toNat) := by unfold kp_iv kl_x; rw [Int32.ofInt_toInt]
  rw [← e1]
  exact kk
/-- the long of two ints -/
theorem kl_argJ (C : CallFix p m c cL_law 4 s args kp_wl own) {x : Int} (d0 : decode cL_law pc = .ok (.i2l, 1)) (d1 : decode cL_law (pc + 1) = .ok (.bipush 32, 2)) (d2 : decode cL_law (pc + 3) = .ok (.lshl, 1)) (kk : W p l e room_1 s m args below meth c H locs 600000 7302250 Q (F0 m (pc + 4) ls (.long ((Int32.ofInt x).toInt64 <<< ((Int32.ofInt 32).toInt64 &&& 63)) :: rest))) : W p l e room_1 s m args below meth c H locs 600000 7302250 Q (F0 m pc ls (kp_iv x :: rest)) := by
  refine lv_i2l C.1 C.2.1 d0 rfl ?_
  refine lv_bipush (v := Int32.ofInt 32) C.1 C.2.1 d1 rfl ?_
  exact lv_lshl C.1 C.2.1 d2 rfl kk
theorem kl_argK (C : CallFix p m c cL_law 4 s args kp_wl own) {x y : Int} {ix : Nat} (w : Cond.constantLong own ix 4294967295 ∈ kp_wl) (d0 : decode cL_law pc = .ok (.i2l, 1)) (d1 : decode cL_law (pc + 1) = .ok (.ldc2_w ix, 3)) (d2 : decode cL_law (pc + 4) = .ok (.land, 1)) (d3 : decode cL_law (pc + 5) = .ok (.lor, 1)) (kk : W p l e room_1 s m args below meth c H locs 600000 7302250 Q (F0 m (pc + 6) ls (kp_jv (kl_J x y) :: rest))) : W p l e room_1 s m args below meth c H locs 600000 7302250 Q (F0 m pc ls (kp_iv y :: .long ((Int32.ofInt x).toInt64 <<< ((Int32.ofInt 32).toInt64 &&& 63)) :: rest)) := by
  refine lv_i2l C.1 C.2.1 d0 rfl ?_
  refine lv_ldc2 C.1 C.2.1 C.2.2.2.1 (C.2.2.2.2 _ w) d1 ?_
  refine lv_land C.1 C.2.1 d2 ?_
  refine lv_lor C.1 C.2.1 d3 ?_
  have e1 : (kp_jv (kl_J x y) : Value) = .long ((Int32.ofInt x).toInt64 <<< ((Int32.ofInt 32).toInt64 &&& 63) ||| ((Int32.ofInt y).toInt64 &&& 4294967295)) := by
    unfold kp_jv kl_J
    rw [Int64.ofInt_toInt]
    rfl
  rw [← e1]
  exact kk
/-- script[..] != 0 -/
theorem kl_bool (C : CallFix p m c cL_law 4 s args kp_wl own) {a : Int} (ha : kp_in a) (d0 : decode cL_law pc = .ok (.ifCond .eq 7, 3)) (d1 : decode cL_law (pc + 3) = .ok (.iconst 1, 1)) (d2 : decode cL_law (pc + 4) = .ok (.goto 4, 3)) (d3 : decode cL_law (pc + 7) = .ok (.iconst 0, 1)) (kk : W p l e room_1 s m args below meth c H locs 600000 7302250 Q (F0 m (pc + 8) ls (kp_iv (kl_z a) :: rest))) : W p l e room_1 s m args below meth c H locs 600000 7302250 Q (F0 m pc ls (kp_iv a :: rest)) := by
  have e0 : Int32.ofInt a = 0 ↔ a = 0 := by rw [kp_0, kp_eq_i ha kp_in0]
  refine lv_if_eq (tgt := pc + 7) C.1 C.2.1 d0 (by omega) (fun z => ?_) (fun z => ?_)
  · have hz : kl_z a = 0 := by unfold kl_z; rw [if_pos (e0.mp z)]
    rw [hz] at kk
    exact lv_iconst (v := Int32.ofInt 0) C.1 C.2.1 d3 rfl kk
  · have hz : kl_z a = 1 := by unfold kl_z; rw [if_neg (fun q => z (e0.mpr q))]
    rw [hz] at kk
    refine lv_iconst (v := Int32.ofInt 1) C.1 C.2.1 d1 rfl ?_
    exact lv_goto (tgt := pc + 8) C.1 C.2.1 d2 (by omega) kk
end KLW
