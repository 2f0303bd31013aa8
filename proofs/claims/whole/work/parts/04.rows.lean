section KPR
variable {p : Program} {l : Launch} {e : Env} {R : Room} {s : State} {m : MethodId} {args : Array Value} {below : List Frame} {meth : Method} {c : Code} {H : Heap} {locs : List Loc} {Q : State → Prop}
variable {cc : ByteArray} {nL : Nat} {own : String} {pc : Nat} {ls : Array Slot} {rest : List Value} {X : kp_X} {lay : Nat → kp_D} {N : Nat} {σ : kp_W} {o : Int × kp_W}

theorem kp_iconst (C : CallFix p m c cc nL s args kp_wl own) {n : Int} (hdg : decode cc pc = .ok (.iconst n, 1)) (k : W p l e R s m args below meth c H locs 0 0 Q (F0 m (pc + 1) ls (kp_iv n :: rest))) : W p l e R s m args below meth c H locs 0 0 Q (F0 m pc ls rest) := lv_iconst C.1 C.2.1 hdg rfl k
theorem kp_bipush (C : CallFix p m c cc nL s args kp_wl own) {n : Int} (hdg : decode cc pc = .ok (.bipush n, 2)) (hv : (Int8.ofInt n).toInt32 = Int32.ofInt n) (k : W p l e R s m args below meth c H locs 0 0 Q (F0 m (pc + 2) ls (kp_iv n :: rest))) : W p l e R s m args below meth c H locs 0 0 Q (F0 m pc ls rest) := lv_bipush C.1 C.2.1 hdg hv k
theorem kp_sipush (C : CallFix p m c cc nL s args kp_wl own) {n : Int} (hdg : decode cc pc = .ok (.sipush n, 3)) (hv : (Int16.ofInt n).toInt32 = Int32.ofInt n) (k : W p l e R s m args below meth c H locs 0 0 Q (F0 m (pc + 3) ls (kp_iv n :: rest))) : W p l e R s m args below meth c H locs 0 0 Q (F0 m pc ls rest) := lv_sipush C.1 C.2.1 hdg hv k
theorem kp_lconst (C : CallFix p m c cc nL s args kp_wl own) {n : Fin 2} {v : Int} (hdg : decode cc pc = .ok (.lconst n, 1)) (hv : Int64.ofNat (n : Nat) = Int64.ofInt v) (k : W p l e R s m args below meth c H locs 0 0 Q (F0 m (pc + 1) ls (kp_jv v :: rest))) : W p l e R s m args below meth c H locs 0 0 Q (F0 m pc ls rest) := lv_lconst C.1 C.2.1 hdg hv k
theorem kp_ldc2 (C : CallFix p m c cc nL s args kp_wl own) {index : Nat} {v : Int64} {n : Int} (hq : Cond.constantLong own index v ∈ kp_wl) (hv : v = Int64.ofInt n) (hdg : decode cc pc = .ok (.ldc2_w index, 3)) (k : W p l e R s m args below meth c H locs 0 0 Q (F0 m (pc + 3) ls (kp_jv n :: rest))) : W p l e R s m args below meth c H locs 0 0 Q (F0 m pc ls rest) := lv_ldc2 C.1 C.2.1 C.2.2.2.1 (C.2.2.2.2 _ hq) hdg (by rw [hv]; exact k)
theorem kp_iload (C : CallFix p m c cc nL s args kp_wl own) {i : Nat} {x : Int} (hdg : decode cc pc = .ok (.iload i, 2)) (hl : ls[i]? = some (.val (kp_iv x))) (k : W p l e R s m args below meth c H locs 0 0 Q (F0 m (pc + 2) ls (kp_iv x :: rest))) : W p l e R s m args below meth c H locs 0 0 Q (F0 m pc ls rest) := lv_iload C.1 C.2.1 hdg hl k
theorem kp_iload_n (C : CallFix p m c cc nL s args kp_wl own) {j : Fin 4} {i : Nat} {x : Int} (hdg : decode cc pc = .ok (.iload_n j, 1)) (hi : (j : Nat) = i) (hl : ls[i]? = some (.val (kp_iv x))) (k : W p l e R s m args below meth c H locs 0 0 Q (F0 m (pc + 1) ls (kp_iv x :: rest))) : W p l e R s m args below meth c H locs 0 0 Q (F0 m pc ls rest) := lv_iload_n C.1 C.2.1 hdg hi hl k
theorem kp_lload (C : CallFix p m c cc nL s args kp_wl own) {i : Nat} {x : Int} (hdg : decode cc pc = .ok (.lload i, 2)) (hl : ls[i]? = some (.val (kp_jv x))) (k : W p l e R s m args below meth c H locs 0 0 Q (F0 m (pc + 2) ls (kp_jv x :: rest))) : W p l e R s m args below meth c H locs 0 0 Q (F0 m pc ls rest) := lv_lload C.1 C.2.1 hdg hl k
theorem kp_lload_n (C : CallFix p m c cc nL s args kp_wl own) {j : Fin 4} {i : Nat} {x : Int} (hdg : decode cc pc = .ok (.lload_n j, 1)) (hi : (j : Nat) = i) (hl : ls[i]? = some (.val (kp_jv x))) (k : W p l e R s m args below meth c H locs 0 0 Q (F0 m (pc + 1) ls (kp_jv x :: rest))) : W p l e R s m args below meth c H locs 0 0 Q (F0 m pc ls rest) := lv_lload_n C.1 C.2.1 hdg hi hl k
theorem kp_aload (C : CallFix p m c cc nL s args kp_wl own) {i : Nat} {x : Nat} (hdg : decode cc pc = .ok (.aload i, 2)) (hl : ls[i]? = some (.val (.ref x))) (k : W p l e R s m args below meth c H locs 0 0 Q (F0 m (pc + 2) ls (.ref x :: rest))) : W p l e R s m args below meth c H locs 0 0 Q (F0 m pc ls rest) := lv_aload C.1 C.2.1 hdg hl k
theorem kp_aload_n (C : CallFix p m c cc nL s args kp_wl own) {j : Fin 4} {i : Nat} {x : Nat} (hdg : decode cc pc = .ok (.aload_n j, 1)) (hi : (j : Nat) = i) (hl : ls[i]? = some (.val (.ref x))) (k : W p l e R s m args below meth c H locs 0 0 Q (F0 m (pc + 1) ls (.ref x :: rest))) : W p l e R s m args below meth c H locs 0 0 Q (F0 m pc ls rest) := lv_aload_n C.1 C.2.1 hdg hi hl k
theorem kp_istore (C : CallFix p m c cc nL s args kp_wl own) {i : Nat} {v : Int} {f : Int → kp_R} {lv : List (Nat × Value)} {lv' : Int → List (Nat × Value)} (hdg : decode cc pc = .ok (.istore i, 2)) (hl : lv_has ls nL lv) (hn : i < nL) (he : ∀ x : Int, (i, kp_iv x) :: lv.filter (fun q => !(q.1 == i) && !(q.1 + 1 == i && q.2.category == 2)) = lv' x) (hF : kp_lt v f = some o) (kk : ∀ (x : Int) (ls' : Array Slot), lv_has ls' nL (lv' x) → f x = some o → W p l e R s m args below meth c H locs 0 0 Q (F0 m (pc + 2) ls' rest)) : W p l e R s m args below meth c H locs 0 0 Q (F0 m pc ls (kp_iv v :: rest)) := lv_istore C.1 C.2.1 hdg hl hn (he v) (fun ls' hl' => kk v ls' hl' hF)
theorem kp_istore_n (C : CallFix p m c cc nL s args kp_wl own) {j : Fin 4} {i : Nat} {v : Int} {f : Int → kp_R} {lv : List (Nat × Value)} {lv' : Int → List (Nat × Value)} (hdg : decode cc pc = .ok (.istore_n j, 1)) (hi : (j : Nat) = i) (hl : lv_has ls nL lv) (hn : i < nL) (he : ∀ x : Int, (i, kp_iv x) :: lv.filter (fun q => !(q.1 == i) && !(q.1 + 1 == i && q.2.category == 2)) = lv' x) (hF : kp_lt v f = some o) (kk : ∀ (x : Int) (ls' : Array Slot), lv_has ls' nL (lv' x) → f x = some o → W p l e R s m args below meth c H locs 0 0 Q (F0 m (pc + 1) ls' rest)) : W p l e R s m args below meth c H locs 0 0 Q (F0 m pc ls (kp_iv v :: rest)) := lv_istore_n C.1 C.2.1 hdg hi hl hn (he v) (fun ls' hl' => kk v ls' hl' hF)
theorem kp_lstore (C : CallFix p m c cc nL s args kp_wl own) {i : Nat} {v : Int} {f : Int → kp_R} {lv : List (Nat × Value)} {lv' : Int → List (Nat × Value)} (hdg : decode cc pc = .ok (.lstore i, 2)) (hl : lv_has ls nL lv) (hn : i + 1 < nL) (he : ∀ x : Int, (i, kp_jv x) :: lv.filter (fun q => !(q.1 == i) && (!(q.1 == i + 1) && !(q.1 + 1 == i && q.2.category == 2))) = lv' x) (hF : kp_lt v f = some o) (kk : ∀ (x : Int) (ls' : Array Slot), lv_has ls' nL (lv' x) → f x = some o → W p l e R s m args below meth c H locs 0 0 Q (F0 m (pc + 2) ls' rest)) : W p l e R s m args below meth c H locs 0 0 Q (F0 m pc ls (kp_jv v :: rest)) := lv_lstore C.1 C.2.1 hdg hl hn (he v) (fun ls' hl' => kk v ls' hl' hF)
theorem kp_lstore_n (C : CallFix p m c cc nL s args kp_wl own) {j : Fin 4} {i : Nat} {v : Int} {f : Int → kp_R} {lv : List (Nat × Value)} {lv' : Int → List (Nat × Value)} (hdg : decode cc pc = .ok (.lstore_n j, 1)) (hi : (j : Nat) = i) (hl : lv_has ls nL lv) (hn : i + 1 < nL) (he : ∀ x : Int, (i, kp_jv x) :: lv.filter (fun q => !(q.1 == i) && (!(q.1 == i + 1) && !(q.1 + 1 == i && q.2.category == 2))) = lv' x) (hF : kp_lt v f = some o) (kk : ∀ (x : Int) (ls' : Array Slot), lv_has ls' nL (lv' x) → f x = some o → W p l e R s m args below meth c H locs 0 0 Q (F0 m (pc + 1) ls' rest)) : W p l e R s m args below meth c H locs 0 0 Q (F0 m pc ls (kp_jv v :: rest)) := lv_lstore_n C.1 C.2.1 hdg hi hl hn (he v) (fun ls' hl' => kk v ls' hl' hF)
theorem kp_astore_n (C : CallFix p m c cc nL s args kp_wl own) {j : Fin 4} {i : Nat} {x : Nat} {lv lv' : List (Nat × Value)} (hdg : decode cc pc = .ok (.astore_n j, 1)) (hi : (j : Nat) = i) (hl : lv_has ls nL lv) (hn : i < nL) (he : (i, Value.ref x) :: lv.filter (fun q => !(q.1 == i) && !(q.1 + 1 == i && q.2.category == 2)) = lv') (kk : ∀ ls' : Array Slot, lv_has ls' nL lv' → W p l e R s m args below meth c H locs 0 0 Q (F0 m (pc + 1) ls' rest)) : W p l e R s m args below meth c H locs 0 0 Q (F0 m pc ls (.ref x :: rest)) := lv_astore_n C.1 C.2.1 hdg hi hl hn he kk
theorem kp_iinc (C : CallFix p m c cc nL s args kp_wl own) {i k : Nat} {n v : Int} {f : Int → kp_R} {lv : List (Nat × Value)} {lv' : Int → List (Nat × Value)} (hdg : decode cc pc = .ok (.iinc i n, 3)) (hl : lv_has ls nL lv) (hk : lv[k]? = some (i, kp_iv v)) (hn : i < nL) (he : ∀ x : Int, (i, kp_iv x) :: lv.filter (fun q => !(q.1 == i) && !(q.1 + 1 == i && q.2.category == 2)) = lv' x) (hF : kp_lt (v + n) f = some o) (kk : ∀ (x : Int) (ls' : Array Slot), lv_has ls' nL (lv' x) → f x = some o → W p l e R s m args below meth c H locs 0 0 Q (F0 m (pc + 3) ls' rest)) : W p l e R s m args below meth c H locs 0 0 Q (F0 m pc ls rest) := lv_iinc C.1 C.2.1 hdg hl hk (Int32.ofInt_add v n).symm hn (he (v + n)) (fun ls' hl' => kk _ ls' hl' hF)
theorem kp_iadd (C : CallFix p m c cc nL s args kp_wl own) {x y : Int} (hdg : decode cc pc = .ok (.iadd, 1)) (k : W p l e R s m args below meth c H locs 0 0 Q (F0 m (pc + 1) ls (kp_iv (x + y) :: rest))) : W p l e R s m args below meth c H locs 0 0 Q (F0 m pc ls (kp_iv y :: kp_iv x :: rest)) := lv_iadd C.1 C.2.1 hdg (by have k := k; unfold kp_iv at k; rw [(Int32.ofInt_add x y)] at k; exact k)
theorem kp_isub (C : CallFix p m c cc nL s args kp_wl own) {x y : Int} (hdg : decode cc pc = .ok (.isub, 1)) (k : W p l e R s m args below meth c H locs 0 0 Q (F0 m (pc + 1) ls (kp_iv (x - y) :: rest))) : W p l e R s m args below meth c H locs 0 0 Q (F0 m pc ls (kp_iv y :: kp_iv x :: rest)) := lv_isub C.1 C.2.1 hdg (by have k := k; unfold kp_iv at k; rw [(Int32.ofInt_sub x y)] at k; exact k)
theorem kp_imul (C : CallFix p m c cc nL s args kp_wl own) {x y : Int} (hdg : decode cc pc = .ok (.imul, 1)) (k : W p l e R s m args below meth c H locs 0 0 Q (F0 m (pc + 1) ls (kp_iv (x * y) :: rest))) : W p l e R s m args below meth c H locs 0 0 Q (F0 m pc ls (kp_iv y :: kp_iv x :: rest)) := lv_imul C.1 C.2.1 hdg (by have k := k; unfold kp_iv at k; rw [(Int32.ofInt_mul x y)] at k; exact k)
theorem kp_xiand (C : CallFix p m c cc nL s args kp_wl own) {x y : Int} (hdg : decode cc pc = .ok (.iand, 1)) (k : W p l e R s m args below meth c H locs 0 0 Q (F0 m (pc + 1) ls (kp_iv (kp_and x y) :: rest))) : W p l e R s m args below meth c H locs 0 0 Q (F0 m pc ls (kp_iv y :: kp_iv x :: rest)) := lv_iand C.1 C.2.1 hdg (by have k := k; unfold kp_iv at k; rw [(kp_and_i x y).symm] at k; exact k)
theorem kp_xior (C : CallFix p m c cc nL s args kp_wl own) {x y : Int} (hdg : decode cc pc = .ok (.ior, 1)) (k : W p l e R s m args below meth c H locs 0 0 Q (F0 m (pc + 1) ls (kp_iv (kp_or x y) :: rest))) : W p l e R s m args below meth c H locs 0 0 Q (F0 m pc ls (kp_iv y :: kp_iv x :: rest)) := lv_ior C.1 C.2.1 hdg (by have k := k; unfold kp_iv at k; rw [(kp_or_i x y).symm] at k; exact k)
theorem kp_xixor (C : CallFix p m c cc nL s args kp_wl own) {x y : Int} (hdg : decode cc pc = .ok (.ixor, 1)) (k : W p l e R s m args below meth c H locs 0 0 Q (F0 m (pc + 1) ls (kp_iv (kp_xor x y) :: rest))) : W p l e R s m args below meth c H locs 0 0 Q (F0 m pc ls (kp_iv y :: kp_iv x :: rest)) := lv_ixor C.1 C.2.1 hdg (by have k := k; unfold kp_iv at k; rw [(kp_xor_i x y).symm] at k; exact k)
theorem kp_xladd (C : CallFix p m c cc nL s args kp_wl own) {x y : Int} (hdg : decode cc pc = .ok (.ladd, 1)) (k : W p l e R s m args below meth c H locs 0 0 Q (F0 m (pc + 1) ls (kp_jv (x + y) :: rest))) : W p l e R s m args below meth c H locs 0 0 Q (F0 m pc ls (kp_jv y :: kp_jv x :: rest)) := lv_ladd C.1 C.2.1 hdg (by have k := k; unfold kp_jv at k; rw [(Int64.ofInt_add x y)] at k; exact k)
theorem kp_xlsub (C : CallFix p m c cc nL s args kp_wl own) {x y : Int} (hdg : decode cc pc = .ok (.lsub, 1)) (k : W p l e R s m args below meth c H locs 0 0 Q (F0 m (pc + 1) ls (kp_jv (x - y) :: rest))) : W p l e R s m args below meth c H locs 0 0 Q (F0 m pc ls (kp_jv y :: kp_jv x :: rest)) := lv_lsub C.1 C.2.1 hdg (by have k := k; unfold kp_jv at k; rw [(Int64.ofInt_sub x y)] at k; exact k)
theorem kp_xland (C : CallFix p m c cc nL s args kp_wl own) {x y : Int} (hdg : decode cc pc = .ok (.land, 1)) (k : W p l e R s m args below meth c H locs 0 0 Q (F0 m (pc + 1) ls (kp_jv (kp_andL x y) :: rest))) : W p l e R s m args below meth c H locs 0 0 Q (F0 m pc ls (kp_jv y :: kp_jv x :: rest)) := lv_land C.1 C.2.1 hdg (by have k := k; unfold kp_jv at k; rw [(kp_and_l x y).symm] at k; exact k)
theorem kp_xlor (C : CallFix p m c cc nL s args kp_wl own) {x y : Int} (hdg : decode cc pc = .ok (.lor, 1)) (k : W p l e R s m args below meth c H locs 0 0 Q (F0 m (pc + 1) ls (kp_jv (kp_orL x y) :: rest))) : W p l e R s m args below meth c H locs 0 0 Q (F0 m pc ls (kp_jv y :: kp_jv x :: rest)) := lv_lor C.1 C.2.1 hdg (by have k := k; unfold kp_jv at k; rw [(kp_or_l x y).symm] at k; exact k)
theorem kp_xlxor (C : CallFix p m c cc nL s args kp_wl own) {x y : Int} (hdg : decode cc pc = .ok (.lxor, 1)) (k : W p l e R s m args below meth c H locs 0 0 Q (F0 m (pc + 1) ls (kp_jv (kp_xorL x y) :: rest))) : W p l e R s m args below meth c H locs 0 0 Q (F0 m pc ls (kp_jv y :: kp_jv x :: rest)) := lv_lxor C.1 C.2.1 hdg (by have k := k; unfold kp_jv at k; rw [(kp_xor_l x y).symm] at k; exact k)
theorem kp_ineg (C : CallFix p m c cc nL s args kp_wl own) {x : Int} (hdg : decode cc pc = .ok (.ineg, 1)) (k : W p l e R s m args below meth c H locs 0 0 Q (F0 m (pc + 1) ls (kp_iv (-x) :: rest))) : W p l e R s m args below meth c H locs 0 0 Q (F0 m pc ls (kp_iv x :: rest)) := lv_ineg C.1 C.2.1 hdg (by have k := k; unfold kp_iv at k; rw [Int32.ofInt_neg] at k; exact k)
theorem kp_idiv (C : CallFix p m c cc nL s args kp_wl own) {x y : Int} {r : kp_R} (hdg : decode cc pc = .ok (.idiv, 1)) (hF : kp_ck (0 ≤ x ∧ x ≤ 2147483647 ∧ 0 < y ∧ y ≤ 2147483647) r = some o) (k : r = some o → W p l e R s m args below meth c H locs 0 0 Q (F0 m (pc + 1) ls (kp_iv (x / y) :: rest))) : W p l e R s m args below meth c H locs 0 0 Q (F0 m pc ls (kp_iv y :: kp_iv x :: rest)) := by
  obtain ⟨a, hF⟩ := kp_ck_s hF
  have k := k hF
  unfold kp_iv at k
  rw [← kp_div ⟨a.1, a.2.1⟩ a.2.2] at k
  exact lv_idiv C.1 C.2.1 hdg (by rw [kp_0, kp_eq_i ⟨by omega, by omega⟩ kp_in0]; omega) k
theorem kp_irem (C : CallFix p m c cc nL s args kp_wl own) {x y : Int} {r : kp_R} (hdg : decode cc pc = .ok (.irem, 1)) (hF : kp_ck (0 ≤ x ∧ x ≤ 2147483647 ∧ 0 < y ∧ y ≤ 2147483647) r = some o) (k : r = some o → W p l e R s m args below meth c H locs 0 0 Q (F0 m (pc + 1) ls (kp_iv (x % y) :: rest))) : W p l e R s m args below meth c H locs 0 0 Q (F0 m pc ls (kp_iv y :: kp_iv x :: rest)) := by
  obtain ⟨a, hF⟩ := kp_ck_s hF
  have k := k hF
  unfold kp_iv at k
  rw [← kp_rem ⟨a.1, a.2.1⟩ a.2.2] at k
  exact lv_irem C.1 C.2.1 hdg (by rw [kp_0, kp_eq_i ⟨by omega, by omega⟩ kp_in0]; omega) k
theorem kp_xishl (C : CallFix p m c cc nL s args kp_wl own) {x y : Int} {r : kp_R} (hdg : decode cc pc = .ok (.ishl, 1)) (hF : kp_ck (0 ≤ y ∧ y < 32) r = some o) (k : r = some o → W p l e R s m args below meth c H locs 0 0 Q (F0 m (pc + 1) ls (kp_iv (x * 2 ^ y.toNat) :: rest))) : W p l e R s m args below meth c H locs 0 0 Q (F0 m pc ls (kp_iv y :: kp_iv x :: rest)) := by
  obtain ⟨a, hF⟩ := kp_ck_s hF
  have k := k hF
  unfold kp_iv at k
  rw [← kp_ishl a] at k
  exact lv_ishl C.1 C.2.1 hdg k
theorem kp_xishr (C : CallFix p m c cc nL s args kp_wl own) {x y : Int} {r : kp_R} (hdg : decode cc pc = .ok (.ishr, 1)) (hF : kp_ck (kp_in x ∧ 0 ≤ y ∧ y < 32) r = some o) (k : r = some o → W p l e R s m args below meth c H locs 0 0 Q (F0 m (pc + 1) ls (kp_iv (x / 2 ^ y.toNat) :: rest))) : W p l e R s m args below meth c H locs 0 0 Q (F0 m pc ls (kp_iv y :: kp_iv x :: rest)) := by
  obtain ⟨a, hF⟩ := kp_ck_s hF
  have k := k hF
  unfold kp_iv at k
  rw [← kp_ishr a.1 a.2] at k
  exact lv_ishr C.1 C.2.1 hdg k
theorem kp_xlshl (C : CallFix p m c cc nL s args kp_wl own) {x y : Int} {r : kp_R} (hdg : decode cc pc = .ok (.lshl, 1)) (hF : kp_ck (0 ≤ y ∧ y < 64) r = some o) (k : r = some o → W p l e R s m args below meth c H locs 0 0 Q (F0 m (pc + 1) ls (kp_jv (x * 2 ^ y.toNat) :: rest))) : W p l e R s m args below meth c H locs 0 0 Q (F0 m pc ls (kp_iv y :: kp_jv x :: rest)) := by
  obtain ⟨a, hF⟩ := kp_ck_s hF
  exact lv_lshl C.1 C.2.1 hdg (kp_lshl a) (k hF)
theorem kp_xlshr (C : CallFix p m c cc nL s args kp_wl own) {x y : Int} {r : kp_R} (hdg : decode cc pc = .ok (.lshr, 1)) (hF : kp_ck (kp_inL x ∧ 0 ≤ y ∧ y < 64) r = some o) (k : r = some o → W p l e R s m args below meth c H locs 0 0 Q (F0 m (pc + 1) ls (kp_jv (x / 2 ^ y.toNat) :: rest))) : W p l e R s m args below meth c H locs 0 0 Q (F0 m pc ls (kp_iv y :: kp_jv x :: rest)) := by
  obtain ⟨a, hF⟩ := kp_ck_s hF
  exact lv_lshr C.1 C.2.1 hdg (kp_lshr a.1 a.2) (k hF)
theorem kp_xlcmp (C : CallFix p m c cc nL s args kp_wl own) {x y : Int} {r : kp_R} (hdg : decode cc pc = .ok (.lcmp, 1)) (hF : kp_ck (kp_inL x ∧ kp_inL y) r = some o) (k : r = some o → W p l e R s m args below meth c H locs 0 0 Q (F0 m (pc + 1) ls (kp_iv (kp_cmp x y) :: rest))) : W p l e R s m args below meth c H locs 0 0 Q (F0 m pc ls (kp_jv y :: kp_jv x :: rest)) := by
  obtain ⟨a, hF⟩ := kp_ck_s hF
  have k := k hF
  unfold kp_iv at k
  rw [← kp_lcmp a.1 a.2] at k
  exact W.lcmp C.1 C.2.1 hdg k
theorem kp_xi2l (C : CallFix p m c cc nL s args kp_wl own) {x : Int} {r : kp_R} (hdg : decode cc pc = .ok (.i2l, 1)) (hF : kp_ck (kp_in x) r = some o) (k : r = some o → W p l e R s m args below meth c H locs 0 0 Q (F0 m (pc + 1) ls (kp_jv x :: rest))) : W p l e R s m args below meth c H locs 0 0 Q (F0 m pc ls (kp_iv x :: rest)) := by
  obtain ⟨a, hF⟩ := kp_ck_s hF
  exact lv_i2l C.1 C.2.1 hdg (kp_i2l a) (k hF)
theorem kp_xl2i (C : CallFix p m c cc nL s args kp_wl own) {x : Int} (hdg : decode cc pc = .ok (.l2i, 1)) (k : W p l e R s m args below meth c H locs 0 0 Q (F0 m (pc + 1) ls (kp_iv x :: rest))) : W p l e R s m args below meth c H locs 0 0 Q (F0 m pc ls (kp_jv x :: rest)) := lv_l2i C.1 C.2.1 hdg Int64.toInt32_ofInt k
theorem kp_dup (C : CallFix p m c cc nL s args kp_wl own) {va : Value} (hdg : decode cc pc = .ok (.dup, 1)) (hc : va.category = 1) (k : W p l e R s m args below meth c H locs 0 0 Q (F0 m (pc + 1) ls (va :: va :: rest))) : W p l e R s m args below meth c H locs 0 0 Q (F0 m pc ls (va :: rest)) := lv_dup C.1 C.2.1 hdg hc k
theorem kp_dup_x1 (C : CallFix p m c cc nL s args kp_wl own) {va vb : Value} (hdg : decode cc pc = .ok (.dup_x1, 1)) (hc : va.category = 1) (hd : vb.category = 1) (k : W p l e R s m args below meth c H locs 0 0 Q (F0 m (pc + 1) ls (va :: vb :: va :: rest))) : W p l e R s m args below meth c H locs 0 0 Q (F0 m pc ls (va :: vb :: rest)) := lv_dup_x1 C.1 C.2.1 hdg hc hd k
theorem kp_icmp_eq (C : CallFix p m c cc nL s args kp_wl own) {x y : Int} {a b : kp_R} {off : Int} {tgt : Nat} (hdg : decode cc pc = .ok (.if_icmp .eq off, 3)) (ht : (pc : Int) + off = (tgt : Int)) (hF : kp_eq x y a b = some o) (kt : a = some o → W p l e R s m args below meth c H locs 0 0 Q (F0 m tgt ls rest)) (kf : b = some o → W p l e R s m args below meth c H locs 0 0 Q (F0 m (pc + 3) ls rest)) : W p l e R s m args below meth c H locs 0 0 Q (F0 m pc ls (kp_iv y :: kp_iv x :: rest)) := by
  obtain ⟨hx, hy, ha, hb⟩ := kp_eq_s hF
  exact lv_icmp_eq C.1 C.2.1 hdg ht (fun z => kt (ha ((kp_eq_i hx hy).mp z))) (fun z => kf (hb (fun q => z ((kp_eq_i hx hy).mpr q))))
theorem kp_icmp_ne (C : CallFix p m c cc nL s args kp_wl own) {x y : Int} {a b : kp_R} {off : Int} {tgt : Nat} (hdg : decode cc pc = .ok (.if_icmp .ne off, 3)) (ht : (pc : Int) + off = (tgt : Int)) (hF : kp_eq x y a b = some o) (kt : b = some o → W p l e R s m args below meth c H locs 0 0 Q (F0 m tgt ls rest)) (kf : a = some o → W p l e R s m args below meth c H locs 0 0 Q (F0 m (pc + 3) ls rest)) : W p l e R s m args below meth c H locs 0 0 Q (F0 m pc ls (kp_iv y :: kp_iv x :: rest)) := by
  obtain ⟨hx, hy, ha, hb⟩ := kp_eq_s hF
  exact lv_icmp_ne C.1 C.2.1 hdg ht (fun z => kt (hb (fun q => z ((kp_eq_i hx hy).mpr q)))) (fun z => kf (ha ((kp_eq_i hx hy).mp z)))
theorem kp_icmp_lt (C : CallFix p m c cc nL s args kp_wl own) {x y : Int} {a b : kp_R} {off : Int} {tgt : Nat} (hdg : decode cc pc = .ok (.if_icmp .lt off, 3)) (ht : (pc : Int) + off = (tgt : Int)) (hF : kp_ls x y a b = some o) (kt : a = some o → W p l e R s m args below meth c H locs 0 0 Q (F0 m tgt ls rest)) (kf : b = some o → W p l e R s m args below meth c H locs 0 0 Q (F0 m (pc + 3) ls rest)) : W p l e R s m args below meth c H locs 0 0 Q (F0 m pc ls (kp_iv y :: kp_iv x :: rest)) := by
  obtain ⟨hx, hy, ha, hb⟩ := kp_ls_s hF
  exact lv_icmp_lt C.1 C.2.1 hdg ht (fun z => kt (ha ((kp_lt_i hx hy).mp z))) (fun z => kf (hb (fun q => z ((kp_lt_i hx hy).mpr q))))
theorem kp_icmp_ge (C : CallFix p m c cc nL s args kp_wl own) {x y : Int} {a b : kp_R} {off : Int} {tgt : Nat} (hdg : decode cc pc = .ok (.if_icmp .ge off, 3)) (ht : (pc : Int) + off = (tgt : Int)) (hF : kp_ls x y a b = some o) (kt : b = some o → W p l e R s m args below meth c H locs 0 0 Q (F0 m tgt ls rest)) (kf : a = some o → W p l e R s m args below meth c H locs 0 0 Q (F0 m (pc + 3) ls rest)) : W p l e R s m args below meth c H locs 0 0 Q (F0 m pc ls (kp_iv y :: kp_iv x :: rest)) := by
  obtain ⟨hx, hy, ha, hb⟩ := kp_ls_s hF
  exact lv_icmp_ge C.1 C.2.1 hdg ht (fun z => kt (hb (Int.not_lt.mpr ((kp_le_i hy hx).mp z)))) (fun z => kf (ha (Int.not_le.mp (fun q => z ((kp_le_i hy hx).mpr q)))))
theorem kp_icmp_gt (C : CallFix p m c cc nL s args kp_wl own) {x y : Int} {a b : kp_R} {off : Int} {tgt : Nat} (hdg : decode cc pc = .ok (.if_icmp .gt off, 3)) (ht : (pc : Int) + off = (tgt : Int)) (hF : kp_ls y x a b = some o) (kt : a = some o → W p l e R s m args below meth c H locs 0 0 Q (F0 m tgt ls rest)) (kf : b = some o → W p l e R s m args below meth c H locs 0 0 Q (F0 m (pc + 3) ls rest)) : W p l e R s m args below meth c H locs 0 0 Q (F0 m pc ls (kp_iv y :: kp_iv x :: rest)) := by
  obtain ⟨hx, hy, ha, hb⟩ := kp_ls_s hF
  exact lv_icmp_gt C.1 C.2.1 hdg ht (fun z => kt (ha ((kp_lt_i hx hy).mp z))) (fun z => kf (hb (fun q => z ((kp_lt_i hx hy).mpr q))))
theorem kp_icmp_le (C : CallFix p m c cc nL s args kp_wl own) {x y : Int} {a b : kp_R} {off : Int} {tgt : Nat} (hdg : decode cc pc = .ok (.if_icmp .le off, 3)) (ht : (pc : Int) + off = (tgt : Int)) (hF : kp_ls y x a b = some o) (kt : b = some o → W p l e R s m args below meth c H locs 0 0 Q (F0 m tgt ls rest)) (kf : a = some o → W p l e R s m args below meth c H locs 0 0 Q (F0 m (pc + 3) ls rest)) : W p l e R s m args below meth c H locs 0 0 Q (F0 m pc ls (kp_iv y :: kp_iv x :: rest)) := by
  obtain ⟨hx, hy, ha, hb⟩ := kp_ls_s hF
  exact lv_icmp_le C.1 C.2.1 hdg ht (fun z => kt (hb (Int.not_lt.mpr ((kp_le_i hy hx).mp z)))) (fun z => kf (ha (Int.not_le.mp (fun q => z ((kp_le_i hy hx).mpr q)))))
theorem kp_if_eq (C : CallFix p m c cc nL s args kp_wl own) {x : Int} {a b : kp_R} {off : Int} {tgt : Nat} (hdg : decode cc pc = .ok (.ifCond .eq off, 3)) (ht : (pc : Int) + off = (tgt : Int)) (hF : kp_eq x 0 a b = some o) (kt : a = some o → W p l e R s m args below meth c H locs 0 0 Q (F0 m tgt ls rest)) (kf : b = some o → W p l e R s m args below meth c H locs 0 0 Q (F0 m (pc + 3) ls rest)) : W p l e R s m args below meth c H locs 0 0 Q (F0 m pc ls (kp_iv x :: rest)) := by
  obtain ⟨hx, hy, ha, hb⟩ := kp_eq_s hF
  exact lv_if_eq C.1 C.2.1 hdg ht (fun z => kt (ha ((kp_eq_i hx hy).mp z))) (fun z => kf (hb (fun q => z ((kp_eq_i hx hy).mpr q))))
theorem kp_if_ne (C : CallFix p m c cc nL s args kp_wl own) {x : Int} {a b : kp_R} {off : Int} {tgt : Nat} (hdg : decode cc pc = .ok (.ifCond .ne off, 3)) (ht : (pc : Int) + off = (tgt : Int)) (hF : kp_eq x 0 a b = some o) (kt : b = some o → W p l e R s m args below meth c H locs 0 0 Q (F0 m tgt ls rest)) (kf : a = some o → W p l e R s m args below meth c H locs 0 0 Q (F0 m (pc + 3) ls rest)) : W p l e R s m args below meth c H locs 0 0 Q (F0 m pc ls (kp_iv x :: rest)) := by
  obtain ⟨hx, hy, ha, hb⟩ := kp_eq_s hF
  exact lv_if_ne C.1 C.2.1 hdg ht (fun z => kt (hb (fun q => z ((kp_eq_i hx hy).mpr q)))) (fun z => kf (ha ((kp_eq_i hx hy).mp z)))
theorem kp_if_lt (C : CallFix p m c cc nL s args kp_wl own) {x : Int} {a b : kp_R} {off : Int} {tgt : Nat} (hdg : decode cc pc = .ok (.ifCond .lt off, 3)) (ht : (pc : Int) + off = (tgt : Int)) (hF : kp_ls x 0 a b = some o) (kt : a = some o → W p l e R s m args below meth c H locs 0 0 Q (F0 m tgt ls rest)) (kf : b = some o → W p l e R s m args below meth c H locs 0 0 Q (F0 m (pc + 3) ls rest)) : W p l e R s m args below meth c H locs 0 0 Q (F0 m pc ls (kp_iv x :: rest)) := by
  obtain ⟨hx, hy, ha, hb⟩ := kp_ls_s hF
  exact lv_if_lt C.1 C.2.1 hdg ht (fun z => kt (ha ((kp_lt_i hx hy).mp z))) (fun z => kf (hb (fun q => z ((kp_lt_i hx hy).mpr q))))
theorem kp_if_ge (C : CallFix p m c cc nL s args kp_wl own) {x : Int} {a b : kp_R} {off : Int} {tgt : Nat} (hdg : decode cc pc = .ok (.ifCond .ge off, 3)) (ht : (pc : Int) + off = (tgt : Int)) (hF : kp_ls x 0 a b = some o) (kt : b = some o → W p l e R s m args below meth c H locs 0 0 Q (F0 m tgt ls rest)) (kf : a = some o → W p l e R s m args below meth c H locs 0 0 Q (F0 m (pc + 3) ls rest)) : W p l e R s m args below meth c H locs 0 0 Q (F0 m pc ls (kp_iv x :: rest)) := by
  obtain ⟨hx, hy, ha, hb⟩ := kp_ls_s hF
  exact lv_if_ge C.1 C.2.1 hdg ht (fun z => kt (hb (Int.not_lt.mpr ((kp_le_i hy hx).mp z)))) (fun z => kf (ha (Int.not_le.mp (fun q => z ((kp_le_i hy hx).mpr q)))))
theorem kp_if_gt (C : CallFix p m c cc nL s args kp_wl own) {x : Int} {a b : kp_R} {off : Int} {tgt : Nat} (hdg : decode cc pc = .ok (.ifCond .gt off, 3)) (ht : (pc : Int) + off = (tgt : Int)) (hF : kp_ls 0 x a b = some o) (kt : a = some o → W p l e R s m args below meth c H locs 0 0 Q (F0 m tgt ls rest)) (kf : b = some o → W p l e R s m args below meth c H locs 0 0 Q (F0 m (pc + 3) ls rest)) : W p l e R s m args below meth c H locs 0 0 Q (F0 m pc ls (kp_iv x :: rest)) := by
  obtain ⟨hx, hy, ha, hb⟩ := kp_ls_s hF
  exact lv_if_gt C.1 C.2.1 hdg ht (fun z => kt (ha ((kp_lt_i hx hy).mp z))) (fun z => kf (hb (fun q => z ((kp_lt_i hx hy).mpr q))))
theorem kp_if_le (C : CallFix p m c cc nL s args kp_wl own) {x : Int} {a b : kp_R} {off : Int} {tgt : Nat} (hdg : decode cc pc = .ok (.ifCond .le off, 3)) (ht : (pc : Int) + off = (tgt : Int)) (hF : kp_ls 0 x a b = some o) (kt : b = some o → W p l e R s m args below meth c H locs 0 0 Q (F0 m tgt ls rest)) (kf : a = some o → W p l e R s m args below meth c H locs 0 0 Q (F0 m (pc + 3) ls rest)) : W p l e R s m args below meth c H locs 0 0 Q (F0 m pc ls (kp_iv x :: rest)) := by
  obtain ⟨hx, hy, ha, hb⟩ := kp_ls_s hF
  exact lv_if_le C.1 C.2.1 hdg ht (fun z => kt (hb (Int.not_lt.mpr ((kp_le_i hy hx).mp z)))) (fun z => kf (ha (Int.not_le.mp (fun q => z ((kp_le_i hy hx).mpr q)))))
theorem kp_goto (C : CallFix p m c cc nL s args kp_wl own) {off : Int} {tgt : Nat} (hdg : decode cc pc = .ok (.goto off, 3)) (ht : (pc : Int) + off = (tgt : Int)) (k : W p l e R s m args below meth c H locs 0 0 Q (F0 m tgt ls rest)) : W p l e R s m args below meth c H locs 0 0 Q (F0 m pc ls rest) := lv_goto C.1 C.2.1 hdg ht k
theorem kp_obj {k ci : Nat} {rs : List (Option Nat)} (hL : k < N ∧ lay k = (0, ci, rs)) : (kp_ws X lay N σ)[k]? = some (kp_ad X k, .inr (ci, kp_fl (kp_ad X) (σ k) 0 rs)) := by
  rw [kp_ws_at hL.1, hL.2]
  rfl
theorem kp_arr {k n : Nat} {rs : List (Option Nat)} (hL : k < N ∧ lay k = (1, n, rs)) : (kp_ws X lay N σ)[k]? = some (kp_ad X k, .inl (kp_cy X 0, n, .inl fun j => Int32.ofInt (σ k j))) := by
  rw [kp_ws_at hL.1, hL.2]
  rfl
theorem kp_arrL {k n : Nat} {rs : List (Option Nat)} (hL : k < N ∧ lay k = (2, n, rs)) : (kp_ws X lay N σ)[k]? = some (kp_ad X k, .inl (kp_cy X 1, n, .inr (.inl fun j => Int64.ofInt (σ k j)))) := by
  rw [kp_ws_at hL.1, hL.2]
  rfl
theorem kp_arrZ {k n : Nat} {rs : List (Option Nat)} (hL : k < N ∧ lay k = (3, n, rs)) : (kp_ws X lay N σ)[k]? = some (kp_ad X k, .inl (kp_cy X 2, n, .inl fun j => Int32.ofInt (σ k j))) := by
  rw [kp_ws_at hL.1, hL.2]
  rfl
theorem kp_geti (C : CallFix p m c cc nL s args kp_wl own) (G : kp_G X N s) (h : kp_H X lay N s σ H locs) {C0 : String} {T : u_T} {Nf ci index k : Nat} {rs : List (Option Nat)} (hL : k < N ∧ lay k = (0, ci, rs)) (hc : vwCl[ci]? = some (C0, T, Nf)) (hin : ∀ w ∈ u_ws C0 T Nf, w ∈ kp_wl) {j : Nat} (hj : j < Nf) (hw : Cond.fieldLink own index (T j).1 (T j).2.1 (T j).2.2.1 ∈ kp_wl) (hr : rs[j]? = some none) (hdg : decode cc pc = .ok (.getfield index, 3)) (kk : W p l e R s m args below meth c H locs 0 0 Q (F0 m (pc + 3) ls (kp_iv (σ k j) :: rest))) : W p l e R s m args below meth c H locs 0 0 Q (F0 m pc ls (.ref (kp_ad X k) :: rest)) := by
  refine va_get C.1 C.2.1 C.2.2.2.2 hin C.2.2.2.1 G.1 h.1 k (kp_obj hL) hc j hj (C.2.2.2.2 _ hw) (fun _ z => z) (v := kp_iv (σ k j)) ?_ hdg kk
  rw [kp_fl_get, hr, Nat.zero_add]
  rfl
theorem kp_getr (C : CallFix p m c cc nL s args kp_wl own) (G : kp_G X N s) (h : kp_H X lay N s σ H locs) {C0 : String} {T : u_T} {Nf ci index k : Nat} {rs : List (Option Nat)} (hL : k < N ∧ lay k = (0, ci, rs)) (hc : vwCl[ci]? = some (C0, T, Nf)) (hin : ∀ w ∈ u_ws C0 T Nf, w ∈ kp_wl) {j r : Nat} (hj : j < Nf) (hw : Cond.fieldLink own index (T j).1 (T j).2.1 (T j).2.2.1 ∈ kp_wl) (hr : rs[j]? = some (some r)) (hdg : decode cc pc = .ok (.getfield index, 3)) (kk : W p l e R s m args below meth c H locs 0 0 Q (F0 m (pc + 3) ls (.ref (kp_ad X r) :: rest))) : W p l e R s m args below meth c H locs 0 0 Q (F0 m pc ls (.ref (kp_ad X k) :: rest)) := by
  refine va_get C.1 C.2.1 C.2.2.2.2 hin C.2.2.2.1 G.1 h.1 k (kp_obj hL) hc j hj (C.2.2.2.2 _ hw) (fun _ z => z) (v := .ref (kp_ad X r)) ?_ hdg kk
  rw [kp_fl_get, hr]
  rfl
theorem kp_puti (C : CallFix p m c cc nL s args kp_wl own) (G : kp_G X N s) (h : kp_H X lay N s σ H locs) {C0 : String} {T : u_T} {Nf ci index k : Nat} {rs : List (Option Nat)} (hL : k < N ∧ lay k = (0, ci, rs)) (hc : vwCl[ci]? = some (C0, T, Nf)) (hin : ∀ w ∈ u_ws C0 T Nf, w ∈ kp_wl) (ty0 : Nat → FieldType) (hty : ∀ k, k < Nf → parseFieldDescriptor (T k).2.2.1 = some (ty0 k)) (hnm : ∀ a, a < Nf → ∀ b, b < Nf → a ≠ b → (T a).2.1 ≠ (T b).2.1) {j : Nat} (hj : j < Nf) (hw : Cond.fieldLink own index (T j).1 (T j).2.1 (T j).2.2.1 ∈ kp_wl) (hr : rs[j]? = some none) (hfin : (T j).2.2.2 = false) (hd : parseFieldDescriptor (T j).2.2.1 = some .int) (hdg : decode cc pc = .ok (.putfield index, 3)) {x : Int} {f : kp_W → kp_R} (hF : kp_lt (kp_up σ k j x) f = some o) (kk : ∀ (σ' : kp_W) (H1 : Heap) (locs1 : List Loc), kp_H X lay N s σ' H1 locs1 → f σ' = some o → W p l e R s m args below meth c H1 locs1 0 0 Q (F0 m (pc + 3) ls rest)) : W p l e R s m args below meth c H locs 0 0 Q (F0 m pc ls (kp_iv x :: .ref (kp_ad X k) :: rest)) := by
  refine va_put C.1 C.2.1 C.2.2.2.2 hin ty0 hty hnm C.2.2.2.1 G.1 h.1 (kp_ws_D G.2.1) h.2 k (kp_obj hL) hc j hj (C.2.2.2.2 _ hw) (fun _ z => z) hfin (v := kp_iv x) hd rfl rfl (by rw [kp_fl_len]; exact (List.getElem?_eq_some_iff.mp hr).1) hdg (fun H1 locs1 hP _ hS => kk (kp_up σ k j x) H1 locs1 ⟨?_, hS⟩ hF)
  rw [kp_ws_set (σ' := kp_up σ k j x) hL.1 (by rw [hL.2]; show _ = Sum.inr _; rw [← kp_fl_set hr]; rfl) (fun _ hq => kp_up_ne hq)] at hP
  exact hP
theorem kp_putz (C : CallFix p m c cc nL s args kp_wl own) (G : kp_G X N s) (h : kp_H X lay N s σ H locs) {C0 : String} {T : u_T} {Nf ci index k : Nat} {rs : List (Option Nat)} (hL : k < N ∧ lay k = (0, ci, rs)) (hc : vwCl[ci]? = some (C0, T, Nf)) (hin : ∀ w ∈ u_ws C0 T Nf, w ∈ kp_wl) (ty0 : Nat → FieldType) (hty : ∀ k, k < Nf → parseFieldDescriptor (T k).2.2.1 = some (ty0 k)) (hnm : ∀ a, a < Nf → ∀ b, b < Nf → a ≠ b → (T a).2.1 ≠ (T b).2.1) {j : Nat} (hj : j < Nf) (hw : Cond.fieldLink own index (T j).1 (T j).2.1 (T j).2.2.1 ∈ kp_wl) (hr : rs[j]? = some none) (hfin : (T j).2.2.2 = false) (hd : parseFieldDescriptor (T j).2.2.1 = some .boolean) (hdg : decode cc pc = .ok (.putfield index, 3)) {x : Int} {f : kp_W → kp_R} (hF : kp_ck (x = 0 ∨ x = 1) (kp_lt (kp_up σ k j x) f) = some o) (kk : ∀ (σ' : kp_W) (H1 : Heap) (locs1 : List Loc), kp_H X lay N s σ' H1 locs1 → f σ' = some o → W p l e R s m args below meth c H1 locs1 0 0 Q (F0 m (pc + 3) ls rest)) : W p l e R s m args below meth c H locs 0 0 Q (F0 m pc ls (kp_iv x :: .ref (kp_ad X k) :: rest)) := by
  obtain ⟨hx, hF⟩ := kp_ck_s hF
  refine va_put C.1 C.2.1 C.2.2.2.2 hin ty0 hty hnm C.2.2.2.1 G.1 h.1 (kp_ws_D G.2.1) h.2 k (kp_obj hL) hc j hj (C.2.2.2.2 _ hw) (fun _ z => z) hfin (v := kp_iv x) hd (by rcases hx with rfl | rfl <;> rfl) (by rcases hx with rfl | rfl <;> rfl) (by rw [kp_fl_len]; exact (List.getElem?_eq_some_iff.mp hr).1) hdg (fun H1 locs1 hP _ hS => kk (kp_up σ k j x) H1 locs1 ⟨?_, hS⟩ hF)
  rw [kp_ws_set (σ' := kp_up σ k j x) hL.1 (by rw [hL.2]; show _ = Sum.inr _; rw [← kp_fl_set hr]; rfl) (fun _ hq => kp_up_ne hq)] at hP
  exact hP
theorem kp_iald (C : CallFix p m c cc nL s args kp_wl own) (G : kp_G X N s) (h : kp_H X lay N s σ H locs) {k : Nat} {n i : Int} {rs : List (Option Nat)} (hL : k < N ∧ lay k = (1, n.toNat, rs)) (hn : n ≤ 2147483647) {r : kp_R} (hdg : decode cc pc = .ok (.iaload, 1)) (hF : kp_ck (0 ≤ i ∧ i < n) r = some o) (kk : r = some o → W p l e R s m args below meth c H locs 0 0 Q (F0 m (pc + 1) ls (kp_iv (σ k i.toNat) :: rest))) : W p l e R s m args below meth c H locs 0 0 Q (F0 m pc ls (kp_iv i :: .ref (kp_ad X k) :: rest)) := by
  obtain ⟨a, hF⟩ := kp_ck_s hF
  have kk := kk hF
  unfold kp_iv at kk ⊢
  rw [← kp_clx a hn] at kk
  exact va_iald C.1 C.2.1 G.1 h.1 k 0 (kp_arr hL) rfl (kp_vin a hn) hdg kk
theorem kp_lald (C : CallFix p m c cc nL s args kp_wl own) (G : kp_G X N s) (h : kp_H X lay N s σ H locs) {k : Nat} {n i : Int} {rs : List (Option Nat)} (hL : k < N ∧ lay k = (2, n.toNat, rs)) (hn : n ≤ 2147483647) {r : kp_R} (hdg : decode cc pc = .ok (.laload, 1)) (hF : kp_ck (0 ≤ i ∧ i < n) r = some o) (kk : r = some o → W p l e R s m args below meth c H locs 0 0 Q (F0 m (pc + 1) ls (kp_jv (σ k i.toNat) :: rest))) : W p l e R s m args below meth c H locs 0 0 Q (F0 m pc ls (kp_iv i :: .ref (kp_ad X k) :: rest)) := by
  obtain ⟨a, hF⟩ := kp_ck_s hF
  have kk := kk hF
  unfold kp_jv at kk
  unfold kp_iv
  rw [← kp_clx a hn] at kk
  exact va_lald C.1 C.2.1 G.1 h.1 k 1 (kp_arrL hL) rfl (kp_vin a hn) hdg kk
theorem kp_zald (C : CallFix p m c cc nL s args kp_wl own) (G : kp_G X N s) (h : kp_H X lay N s σ H locs) {k : Nat} {n i : Int} {rs : List (Option Nat)} (hL : k < N ∧ lay k = (3, n.toNat, rs)) (hn : n ≤ 2147483647) {r : kp_R} (hdg : decode cc pc = .ok (.baload, 1)) (hF : kp_ck (0 ≤ i ∧ i < n) r = some o) (kk : r = some o → W p l e R s m args below meth c H locs 0 0 Q (F0 m (pc + 1) ls (kp_iv (σ k i.toNat) :: rest))) : W p l e R s m args below meth c H locs 0 0 Q (F0 m pc ls (kp_iv i :: .ref (kp_ad X k) :: rest)) := by
  obtain ⟨a, hF⟩ := kp_ck_s hF
  have kk := kk hF
  unfold kp_iv at kk ⊢
  rw [← kp_clx a hn] at kk
  exact va_zald C.1 C.2.1 G.1 h.1 k 2 (kp_arrZ hL) rfl (kp_vin a hn) hdg kk
theorem kp_updI {σ : kp_W} {k i : Nat} {x : Int} : upd (fun j => Int32.ofInt (σ k j)) i (Int32.ofInt x) = fun j => Int32.ofInt (kp_up σ k i x k j) := by
  funext j
  unfold upd
  rw [kp_up_eq]
  by_cases q : j = i
  · rw [if_pos q, if_pos q]
  · rw [if_neg q, if_neg q]
theorem kp_updJ {σ : kp_W} {k i : Nat} {x : Int} : vp_updL (fun j => Int64.ofInt (σ k j)) i (Int64.ofInt x) = fun j => Int64.ofInt (kp_up σ k i x k j) := by
  funext j
  unfold vp_updL
  rw [kp_up_eq]
  by_cases q : j = i
  · rw [if_pos q, if_pos q]
  · rw [if_neg q, if_neg q]
theorem kp_iast (C : CallFix p m c cc nL s args kp_wl own) (G : kp_G X N s) (h : kp_H X lay N s σ H locs) {k : Nat} {n i : Int} {rs : List (Option Nat)} (hL : k < N ∧ lay k = (1, n.toNat, rs)) (hn : n ≤ 2147483647) {x : Int} {f : kp_W → kp_R} (hdg : decode cc pc = .ok (.iastore, 1)) (hF : kp_ck (0 ≤ i ∧ i < n) (kp_lt (kp_up σ k i.toNat x) f) = some o) (kk : ∀ (σ' : kp_W) (H1 : Heap) (locs1 : List Loc), kp_H X lay N s σ' H1 locs1 → f σ' = some o → W p l e R s m args below meth c H1 locs1 0 0 Q (F0 m (pc + 1) ls rest)) : W p l e R s m args below meth c H locs 0 0 Q (F0 m pc ls (kp_iv x :: kp_iv i :: .ref (kp_ad X k) :: rest)) := by
  obtain ⟨a, hF⟩ := kp_ck_s hF
  refine va_iast C.1 C.2.1 G.1 h.1 (kp_ws_D G.2.1) h.2 k 0 (kp_arr hL) rfl (kp_vin a hn) hdg (fun H1 locs1 hP _ hS => kk (kp_up σ k i.toNat x) H1 locs1 ⟨?_, hS⟩ hF)
  rw [kp_clx a hn, kp_updI, kp_ws_set (σ' := kp_up σ k i.toNat x) hL.1 (by rw [hL.2]; rfl) (fun _ hq => kp_up_ne hq)] at hP
  exact hP
theorem kp_last (C : CallFix p m c cc nL s args kp_wl own) (G : kp_G X N s) (h : kp_H X lay N s σ H locs) {k : Nat} {n i : Int} {rs : List (Option Nat)} (hL : k < N ∧ lay k = (2, n.toNat, rs)) (hn : n ≤ 2147483647) {x : Int} {f : kp_W → kp_R} (hdg : decode cc pc = .ok (.lastore, 1)) (hF : kp_ck (0 ≤ i ∧ i < n) (kp_lt (kp_up σ k i.toNat x) f) = some o) (kk : ∀ (σ' : kp_W) (H1 : Heap) (locs1 : List Loc), kp_H X lay N s σ' H1 locs1 → f σ' = some o → W p l e R s m args below meth c H1 locs1 0 0 Q (F0 m (pc + 1) ls rest)) : W p l e R s m args below meth c H locs 0 0 Q (F0 m pc ls (kp_jv x :: kp_iv i :: .ref (kp_ad X k) :: rest)) := by
  obtain ⟨a, hF⟩ := kp_ck_s hF
  refine va_last C.1 C.2.1 G.1 h.1 (kp_ws_D G.2.1) h.2 k 1 (kp_arrL hL) rfl (kp_vin a hn) hdg (fun H1 locs1 hP _ hS => kk (kp_up σ k i.toNat x) H1 locs1 ⟨?_, hS⟩ hF)
  rw [kp_clx a hn, kp_updJ, kp_ws_set (σ' := kp_up σ k i.toNat x) hL.1 (by rw [hL.2]; rfl) (fun _ hq => kp_up_ne hq)] at hP
  exact hP
theorem kp_zast (C : CallFix p m c cc nL s args kp_wl own) (G : kp_G X N s) (h : kp_H X lay N s σ H locs) {k : Nat} {n i : Int} {rs : List (Option Nat)} (hL : k < N ∧ lay k = (3, n.toNat, rs)) (hn : n ≤ 2147483647) {x : Int} {f : kp_W → kp_R} (hdg : decode cc pc = .ok (.bastore, 1)) (hF : kp_ck (x = 0 ∨ x = 1) (kp_ck (0 ≤ i ∧ i < n) (kp_lt (kp_up σ k i.toNat x) f)) = some o) (kk : ∀ (σ' : kp_W) (H1 : Heap) (locs1 : List Loc), kp_H X lay N s σ' H1 locs1 → f σ' = some o → W p l e R s m args below meth c H1 locs1 0 0 Q (F0 m (pc + 1) ls rest)) : W p l e R s m args below meth c H locs 0 0 Q (F0 m pc ls (kp_iv x :: kp_iv i :: .ref (kp_ad X k) :: rest)) := by
  obtain ⟨hx, hF⟩ := kp_ck_s hF
  obtain ⟨a, hF⟩ := kp_ck_s hF
  have en : vp_nar .boolean (Int32.ofInt x) = Int32.ofInt x := by rcases hx with rfl | rfl <;> rfl
  refine va_zast C.1 C.2.1 G.1 h.1 (kp_ws_D G.2.1) h.2 k 2 (kp_arrZ hL) rfl (kp_vin a hn) hdg (fun H1 locs1 hP _ hS => kk (kp_up σ k i.toNat x) H1 locs1 ⟨?_, hS⟩ hF)
  rw [en, kp_clx a hn, kp_updI, kp_ws_set (σ' := kp_up σ k i.toNat x) hL.1 (by rw [hL.2]; rfl) (fun _ hq => kp_up_ne hq)] at hP
  exact hP
theorem kp_alen (C : CallFix p m c cc nL s args kp_wl own) (G : kp_G X N s) (h : kp_H X lay N s σ H locs) {k : Nat} {n : Int} {rs : List (Option Nat)} (hL : k < N ∧ lay k = (1, n.toNat, rs)) (hn : 0 ≤ n) (hdg : decode cc pc = .ok (.arraylength, 1)) (kk : W p l e R s m args below meth c H locs 0 0 Q (F0 m (pc + 1) ls (kp_iv n :: rest))) : W p l e R s m args below meth c H locs 0 0 Q (F0 m pc ls (.ref (kp_ad X k) :: rest)) := va_alen C.1 C.2.1 G.1 h.1 k 0 (kp_arr hL) (ty := .int) rfl (v := Int32.ofInt n) (by show Int32.ofNat n.toNat = _; rw [← Int32.ofInt_eq_ofNat, kp_toNat hn]) hdg kk
theorem kp_iald0 (C : CallFix p m c cc nL s args kp_wl own) (G : kp_G X N s) (h : kp_H X lay N s σ H locs) {k : Nat} {n i : Int} {rs : List (Option Nat)} (hL : k < N ∧ lay k = (1, n.toNat, rs)) (hn : n ≤ 2147483647) (a : 0 ≤ i ∧ i < n) (hdg : decode cc pc = .ok (.iaload, 1)) (kk : W p l e R s m args below meth c H locs 0 0 Q (F0 m (pc + 1) ls (kp_iv (σ k i.toNat) :: rest))) : W p l e R s m args below meth c H locs 0 0 Q (F0 m pc ls (kp_iv i :: .ref (kp_ad X k) :: rest)) := by
  have kk := kk
  unfold kp_iv at kk
  unfold kp_iv
  rw [← kp_clx a hn] at kk
  exact va_iald C.1 C.2.1 G.1 h.1 k 0 (kp_arr hL) rfl (kp_vin a hn) hdg kk
theorem kp_lald0 (C : CallFix p m c cc nL s args kp_wl own) (G : kp_G X N s) (h : kp_H X lay N s σ H locs) {k : Nat} {n i : Int} {rs : List (Option Nat)} (hL : k < N ∧ lay k = (2, n.toNat, rs)) (hn : n ≤ 2147483647) (a : 0 ≤ i ∧ i < n) (hdg : decode cc pc = .ok (.laload, 1)) (kk : W p l e R s m args below meth c H locs 0 0 Q (F0 m (pc + 1) ls (kp_jv (σ k i.toNat) :: rest))) : W p l e R s m args below meth c H locs 0 0 Q (F0 m pc ls (kp_iv i :: .ref (kp_ad X k) :: rest)) := by
  have kk := kk
  unfold kp_jv at kk
  unfold kp_iv
  rw [← kp_clx a hn] at kk
  exact va_lald C.1 C.2.1 G.1 h.1 k 1 (kp_arrL hL) rfl (kp_vin a hn) hdg kk
theorem kp_zald0 (C : CallFix p m c cc nL s args kp_wl own) (G : kp_G X N s) (h : kp_H X lay N s σ H locs) {k : Nat} {n i : Int} {rs : List (Option Nat)} (hL : k < N ∧ lay k = (3, n.toNat, rs)) (hn : n ≤ 2147483647) (a : 0 ≤ i ∧ i < n) (hdg : decode cc pc = .ok (.baload, 1)) (kk : W p l e R s m args below meth c H locs 0 0 Q (F0 m (pc + 1) ls (kp_iv (σ k i.toNat) :: rest))) : W p l e R s m args below meth c H locs 0 0 Q (F0 m pc ls (kp_iv i :: .ref (kp_ad X k) :: rest)) := by
  have kk := kk
  unfold kp_iv at kk
  unfold kp_iv
  rw [← kp_clx a hn] at kk
  exact va_zald C.1 C.2.1 G.1 h.1 k 2 (kp_arrZ hL) rfl (kp_vin a hn) hdg kk
end KPR
