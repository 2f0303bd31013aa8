-- constructors: the same rows with written lengths; blocks put together
theorem kp_wsS {Y : kp_X} {lay : Nat → kp_D} {a n : Nat} {σ : kp_W} : kp_ws Y lay (a + n) σ = kp_ws Y lay a σ ++ (List.range n).map (fun k => (kp_ad Y (a + k), kp_ce Y (lay (a + k)) (σ (a + k)))) := by
  unfold kp_ws
  rw [List.range_add, List.map_append, List.map_map]
  rfl
theorem kp_wsA {X : kp_X} {h a n : Nat} {lay lay' : Nat → kp_D} {σ σ' : kp_W} {ws : va_W} (h0 : ws = kp_ws (kp_Xh X h) lay a σ) (hc : ∀ k, k < n → kp_ce (kp_Xh X (h + a)) (lay' k) (σ' k) = kp_ce (kp_Xh X h) (lay (a + k)) (σ (a + k))) : ws ++ kp_ws (kp_Xh X (h + a)) lay' n σ' = kp_ws (kp_Xh X h) lay (a + n) σ := by
  rw [kp_wsS, h0]
  congr 1
  unfold kp_ws
  refine List.map_congr_left (fun k hk => ?_)
  rw [hc k (List.mem_range.mp hk)]
  show (h + a + k, _) = (h + (a + k), _)
  rw [Nat.add_assoc]
theorem kp_wsB {X : kp_X} {h a : Nat} {lay : Nat → kp_D} {σ : kp_W} {ws : va_W} (h0 : ws = kp_ws (kp_Xh X h) lay a σ) {e : va_E} (hc : e = kp_ce (kp_Xh X h) (lay a) (σ a)) : ws ++ [(h + a, e)] = kp_ws (kp_Xh X h) lay (a + 1) σ := by
  rw [kp_wsS, h0, hc]
  rfl
section CTU
variable {p : Program} {l : Launch} {e : Env} {R : Room} {s : State} {m : MethodId} {args : Array Value} {below : List Frame} {meth : Method} {c : Code} {H : Heap} {locs : List Loc} {Q : State → Prop} {cells slots : Nat}
variable {cc : ByteArray} {nL : Nat} {own : String} {pc : Nat} {ls : Array Slot} {rest : List Value} {X : kp_X} {h : Nat} {wr : va_W} {a : Nat × va_E}
theorem cs_newa (C : CallFix p m c cc nL s args kp_wl own) (G : kp_GK X h s) (S : kp_CS X h s (a :: wr) H locs cells) {k : Nat} (hlen : wr.length + 1 = k) {atype : ArrayType} {ty : FieldType} (hty : newarray.typeOf atype = ty) {t0 : Nat} {cA : ClassId} (ht : (kp_tys X)[t0]? = some (cA, ty)) (hra : ∀ U c0, va_RA U c0 ty → U.vm.findClass ("[" ++ ty.toString) = some c0) (harr : Cond.arrayClass ty ∈ kp_wl) {n : Int32} {N' : Nat} {a0 : vp_A} (ha : ∀ cA : ClassId, vp_cell cA a0 = arrV cA N' (fun _ => defaultValue ty)) (hn : ¬ n < 0) (hN : n.toNatClampNeg = N') (hbytes : N' * componentBytes ty ≤ 536870912) (hcells : cells + 1 ≤ R.cells) (hslots : slots + N' ≤ R.slots) (hdg : decode cc pc = .ok (.newarray atype, 2))
    (kk : ∀ (H1 : Heap), kp_CS X h s (a :: (wr ++ [(h + k, .inl (cA, a0))])) H1 locs (cells + 1) → W p l e R s m args below meth c H1 locs (cells + 1) (slots + N') Q (F0 m (pc + 2) ls (.ref (h + k) :: rest))) : W p l e R s m args below meth c H locs cells slots Q (F0 m pc ls (.int n :: rest)) := by
  subst hlen
  exact cr_newa C G S hty ht hra harr ha hn hN hbytes hcells hslots hdg kk
theorem cs_new (C : CallFix p m c cc nL s args kp_wl own) (G : kp_GK X h s) (S : kp_CS X h s (a :: wr) H locs cells) {k : Nat} (hlen : wr.length + 1 = k) {C0 : String} {T : u_T} {N ci index : Nat} (hin : ∀ w ∈ u_ws C0 T N, w ∈ kp_wl) (ty : Nat → FieldType) (hty : ∀ k, k < N → parseFieldDescriptor (T k).2.2.1 = some (ty k)) (hcl : Cond.classLink own index C0 ∈ kp_wl) (hinst : Cond.instantiable C0 N ∈ kp_wl) (hini : Cond.initialized C0 ∈ kp_wl) (hc : vwCl[ci]? = some (C0, T, N)) {fs : List Value} (hfs : ∀ j, j < N → defaultValue (ty j) = vp_V fs j) (hcells : cells + 1 ≤ R.cells) (hslots : slots + N ≤ R.slots) (hdg : decode cc pc = .ok (.new index, 3))
    (kk : ∀ (H1 : Heap), kp_CS X h s (a :: (wr ++ [(h + k, .inr (ci, fs))])) H1 locs (cells + 1) → W p l e R s m args below meth c H1 locs (cells + 1) (slots + N) Q (F0 m (pc + 3) ls (.ref (h + k) :: rest))) : W p l e R s m args below meth c H locs cells slots Q (F0 m pc ls rest) := by
  subst hlen
  exact cr_new C G S hin ty hty hcl hinst hini hc hfs hcells hslots hdg kk
theorem cs_mkN (C : CallFix p m c cc nL s args kp_wl own) (G : kp_GK X h s) (hls : ls.size = nL) {ci : Nat} {fs : List Value} {k : Nat} (S : kp_CS X h s (a :: (wr ++ [(h + k, .inr (ci, fs))])) H locs cells) (hlen : wr.length + 1 = k) {y : MethodName} {bytes : ByteArray} {nf mc ms index n : Nat} {host : String} {lay : Nat → kp_D} {σ : kp_W} (hM : kp_Cn l y bytes nf mc ms X ci fs lay n σ) (hn : mc + 1 = n) (w1 : (own, index, y, host) ∈ kp_nm) (w2 : Cond.instanceMethod y ∈ kp_wl) (w4 : Cond.initialized y.cls ∈ kp_wl) (w5 : Cond.code y bytes 1 none ∈ kp_wl) (hy : y.name = "<init>") (hd : y.cls ≠ "java/lang/invoke/MethodHandle" ∧ y.cls ≠ "java/lang/invoke/VarHandle" ∧ (parseMethodDescriptor y.desc).map (fun d => d.parameters.length) = some 0) (hR : nf + 1 ≤ R.frames ∧ 20 + 60 * nf ≤ R.locals) (hf : cells + mc ≤ R.cells ∧ slots + ms ≤ R.slots) (hW : (rest.map fun v => v.category).sum ≤ 8) (hdg : decode cc pc = .ok (.invokespecial index, 3))
    (kk : ∀ (H1 : Heap) (locs1 : List Loc), kp_CS X h s (a :: (wr ++ kp_ws (kp_Xh X (h + k)) lay n σ)) H1 locs1 (cells + mc) → W p l e R s m args below meth c H1 locs1 (cells + mc) (slots + ms) Q (F0 m (pc + 3) ls rest)) : W p l e R s m args below meth c H locs cells slots Q (F0 m pc ls (.ref (h + k) :: rest)) := by
  subst hlen
  exact cr_mkN (ws := a :: wr) C G hls S hM hn w1 w2 w4 w5 hy hd hR hf hW hdg kk
theorem cs_mk (C : CallFix p m c cc nL s args kp_wl own) (G : kp_GK X h s) (hls : ls.size = nL) {ci : Nat} {fs : List Value} {k : Nat} (S : kp_CS X h s (a :: (wr ++ [(h + k, .inr (ci, fs))])) H locs cells) (hlen : wr.length + 1 = k) {y : MethodName} {bytes : ByteArray} {nf mc ms index n : Nat} {lay : Nat → kp_D} {σ : kp_W} (hM : kp_Cn l y bytes nf mc ms X ci fs lay n σ) (hn : mc + 1 = n) (w1 : Cond.methodLink own index y ∈ kp_wl) (w2 : Cond.instanceMethod y ∈ kp_wl) (w4 : Cond.initialized y.cls ∈ kp_wl) (w5 : Cond.code y bytes 1 none ∈ kp_wl) (hy : y.name = "<init>") (hd : y.cls ≠ "java/lang/invoke/MethodHandle" ∧ y.cls ≠ "java/lang/invoke/VarHandle" ∧ (parseMethodDescriptor y.desc).map (fun d => d.parameters.length) = some 0) (hR : nf + 1 ≤ R.frames ∧ 20 + 60 * nf ≤ R.locals) (hf : cells + mc ≤ R.cells ∧ slots + ms ≤ R.slots) (hW : (rest.map fun v => v.category).sum ≤ 8) (hdg : decode cc pc = .ok (.invokespecial index, 3))
    (kk : ∀ (H1 : Heap) (locs1 : List Loc), kp_CS X h s (a :: (wr ++ kp_ws (kp_Xh X (h + k)) lay n σ)) H1 locs1 (cells + mc) → W p l e R s m args below meth c H1 locs1 (cells + mc) (slots + ms) Q (F0 m (pc + 3) ls rest)) : W p l e R s m args below meth c H locs cells slots Q (F0 m pc ls (.ref (h + k) :: rest)) := by
  subst hlen
  exact cr_mk (ws := a :: wr) C G hls S hM hn w1 w2 w4 w5 hy hd hR hf hW hdg kk
end CTU
