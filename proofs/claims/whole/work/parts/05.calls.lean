def kp_rm (d : Nat) : Room := { frames := d, cells := 0, slots := 0, locals := 60 * d }
def kp_Qi (X : kp_X) (lay : Nat → kp_D) (N : Nat) (σ : kp_W) (r : Int) : Array Value → State → Outcome → State → Prop := va_Qi (fun r' (_ : Unit) => r' = Int32.ofInt r) (fun _ t => kp_B X lay N σ t) (kp_A X N)
def kp_Ql (X : kp_X) (lay : Nat → kp_D) (N : Nat) (σ : kp_W) (r : Int) : Array Value → State → Outcome → State → Prop := va_Ql (fun r' (_ : Unit) => r' = Int64.ofInt r) (fun _ t => kp_B X lay N σ t) (kp_A X N)
def kp_Qv (X : kp_X) (lay : Nat → kp_D) (N : Nat) (σ : kp_W) : Array Value → State → Outcome → State → Prop := va_Qv (fun (_ : Unit) => True) (fun _ t => kp_B X lay N σ t) (kp_A X N)
def kp_Met (l : Launch) (y : MethodName) (bytes : ByteArray) (maxL : Nat) (ret : Option FieldType) (d : Nat) (X : kp_X) (lay : Nat → kp_D) (N : Nat) (σ : kp_W) (av : List Value) (Qc : Array Value → State → Outcome → State → Prop) : Prop := Met l y (Cond.code y bytes maxL ret :: kp_wl) (kp_rm d) (va_Pc av (kp_B X lay N σ)) Qc 0 0 (kp_A X N)
theorem kp_body {l : Launch} {y : MethodName} {bytes : ByteArray} {maxL : Nat} {ret : Option FieldType} {d : Nat} {X : kp_X} {lay : Nat → kp_D} {N : Nat} {σ : kp_W} {av : List Value} {Qc : Array Value → State → Outcome → State → Prop} (hy : plainName y.cls = true) (hn : (lg_sl av).length ≤ maxL)
    (body : ∀ (p : Program) (e : Env) (s : State) (m : MethodId) (args : Array Value) (below : List Frame) (meth : Method) (c : Code) (ls : Array Slot), CallFix p m c bytes maxL s args kp_wl y.cls → meth.sig.returnType = ret → meth.locks = false → kp_G X N s → kp_H X lay N s σ s.heap [] → lv_has ls maxL (lv_args 0 av) → W p l e (kp_rm d) s m args below meth c s.heap [] 0 0 (MQ below Qc args s 0 0 (kp_A X N)) (F0 m 0 ls [])) : kp_Met l y bytes maxL ret d X lay N σ av Qc := by
  refine Met.ofW (cc := bytes) (maxL := maxL) (ret := ret) hy rfl ?_
  intro p e s m args below meth c s₁ B hml hv
  obtain ⟨rfl, hP, hG⟩ := hv
  have hts := atoms_spec (ws := Cond.code y bytes maxL ret :: kp_wl) B.pre
  have hl := lv_entry av (n := maxL) hn
  rw [lg_entry_eq]
  generalize (lg_sl av ++ List.replicate (maxL - (lg_sl av).length) Slot.unset).toArray = ls at hl ⊢
  exact body p e s m av.toArray below meth c ls ⟨B.exec, B.bytes, hml, findClass_of_methodNamed B.named, fun w hw => hts w (List.mem_cons_of_mem _ hw)⟩ B.returns B.notSynchronized hG ⟨hP, va_S.rf⟩ hl
section KPC
variable {p : Program} {l : Launch} {e : Env} {R : Room} {s : State} {m : MethodId} {args : Array Value} {below : List Frame} {meth : Method} {c : Code} {H : Heap} {locs : List Loc} {Q : State → Prop}
variable {cc : ByteArray} {nL : Nat} {own : String} {pc : Nat} {ls : Array Slot} {rest st : List Value} {X : kp_X} {lay : Nat → kp_D} {N : Nat} {σ σ' : kp_W} {r : Int}
theorem kp_hq (G : kp_G X N s) (h : kp_H X lay N s σ H locs) : ∀ t : State, t.heap = H → s.WarmedH t.vm → kp_B X lay N σ t ∧ va_F (kp_A X N) s t := fun t ht hW => ⟨kp_B_of G h ht hW, h.2.F ht⟩
theorem kp_reti (C : CallFix p m c cc nL s args kp_wl own) (hr : meth.sig.returnType = some .int) (hlk : meth.locks = false) (G : kp_G X N s) {σ0 : kp_W} (h : kp_H X lay N s σ0 H locs) {v : Int} (hdg : decode cc pc = .ok (.ireturn, 1)) (hF : (some (v, σ0) : kp_R) = some (r, σ)) : W p l e R s m args below meth c H locs 0 0 (MQ below (kp_Qi X lay N σ r) args s 0 0 (kp_A X N)) (F0 m pc ls [kp_iv v]) := by
  obtain ⟨rfl, rfl⟩ := Prod.mk.inj (Option.some.inj hF)
  exact W.iret C.1 C.2.1 hr (fun t ht hW => ⟨⟨_, (), rfl, rfl, (kp_hq G h t ht hW).1⟩, (kp_hq G h t ht hW).2⟩) h.2.2.2 hdg hlk
theorem kp_retz (C : CallFix p m c cc nL s args kp_wl own) (hr : meth.sig.returnType = some .boolean) (hlk : meth.locks = false) (G : kp_G X N s) {σ0 : kp_W} (h : kp_H X lay N s σ0 H locs) {v : Int} (hdg : decode cc pc = .ok (.ireturn, 1)) (hF : kp_ck (v = 0 ∨ v = 1) (some (v, σ0) : kp_R) = some (r, σ)) : W p l e R s m args below meth c H locs 0 0 (MQ below (kp_Qi X lay N σ r) args s 0 0 (kp_A X N)) (F0 m pc ls [kp_iv v]) := by
  obtain ⟨hv, hF⟩ := kp_ck_s hF
  obtain ⟨rfl, rfl⟩ := Prod.mk.inj (Option.some.inj hF)
  exact W.zret C.1 C.2.1 hr (by rcases hv with rfl | rfl <;> rfl) (fun t ht hW => ⟨⟨_, (), rfl, rfl, (kp_hq G h t ht hW).1⟩, (kp_hq G h t ht hW).2⟩) h.2.2.2 hdg hlk
theorem kp_retl (C : CallFix p m c cc nL s args kp_wl own) (hr : meth.sig.returnType = some .long) (hlk : meth.locks = false) (G : kp_G X N s) {σ0 : kp_W} (h : kp_H X lay N s σ0 H locs) {v : Int} (hdg : decode cc pc = .ok (.lreturn, 1)) (hF : (some (v, σ0) : kp_R) = some (r, σ)) : W p l e R s m args below meth c H locs 0 0 (MQ below (kp_Ql X lay N σ r) args s 0 0 (kp_A X N)) (F0 m pc ls [kp_jv v]) := by
  obtain ⟨rfl, rfl⟩ := Prod.mk.inj (Option.some.inj hF)
  exact W.lret C.1 C.2.1 hr (fun t ht hW => ⟨⟨_, (), rfl, rfl, (kp_hq G h t ht hW).1⟩, (kp_hq G h t ht hW).2⟩) h.2.2.2 hdg hlk
theorem kp_retv (C : CallFix p m c cc nL s args kp_wl own) (hr : meth.sig.returnType = none) (hlk : meth.locks = false) (G : kp_G X N s) {σ0 : kp_W} (h : kp_H X lay N s σ0 H locs) {v : Int} (hdg : decode cc pc = .ok (.return_, 1)) (hF : (some (v, σ0) : kp_R) = some (r, σ)) : W p l e R s m args below meth c H locs 0 0 (MQ below (kp_Qv X lay N σ) args s 0 0 (kp_A X N)) (F0 m pc ls []) := by
  obtain ⟨rfl, rfl⟩ := Prod.mk.inj (Option.some.inj hF)
  exact W.vret C.1 C.2.1 hr (fun t ht hW => ⟨⟨(), rfl, trivial, (kp_hq G h t ht hW).1⟩, (kp_hq G h t ht hW).2⟩) h.2.2.2 hdg hlk
-- calls
variable {y : MethodName} {bytes : ByteArray} {maxL index n d dd : Nat} {ret : Option FieldType} {As : List Value} {Qc : Array Value → State → Outcome → State → Prop}
theorem kp_gapp {big a b : List Cond} (ha : GoodIn big a) (hb : GoodIn big b) : GoodIn big (a ++ b) := fun w h => (List.mem_append.mp h).elim (ha w) (hb w)
theorem kp_wsy (hc : Cond.code y bytes maxL ret ∈ kp_wl) : GoodIn kp_wl (Cond.code y bytes maxL ret :: kp_wl) := fun w hw => (List.mem_cons.mp hw).elim (fun e => by rw [e]; exact kp_wl_good _ hc) (fun h => kp_wl_good w h)
theorem kp_rmle (hd : dd + 1 ≤ d) (hm : maxL ≤ 41) : (kp_rm dd).frames + 1 ≤ (kp_rm d).frames ∧ 8 + (maxL + 11) + (kp_rm dd).locals ≤ (kp_rm d).locals := by
  unfold kp_rm
  exact ⟨hd, by show 8 + (maxL + 11) + 60 * dd ≤ 60 * d; omega⟩
theorem kp_rV {k ci Nf : Nat} {T : u_T} {rs : List (Option Nat)} (C : CallFix p m c cc nL s args kp_wl own) (G : kp_G X N s) (h : kp_H X lay N s σ H locs) (hM : kp_Met l y bytes maxL ret dd X lay N σ (.ref (kp_ad X k) :: As) Qc) (w1 : Cond.methodLink own index y ∈ kp_wl) (w2 : Cond.instanceMethod y ∈ kp_wl) (w3 : Cond.selects y.cls y y ∈ kp_wl) (w4 : Cond.initialized y.cls ∈ kp_wl) (w5 : Cond.code y bytes maxL ret ∈ kp_wl) (hd : y.cls = y.cls ∧ y.cls ≠ "java/lang/invoke/MethodHandle" ∧ y.cls ≠ "java/lang/invoke/VarHandle" ∧ (parseMethodDescriptor y.desc).map (fun d => d.parameters.length) = some n) (hR : dd + 1 ≤ d ∧ maxL ≤ 41) (hL : k < N ∧ lay k = (0, ci, rs)) (hc : vwCl[ci]? = some (y.cls, T, Nf)) (hn : As.length = n) (hl : ls.size = nL) (hst : st = As.reverse ++ .ref (kp_ad X k) :: rest) (hW : (rest.map fun v => v.category).sum ≤ 8) (hdg : decode cc pc = .ok (.invokevirtual index, 3)) : va_Run p l e (kp_rm d) s m args below meth c H locs 0 0 0 0 (F0 m pc ls st) rest (Qc (Value.ref (kp_ad X k) :: As).toArray) (kp_A X N) := by
  refine va_runV C hM (cwV n C.2.2.2.2 ?_ rfl rfl rfl hd (kp_rmle hR.1 hR.2)) ⟨kp_B_blind, va_recv G.1 h.1 hc (kp_obj hL), fun U hU hW => ⟨rfl, kp_B_of G h hU hW⟩⟩ rfl hn hl hst (lv_room hW) hdg ⟨Nat.zero_le _, Nat.zero_le _⟩
  unfold wsV
  refine kp_gapp (fun w hw => ?_) (kp_wsy w5)
  simp only [List.mem_cons, List.not_mem_nil, or_false] at hw
  rcases hw with rfl | rfl | rfl | rfl
  · exact kp_wl_good _ w1
  · exact kp_wl_good _ w2
  · exact kp_wl_good _ w3
  · exact kp_wl_good _ w4
theorem kp_rS (C : CallFix p m c cc nL s args kp_wl own) (G : kp_G X N s) (h : kp_H X lay N s σ H locs) (hM : kp_Met l y bytes maxL ret dd X lay N σ As Qc) (w1 : Cond.methodLink own index y ∈ kp_wl) (w2 : Cond.static y ∈ kp_wl) (w4 : Cond.initialized y.cls ∈ kp_wl) (w5 : Cond.code y bytes maxL ret ∈ kp_wl) (hd : y.cls ≠ "java/lang/invoke/MethodHandle" ∧ y.cls ≠ "java/lang/invoke/VarHandle" ∧ (parseMethodDescriptor y.desc).map (fun d => d.parameters.length) = some n) (hR : dd + 1 ≤ d ∧ maxL ≤ 41) (hn : As.length = n) (hl : ls.size = nL) (hst : st = As.reverse ++ rest) (hW : (rest.map fun v => v.category).sum ≤ 8) (hdg : decode cc pc = .ok (.invokestatic index, 3)) : va_Run p l e (kp_rm d) s m args below meth c H locs 0 0 0 0 (F0 m pc ls st) rest (Qc As.toArray) (kp_A X N) := by
  refine va_runS C hM ⟨callB_of n C.2.2.2.2 (kp_wsy w5) rfl rfl rfl (C.2.2.2.2 _ w4) (C.2.2.2.2 _ w1) hd (kp_rmle hR.1 hR.2), C.2.2.2.2 _ w2⟩ ⟨kp_B_blind, fun U hU hW => ⟨rfl, kp_B_of G h hU hW⟩⟩ rfl hn hl hst (lv_room hW) hdg ⟨Nat.zero_le _, Nat.zero_le _⟩
theorem kp_rSN {host : String} (C : CallFix p m c cc nL s args kp_wl own) (G : kp_G X N s) (h : kp_H X lay N s σ H locs) (hM : kp_Met l y bytes maxL ret dd X lay N σ As Qc) (w1 : (own, index, y, host) ∈ kp_nm) (w2 : Cond.static y ∈ kp_wl) (w4 : Cond.initialized y.cls ∈ kp_wl) (w5 : Cond.code y bytes maxL ret ∈ kp_wl) (hd : y.cls ≠ "java/lang/invoke/MethodHandle" ∧ y.cls ≠ "java/lang/invoke/VarHandle" ∧ (parseMethodDescriptor y.desc).map (fun d => d.parameters.length) = some n) (hR : dd + 1 ≤ d ∧ maxL ≤ 41) (hn : As.length = n) (hl : ls.size = nL) (hst : st = As.reverse ++ rest) (hW : (rest.map fun v => v.category).sum ≤ 8) (hdg : decode cc pc = .ok (.invokestatic index, 3)) : va_Run p l e (kp_rm d) s m args below meth c H locs 0 0 0 0 (F0 m pc ls st) rest (Qc As.toArray) (kp_A X N) := by
  refine va_runSN C hM ⟨va_cnB n C.2.2.2.2 (kp_wsy w5) rfl rfl rfl (G.2.2.2.2.2.2.2.1 _ w1) (C.2.2.2.2 _ w4) hd (kp_rmle hR.1 hR.2), C.2.2.2.2 _ w2, trivial⟩ ⟨kp_B_blind, fun U hU hW => ⟨rfl, kp_B_of G h hU hW⟩⟩ rfl hn hl hst (lv_room hW) hdg ⟨Nat.zero_le _, Nat.zero_le _⟩
theorem kp_ci {a : Array Value} (h : kp_H X lay N s σ H locs) (hr : va_Run p l e R s m args below meth c H locs 0 0 0 0 (F0 m pc ls st) rest (kp_Qi X lay N σ' r a) (kp_A X N)) (kk : ∀ (H1 : Heap) (locs1 : List Loc), kp_H X lay N s σ' H1 locs1 → W p l e R s m args below meth c H1 locs1 0 0 Q (F0 m (pc + 3) ls (kp_iv r :: rest))) : W p l e R s m args below meth c H locs 0 0 Q (F0 m pc ls st) := by
  refine va_calli hr h.2 (fun _ _ z => z) (fun _ z => z) (fun r2 u t H1 locs1 ht hvm hp hB hz hk hS => ?_)
  subst hp
  exact kk H1 locs1 ⟨by rw [← ht]; exact hB.1, hS⟩
theorem kp_cl' {a : Array Value} (h : kp_H X lay N s σ H locs) (hr : va_Run p l e R s m args below meth c H locs 0 0 0 0 (F0 m pc ls st) rest (kp_Ql X lay N σ' r a) (kp_A X N)) (kk : ∀ (H1 : Heap) (locs1 : List Loc), kp_H X lay N s σ' H1 locs1 → W p l e R s m args below meth c H1 locs1 0 0 Q (F0 m (pc + 3) ls (kp_jv r :: rest))) : W p l e R s m args below meth c H locs 0 0 Q (F0 m pc ls st) := by
  refine va_calll hr h.2 (fun _ _ z => z) (fun _ z => z) (fun r2 u t H1 locs1 ht hvm hp hB hz hk hS => ?_)
  subst hp
  exact kk H1 locs1 ⟨by rw [← ht]; exact hB.1, hS⟩
theorem kp_cv {a : Array Value} (h : kp_H X lay N s σ H locs) (hr : va_Run p l e R s m args below meth c H locs 0 0 0 0 (F0 m pc ls st) rest (kp_Qv X lay N σ' a) (kp_A X N)) (kk : ∀ (H1 : Heap) (locs1 : List Loc), kp_H X lay N s σ' H1 locs1 → W p l e R s m args below meth c H1 locs1 0 0 Q (F0 m (pc + 3) ls rest)) : W p l e R s m args below meth c H locs 0 0 Q (F0 m pc ls st) := by
  refine va_callv hr h.2 (fun _ _ z => z) (fun _ z => z) (fun u t H1 locs1 ht hvm hp hB hz hk hS => ?_)
  exact kk H1 locs1 ⟨by rw [← ht]; exact hB.1, hS⟩
-- statics and strings
theorem kp_gets {ref : String} (C : CallFix p m c cc nL s args kp_wl own) (G : kp_G X N s) (h : kp_H X lay N s σ H locs) {i : Nat} (hi : i < 1) (hw : Cond.fieldLink own index (kp_tn i).1 (kp_tn i).2 "[I" ∈ kp_wl) (hdg : decode cc pc = .ok (.getstatic index, 3)) (kk : W p l e R s m args below meth c H locs 0 0 Q (F0 m (pc + 3) ls (.ref (kp_tt X i) :: rest))) : W p l e R s m args below meth c H locs 0 0 Q (F0 m pc ls rest) := va_gets C.1 C.2.1 (G.2.2.1 i hi).1 h.2 C.2.2.2.1 (C.2.2.2.2 _ hw) (fun _ z => z) hdg kk
theorem kp_getsN {host : String} (C : CallFix p m c cc nL s args kp_wl own) (G : kp_G X N s) (h : kp_H X lay N s σ H locs) {i : Nat} (hi : i < 1) (hw : (own, index, (kp_tn i).1, (kp_tn i).2, "[I", host) ∈ kp_nf) (hdg : decode cc pc = .ok (.getstatic index, 3)) (kk : W p l e R s m args below meth c H locs 0 0 Q (F0 m (pc + 3) ls (.ref (kp_tt X i) :: rest))) : W p l e R s m args below meth c H locs 0 0 Q (F0 m pc ls rest) := va_getsN C.1 C.2.1 (G.2.2.1 i hi).1 h.2 C.2.2.2.1 (va_Nw.use rfl (G.2.2.2.2.2.2.2.2 _ hw)) (fun _ z => z) hdg kk
theorem kp_tiald (C : CallFix p m c cc nL s args kp_wl own) (G : kp_G X N s) (h : kp_H X lay N s σ H locs) {i : Nat} (hi : i < 1) {n x : Int} (hn : (kp_tb i).length = n.toNat) (hn2 : n ≤ 2147483647) {r : kp_R} {o : Int × kp_W} (hdg : decode cc pc = .ok (.iaload, 1)) (hF : kp_ck (0 ≤ x ∧ x < n) r = some o) (kk : r = some o → W p l e R s m args below meth c H locs 0 0 Q (F0 m (pc + 1) ls (kp_iv ((kp_tb i).getD x.toNat 0) :: rest))) : W p l e R s m args below meth c H locs 0 0 Q (F0 m pc ls (kp_iv x :: .ref (kp_tt X i) :: rest)) := by
  obtain ⟨a, hF⟩ := kp_ck_s hF
  exact va_ti C.1 C.2.1 (G.2.2.1 i hi).2 h.2 (by rw [hn]; exact kp_vin a hn2) (by rw [kp_clx a hn2]) hdg (kk hF)
theorem kp_ldcS (C : CallFix p m c cc nL s args kp_wl own) (G : kp_G X N s) {tx : String} {i : Nat} (hw : (own, index, tx, i) ∈ kp_sr) (hdg : decode cc pc = .ok (.ldc index, 2)) (kk : W p l e R s m args below meth c H locs 0 0 Q (F0 m (pc + 2) ls (.ref (kp_sK X i) :: rest))) : W p l e R s m args below meth c H locs 0 0 Q (F0 m pc ls rest) := va_ldcS C.1 C.2.1 C.2.2.2.1 (G.2.2.2.2.2.2.1 _ hw) hdg kk
-- Math
theorem kp_mmax {o : Int × kp_W} {f : kp_R} (C : CallFix p m c cc nL s args kp_wl own) (hl : ls.size = nL) {x y : Int} (w1 : Cond.methodLink own index Lib.Math.max.name ∈ kp_wl) (w2 : Cond.static Lib.Math.max.name ∈ kp_wl) (w4 : Cond.initialized "java/lang/Math" ∈ kp_wl) (w5 : Cond.code Lib.Math.max.name Lib.Math.max.code 2 (some .int) ∈ kp_wl) (hd : 1 ≤ d) (hW : (rest.map fun v => v.category).sum ≤ 8) (hdg : decode cc pc = .ok (.invokestatic index, 3)) (hF : kp_ck (kp_in x ∧ kp_in y) f = some o) (kk : f = some o → W p l e (kp_rm d) s m args below meth c H locs 0 0 Q (F0 m (pc + 3) ls (kp_iv (kp_max x y) :: rest))) : W p l e (kp_rm d) s m args below meth c H locs 0 0 Q (F0 m pc ls (kp_iv y :: kp_iv x :: rest)) := by
  obtain ⟨a, hF⟩ := kp_ck_s hF
  have kk := kk hF
  have e1 : kp_iv (kp_max x y) = .int (if Int32.ofInt x < Int32.ofInt y then Int32.ofInt y else Int32.ofInt x) := by
    unfold kp_max kp_iv
    by_cases q : x < y
    · rw [if_pos q, if_pos ((kp_lt_i a.1 a.2).mpr q)]
    · rw [if_neg q, if_neg (fun z => q ((kp_lt_i a.1 a.2).mp z))]
  rw [e1] at kk
  exact va_mmax C.1 C.2.1 (C.2.2.1.trans hl.symm) C.2.2.2.1 (C.2.2.2.2 _ w1) (C.2.2.2.2 _ w2) (C.2.2.2.2 _ w4) (C.2.2.2.2 _ w5) hd (by show _ ≤ 60 * d; omega) (Nat.zero_le _) (Nat.zero_le _) hdg kk
theorem kp_mmin {o : Int × kp_W} {f : kp_R} (C : CallFix p m c cc nL s args kp_wl own) (hl : ls.size = nL) {x y : Int} (w1 : Cond.methodLink own index Lib.Math.min.name ∈ kp_wl) (w2 : Cond.static Lib.Math.min.name ∈ kp_wl) (w4 : Cond.initialized "java/lang/Math" ∈ kp_wl) (w5 : Cond.code Lib.Math.min.name Lib.Math.min.code 2 (some .int) ∈ kp_wl) (hd : 1 ≤ d) (hW : (rest.map fun v => v.category).sum ≤ 8) (hdg : decode cc pc = .ok (.invokestatic index, 3)) (hF : kp_ck (kp_in x ∧ kp_in y) f = some o) (kk : f = some o → W p l e (kp_rm d) s m args below meth c H locs 0 0 Q (F0 m (pc + 3) ls (kp_iv (kp_min x y) :: rest))) : W p l e (kp_rm d) s m args below meth c H locs 0 0 Q (F0 m pc ls (kp_iv y :: kp_iv x :: rest)) := by
  obtain ⟨a, hF⟩ := kp_ck_s hF
  have kk := kk hF
  have e1 : kp_iv (kp_min x y) = .int (if Int32.ofInt y < Int32.ofInt x then Int32.ofInt y else Int32.ofInt x) := by
    unfold kp_min kp_iv
    by_cases q : y < x
    · rw [if_pos q, if_pos ((kp_lt_i a.2 a.1).mpr q)]
    · rw [if_neg q, if_neg (fun z => q ((kp_lt_i a.2 a.1).mp z))]
  rw [e1] at kk
  exact va_mmin C.1 C.2.1 (C.2.2.1.trans hl.symm) C.2.2.2.1 (C.2.2.2.2 _ w1) (C.2.2.2.2 _ w2) (C.2.2.2.2 _ w4) (C.2.2.2.2 _ w5) hd (by show _ ≤ 60 * d; omega) (Nat.zero_le _) (Nat.zero_le _) hdg kk
theorem kp_mabs {o : Int × kp_W} {f : kp_R} (C : CallFix p m c cc nL s args kp_wl own) (hl : ls.size = nL) {x : Int} (w1 : Cond.methodLink own index Lib.Math.abs.name ∈ kp_wl) (w2 : Cond.static Lib.Math.abs.name ∈ kp_wl) (w4 : Cond.initialized "java/lang/Math" ∈ kp_wl) (w5 : Cond.code Lib.Math.abs.name Lib.Math.abs.code 1 (some .int) ∈ kp_wl) (hd : 1 ≤ d) (hW : (rest.map fun v => v.category).sum ≤ 8) (hdg : decode cc pc = .ok (.invokestatic index, 3)) (hF : kp_ck (kp_in x) f = some o) (kk : f = some o → W p l e (kp_rm d) s m args below meth c H locs 0 0 Q (F0 m (pc + 3) ls (kp_iv (kp_abs x) :: rest))) : W p l e (kp_rm d) s m args below meth c H locs 0 0 Q (F0 m pc ls (kp_iv x :: rest)) := by
  obtain ⟨a, hF⟩ := kp_ck_s hF
  have kk := kk hF
  have e1 : kp_iv (kp_abs x) = .int (if Int32.ofInt 0 ≤ Int32.ofInt x then Int32.ofInt x else Int32.ofInt 0 - Int32.ofInt x) := by
    unfold kp_abs kp_iv
    by_cases q : 0 ≤ x
    · rw [if_pos q, if_pos ((kp_le_i kp_in0 a).mpr q)]
    · rw [if_neg q, if_neg (fun z => q ((kp_le_i kp_in0 a).mp z)), ← Int32.ofInt_sub, Int.zero_sub]
  rw [e1] at kk
  exact va_mabs C.1 C.2.1 (C.2.2.1.trans hl.symm) C.2.2.2.1 (C.2.2.2.2 _ w1) (C.2.2.2.2 _ w2) (C.2.2.2.2 _ w4) (C.2.2.2.2 _ w5) hd (by show _ ≤ 60 * d; omega) (Nat.zero_le _) (Nat.zero_le _) hdg kk
end KPC
