-- constructors: their bodies, begin and end
theorem q1_27 : Cond.code objectInit ⟨#[0xb1]⟩ 1 none ∈ kp_wl := kp_t1 (i := 27) rfl rfl
theorem cr_body {l : Launch} {y : MethodName} {cc : ByteArray} {nf mc ms : Nat} {X : kp_X} {ci : Nat} {fs : List Value} {lay : Nat → kp_D} {n : Nat} {σ : kp_W} (hy : plainName y.cls = true) (hi : y.name = "<init>")
    (body : ∀ (h : Nat) (p : Program) (e : Env) (s : State) (m : MethodId) (args : Array Value) (below : List Frame) (meth : Method) (c : Code) (ls : Array Slot), CallFix p m c cc 1 s args kp_wl y.cls → meth.name = "<init>" → meth.sig.returnType = none → meth.locks = false → kp_GK X h s → kp_CS X h s [(h, .inr (ci, fs))] s.heap [] 0 → lv_has ls 1 [(0, .ref h)] → W p l e (kp_rc nf mc ms) s m args below meth c s.heap [] 0 0 (MQ below (va_Qv (fun _ : Unit => True) (fun _ t => kp_CE X lay n σ h t) (fun q => h ≤ q)) args s mc ms (fun q => h ≤ q)) (F0 m 0 ls [])) : kp_Cn l y cc nf mc ms X ci fs lay n σ := by
  intro h
  refine Met.ofW (cc := cc) (maxL := 1) (ret := none) hy rfl ?_
  intro p e s m args below meth c s₁ B hml hv
  obtain ⟨rfl, hz, hP, hG⟩ := hv
  have hts := atoms_spec (ws := Cond.code y cc 1 none :: kp_wl) B.pre
  have hl := lv_entry [.ref h] (n := 1) (Nat.le_of_ble_eq_true rfl)
  rw [lg_entry_eq]
  generalize (lg_sl [.ref h] ++ List.replicate (1 - (lg_sl [.ref h]).length) Slot.unset).toArray = ls at hl ⊢
  exact body h p e s m [.ref h].toArray below meth c ls ⟨B.exec, B.bytes, hml, findClass_of_methodNamed B.named, fun w hw => hts w (List.mem_cons_of_mem _ hw)⟩ ((name_of_methodNamed B.named B.method).1.trans hi) B.returns B.notSynchronized hG ⟨hP, fun k q hk => by
    have hz : k < 1 := (List.getElem?_eq_some_iff.mp hk).1
    rw [show k = 0 by omega] at hk
    cases hk
    show h = h + k
    omega, hz, hz, va_S.rf, by omega⟩ hl
section CTS
variable {p : Program} {l : Launch} {e : Env} {R : Room} {s : State} {m : MethodId} {args : Array Value} {below : List Frame} {meth : Method} {c : Code} {H : Heap} {locs : List Loc} {Q : State → Prop} {cells slots : Nat}
variable {cc : ByteArray} {nL : Nat} {own : String} {pc : Nat} {ls : Array Slot} {rest : List Value} {X : kp_X} {h : Nat} {ws : va_W}
theorem cr_obj (C : CallFix p m c cc 1 s args kp_wl own) (hl : lv_has ls 1 [(0, .ref h)]) {idx : Nat} (w : Cond.methodLink own idx objectInit ∈ kp_wl) (d0 : decode cc 0 = .ok (.aload_n 0, 1)) (d1 : decode cc 1 = .ok (.invokespecial idx, 3)) (hR : 1 ≤ R.frames ∧ 12 ≤ R.locals) (kk : W p l e R s m args below meth c H locs cells slots Q (F0 m 4 ls [])) : W p l e R s m args below meth c H locs cells slots Q (F0 m 0 ls []) := by
  refine lv_aload_n C.1 C.2.1 d0 rfl (lv_at hl 0 rfl) ?_
  refine W.objInit C.1 C.2.1 C.2.2.2.1 (C.2.2.2.2 _ w) (C.2.2.2.2 _ q1_26) (C.2.2.2.2 _ q1_27) rfl (hl.1.trans C.2.2.1.symm) rfl d1 hR.1 hR.2 ?_
  exact W.eq (g2 := F0 m 4 ls []) rfl kk
theorem cr_ret (C : CallFix p m c cc nL s args kp_wl own) (hr : meth.sig.returnType = none) (hlk : meth.locks = false) (G : kp_GK X h s) (S : kp_CS X h s ws H locs cells) {lay : Nat → kp_D} {n : Nat} {σ : kp_W} (hw : ws = kp_ws (kp_Xh X h) lay n σ) {mc ms : Nat} (hc : cells ≤ mc) (hs : slots ≤ ms) (hdg : decode cc pc = .ok (.return_, 1)) : W p l e R s m args below meth c H locs cells slots (MQ below (va_Qv (fun _ : Unit => True) (fun _ t => kp_CE X lay n σ h t) (fun q => h ≤ q)) args s mc ms (fun q => h ≤ q)) (F0 m pc ls []) := by
  obtain ⟨hP, hdn, hz, hc0, hS, hs0⟩ := S
  refine W.widen hc hs ?_
  refine W.vret C.1 C.2.1 hr (fun t ht hW => ⟨⟨(), rfl, trivial, ?_, ?_, G.to hS ht hW⟩, hS.F ht⟩) hS.2.2 hdg hlk
  · rw [ht, hz, hw, kp_ws_len]
  · rw [ht, ← hw]; exact hP
/-- a world of an object that is being made, as the rows of methods want it -/
theorem cr_G (G : kp_GK X h s) (N : Nat) {U : State} {H : Heap} {locs : List Loc} (hS : va_S (fun q : Nat => h ≤ q) s.heap H locs) (hU : U.heap = H) (hW : s.WarmedH U.vm) : kp_G (kp_Xh X h) N U := by
  have g := G.to hS hU hW
  refine ⟨g.1, fun i j _ _ z => by have z2 : h + i = h + j := z; omega, ?_⟩
  have n : kp_ST X (kp_A (kp_Xh X h) N) U U.heap := g.2.narrow (fun q hq => by
    obtain ⟨k, _, rfl⟩ := hq
    show h ≤ h + k
    omega)
  exact n
end CTS
def kp_s0 : kp_W := fun _ _ => 0
def kp_sH : kp_W := fun k => match k with
  | 1 => fun j => if j < 5 then (kp_tb 0).getD j 0 else 0
  | _ => fun _ => 0
theorem kp_sHe : kf_X2_empty_H kp_s0 = some (0, kp_sH) := by
  unfold kf_X2_empty_H
  show some ((0 : Int), _) = some (0, kp_sH)
  congr 2
  funext a b
  by_cases h0 : a = 0
  · subst h0
    rw [kp_up_eq, kp_up_eq, kp_up_eq, kp_fill_ne (by decide)]
    show (if b = 6 then (0 : Int) else if b = 5 then 0 else if b = 4 then 0 else 0) = 0
    repeat' split
    all_goals rfl
  · by_cases h1 : a = 1
    · subst h1
      rw [kp_up_ne (by decide), kp_up_ne (by decide), kp_up_ne (by decide), kp_fill_eq]
      rfl
    · rw [kp_up_ne h0, kp_up_ne h0, kp_up_ne h0, kp_fill_ne h1]
      show (0 : Int) = kp_sH a b
      unfold kp_sH
      match a, h1 with
      | 0, _ => rfl
      | 1, h1 => exact absurd rfl h1
      | a + 2, _ => rfl
