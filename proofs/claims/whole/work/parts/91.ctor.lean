-- constructors: a block of new cells grows
def kp_Xh (X : kp_X) (h : Nat) : kp_X := (X.1, fun k => h + k, X.2.2)
def kp_GK (X : kp_X) (h : Nat) (U : State) : Prop := va_K X.1 vwCl (kp_tys X) U ∧ kp_ST X (fun q => h ≤ q) U U.heap
def kp_CB (X : kp_X) (ci : Nat) (fs : List Value) (h : Nat) (U : State) : Prop := U.heap.size = h + 1 ∧ va_P X.1 vwCl [(h, .inr (ci, fs))] U.heap ∧ kp_GK X h U
def kp_CE (X : kp_X) (lay : Nat → kp_D) (n : Nat) (σ : kp_W) (h : Nat) (U : State) : Prop := U.heap.size = h + n ∧ va_P X.1 vwCl (kp_ws (kp_Xh X h) lay n σ) U.heap ∧ kp_GK X h U
def kp_rc (nf mc ms : Nat) : Room := { frames := nf, cells := mc, slots := ms, locals := 60 * nf }
def kp_Cn (l : Launch) (y : MethodName) (cc : ByteArray) (nf mc ms : Nat) (X : kp_X) (ci : Nat) (fs : List Value) (lay : Nat → kp_D) (n : Nat) (σ : kp_W) : Prop := ∀ h : Nat, Met l y (Cond.code y cc 1 none :: kp_wl) (kp_rc nf mc ms) (va_Pc [.ref h] (kp_CB X ci fs h)) (va_Qv (fun _ : Unit => True) (fun _ t => kp_CE X lay n σ h t) (fun q => h ≤ q)) mc ms (fun q => h ≤ q)
def kp_CS (X : kp_X) (h : Nat) (s : State) (ws : va_W) (H : Heap) (locs : List Loc) (cells : Nat) : Prop := va_P X.1 vwCl ws H ∧ (∀ (k : Nat) (q : Nat × va_E), ws[k]? = some q → q.1 = h + k) ∧ H.size = h + ws.length ∧ s.heap.size + cells = h + ws.length ∧ va_S (fun q : Nat => h ≤ q) s.heap H locs ∧ h ≤ s.heap.size
theorem kp_ST.narrow {X : kp_X} {A B : Nat → Prop} {U : State} {H : Heap} (h : kp_ST X A U H) (hAB : ∀ q, B q → A q) : kp_ST X B U H := by
  obtain ⟨h1, h2, h3, h4, h5, h6, h7⟩ := h
  exact ⟨fun i hi => ⟨(h1 i hi).1.narrow hAB, (h1 i hi).2.narrow hAB⟩, h2.narrow hAB, h3.narrow hAB, h4.narrow hAB, h5, h6, h7⟩
theorem kp_GK.same {X : kp_X} {h : Nat} {u U : State} (hv : U.vm = u.vm) (hh : U.heap = u.heap) (G : kp_GK X h u) : kp_GK X h U := by
  refine ⟨va_K.moved (by rw [hv]; exact Vm.Alike.refl u.vm) G.1, ?_⟩
  rw [hh]; exact G.2.same hv
theorem kp_GK.to {X : kp_X} {h : Nat} {s U : State} {H : Heap} {locs : List Loc} (G : kp_GK X h s) (hS : va_S (fun q : Nat => h ≤ q) s.heap H locs) (hU : U.heap = H) (hW : s.WarmedH U.vm) : kp_GK X h U := by
  refine ⟨va_K.moved hW.alike G.1, ?_⟩
  rw [hU]
  exact (G.2.warm hW).kept (fun a ha hA => hS.2.1 a ha hA)
section CTR
variable {p : Program} {l : Launch} {e : Env} {R : Room} {s : State} {m : MethodId} {args : Array Value} {below : List Frame} {meth : Method} {c : Code} {H : Heap} {locs : List Loc} {Q : State → Prop} {cells slots : Nat}
variable {cc : ByteArray} {nL : Nat} {own : String} {pc : Nat} {ls : Array Slot} {rest : List Value} {X : kp_X} {h : Nat} {ws : va_W}
theorem cr_D (S : kp_CS X h s ws H locs cells) : va_D (fun q : Nat => h ≤ q) ws := ⟨fun i j p q hi hj e => by
  have := S.2.1 i p hi
  have := S.2.1 j q hj
  omega, fun k q hk => by rw [S.2.1 k q hk]; show h ≤ h + k; omega⟩
/-- no more cells than were counted -/
theorem cr_sq {g : JFrame} (kk : H.size ≤ s.heap.size + cells → W p l e R s m args below meth c H locs cells slots Q g) : W p l e R s m args below meth c H locs cells slots Q g := fun T hT Y => kk (by rw [← hT]; exact Y.heapSize) T hT Y
theorem cr_dn1 {q : Nat} {e : va_E} (hd : ∀ (k : Nat) (q : Nat × va_E), ws[k]? = some q → q.1 = h + k) (hq : q = h + ws.length) : ∀ (k : Nat) (q' : Nat × va_E), (ws ++ [(q, e)])[k]? = some q' → q'.1 = h + k := by
  intro k q' hk
  by_cases hl : k < ws.length
  · rw [List.getElem?_append_left hl] at hk; exact hd k q' hk
  · rw [List.getElem?_append_right (by omega)] at hk
    have hz : k - ws.length < 1 := (List.getElem?_eq_some_iff.mp hk).1
    have e0 : k - ws.length = 0 := by omega
    rw [e0] at hk
    cases hk
    show q = h + k
    omega
/-- a new array -/
theorem cr_newa (C : CallFix p m c cc nL s args kp_wl own) (G : kp_GK X h s) (S : kp_CS X h s ws H locs cells) {atype : ArrayType} {ty : FieldType} (hty : newarray.typeOf atype = ty) {t0 : Nat} {cA : ClassId} (ht : (kp_tys X)[t0]? = some (cA, ty)) (hra : ∀ U c0, va_RA U c0 ty → U.vm.findClass ("[" ++ ty.toString) = some c0) (harr : Cond.arrayClass ty ∈ kp_wl) {n : Int32} {N' : Nat} {a0 : vp_A} (ha : ∀ cA : ClassId, vp_cell cA a0 = arrV cA N' (fun _ => defaultValue ty)) (hn : ¬ n < 0) (hN : n.toNatClampNeg = N') (hbytes : N' * componentBytes ty ≤ 536870912) (hcells : cells + 1 ≤ R.cells) (hslots : slots + N' ≤ R.slots) (hdg : decode cc pc = .ok (.newarray atype, 2))
    (kk : ∀ (H1 : Heap), kp_CS X h s (ws ++ [(h + ws.length, .inl (cA, a0))]) H1 locs (cells + 1) → W p l e R s m args below meth c H1 locs (cells + 1) (slots + N') Q (F0 m (pc + 2) ls (.ref (h + ws.length) :: rest))) : W p l e R s m args below meth c H locs cells slots Q (F0 m pc ls (.int n :: rest)) := by
  obtain ⟨hP, hd, hz, hc, hS, hs⟩ := S
  subst hty
  refine va_newaK C.1 C.2.1 (C.2.2.2.2 _ harr) rfl hdg rfl hn hN hbytes hcells hslots hz (fun H1 c1 e1 z1 o1 hAr hNm => ?_)
  have hc1 : c1 = cA := Option.some.inj (hNm.symm.trans (hra _ _ (G.1.2 t0 _ ht).2))
  subst hc1
  have hk : ∀ (k : Nat) (x : Nat × va_E), ws[k]? = some x → H1[x.1]? = H[x.1]? := fun k x hx => o1 x.1 (by rw [← hz]; exact (hP k x hx).lt)
  refine kk H1 ⟨(hP.kept hk).app (fun k x hx => ?_), cr_dn1 hd rfl, by rw [z1, List.length_append]; rfl, by rw [List.length_append]; simp; omega, ⟨Nat.le_trans hS.1 (by omega), fun x h1 h2 => (o1 x (by rw [← hz]; exact Nat.lt_of_lt_of_le h1 hS.1)).trans (hS.2.1 x h1 h2), hS.2.2⟩, hs⟩
  have hz : k < 1 := (List.getElem?_eq_some_iff.mp hx).1
  rw [show k = 0 by omega] at hx
  cases hx
  show H1[h + ws.length]? = some (vp_cell c1 a0)
  rw [ha, e1]
/-- a new object -/
theorem cr_new (C : CallFix p m c cc nL s args kp_wl own) (G : kp_GK X h s) (S : kp_CS X h s ws H locs cells) {C0 : String} {T : u_T} {N ci index : Nat} (hin : ∀ w ∈ u_ws C0 T N, w ∈ kp_wl) (ty : Nat → FieldType) (hty : ∀ k, k < N → parseFieldDescriptor (T k).2.2.1 = some (ty k)) (hcl : Cond.classLink own index C0 ∈ kp_wl) (hinst : Cond.instantiable C0 N ∈ kp_wl) (hini : Cond.initialized C0 ∈ kp_wl) (hc : vwCl[ci]? = some (C0, T, N)) {fs : List Value} (hfs : ∀ j, j < N → defaultValue (ty j) = vp_V fs j) (hcells : cells + 1 ≤ R.cells) (hslots : slots + N ≤ R.slots) (hdg : decode cc pc = .ok (.new index, 3))
    (kk : ∀ (H1 : Heap), kp_CS X h s (ws ++ [(h + ws.length, .inr (ci, fs))]) H1 locs (cells + 1) → W p l e R s m args below meth c H1 locs (cells + 1) (slots + N) Q (F0 m (pc + 3) ls (.ref (h + ws.length) :: rest))) : W p l e R s m args below meth c H locs cells slots Q (F0 m pc ls rest) := by
  have hD := cr_D S
  obtain ⟨hP, hd, hz, hc0, hS, hs⟩ := S
  refine va_new C.1 C.2.1 C.2.2.2.2 hin ty hty C.2.2.2.1 (C.2.2.2.2 _ hcl) (C.2.2.2.2 _ hinst) (C.2.2.2.2 _ hini) G.1 hP hD hS (fun q hq => by show h ≤ q; omega) hc hfs hcells hslots hdg (fun q H1 hP1 hD1 hS1 => cr_sq (fun hsz => ?_))
  have hl : (ws ++ [(q, (.inr (ci, fs) : va_E))])[ws.length]? = some (q, .inr (ci, fs)) := by simp
  have hq1 : q < H1.size := (hP1 _ _ hl).lt
  have hq2 : h ≤ q := hD1.2 _ _ hl
  have hq : q = h + ws.length := by
    by_cases hlt : q < h + ws.length
    · have hk : q - h < ws.length := by omega
      have hw : (ws ++ [(q, (.inr (ci, fs) : va_E))])[q - h]? = some (ws[q - h]) := by rw [List.getElem?_append_left hk]; exact List.getElem?_eq_getElem hk
      have e1 := hd (q - h) (ws[q - h]) (List.getElem?_eq_getElem hk)
      have := hD1.1 _ _ _ _ hw hl (by show (ws[q - h]).1 = q; omega)
      omega
    · omega
  subst hq
  exact kk H1 ⟨hP1, cr_dn1 hd rfl, by rw [List.length_append]; simp; omega, by rw [List.length_append]; simp; omega, hS1, hs⟩
/-- a field of the object that is being made -/
theorem cr_putF (C : CallFix p m c cc nL s args kp_wl own) (hin2 : meth.name = "<init>") (G : kp_GK X h s) {fs : List Value} {ci : Nat} {wr : va_W} (S : kp_CS X h s ((h, .inr (ci, fs)) :: wr) H locs cells) {T : u_T} {N index : Nat} (hin : ∀ w ∈ u_ws own T N, w ∈ kp_wl) (ty0 : Nat → FieldType) (hty : ∀ k, k < N → parseFieldDescriptor (T k).2.2.1 = some (ty0 k)) (hnm : ∀ a, a < N → ∀ b, b < N → a ≠ b → (T a).2.1 ≠ (T b).2.1) (hc : vwCl[ci]? = some (own, T, N)) (k : Nat) (hk : k < N) (hw : Cond.fieldLink own index (T k).1 (T k).2.1 (T k).2.2.1 ∈ kp_wl) (hfin : (T k).2.2.2 = true) (hdecl : (T k).1 = own) {ty : FieldType} {v : Value} (hd : parseFieldDescriptor (T k).2.2.1 = some ty) (hn : narrow ty v = v) (hfit : fits ty v = true) (hl : k < fs.length) (hdg : decode cc pc = .ok (.putfield index, 3))
    (kk : ∀ (H1 : Heap) (locs1 : List Loc), kp_CS X h s ((h, .inr (ci, fs.set k v)) :: wr) H1 locs1 cells → W p l e R s m args below meth c H1 locs1 cells slots Q (F0 m (pc + 3) ls rest)) : W p l e R s m args below meth c H locs cells slots Q (F0 m pc ls (v :: .ref h :: rest)) := by
  have hD := cr_D S
  obtain ⟨hP, hdn, hz, hc0, hS, hs⟩ := S
  have hS2 : va_S (fun q : Nat => h ≤ q) H H locs := ⟨Nat.le_refl _, fun _ _ _ => rfl, hS.2.2⟩
  refine va_putF C.1 C.2.1 C.2.2.2.2 hin ty0 hty hnm C.2.2.2.1 G.1 hP hD hS2 0 rfl hc k hk (C.2.2.2.2 _ hw) (fun _ z => z) hfin hin2 hdecl hd hn hfit hl hdg (fun H1 locs1 hP1 hD1 hS1 => cr_sq (fun hsz => kk H1 locs1 ⟨hP1, ?_, ?_, hc0, ⟨Nat.le_trans hS.1 hS1.1, fun x h1 h2 => (hS1.2.1 x (Nat.lt_of_lt_of_le h1 hS.1) h2).trans (hS.2.1 x h1 h2), hS1.2.2⟩, hs⟩))
  · intro j q hj
    match j, hj with
    | 0, hj => cases hj; rfl
    | j + 1, hj => exact hdn (j + 1) q hj
  · have := hS1.1
    have e : ((h, (.inr (ci, fs) : va_E)) :: wr).length = ((h, (.inr (ci, fs.set k v) : va_E)) :: wr).length := rfl
    rw [← e]
    omega
theorem cr_put (C : CallFix p m c cc nL s args kp_wl own) (G : kp_GK X h s) {fs : List Value} {ci : Nat} {wr : va_W} (S : kp_CS X h s ((h, .inr (ci, fs)) :: wr) H locs cells) {T : u_T} {N index : Nat} (hin : ∀ w ∈ u_ws own T N, w ∈ kp_wl) (ty0 : Nat → FieldType) (hty : ∀ k, k < N → parseFieldDescriptor (T k).2.2.1 = some (ty0 k)) (hnm : ∀ a, a < N → ∀ b, b < N → a ≠ b → (T a).2.1 ≠ (T b).2.1) (hc : vwCl[ci]? = some (own, T, N)) (k : Nat) (hk : k < N) (hw : Cond.fieldLink own index (T k).1 (T k).2.1 (T k).2.2.1 ∈ kp_wl) (hfin : (T k).2.2.2 = false) {ty : FieldType} {v : Value} (hd : parseFieldDescriptor (T k).2.2.1 = some ty) (hn : narrow ty v = v) (hfit : fits ty v = true) (hl : k < fs.length) (hdg : decode cc pc = .ok (.putfield index, 3))
    (kk : ∀ (H1 : Heap) (locs1 : List Loc), kp_CS X h s ((h, .inr (ci, fs.set k v)) :: wr) H1 locs1 cells → W p l e R s m args below meth c H1 locs1 cells slots Q (F0 m (pc + 3) ls rest)) : W p l e R s m args below meth c H locs cells slots Q (F0 m pc ls (v :: .ref h :: rest)) := by
  have hD := cr_D S
  obtain ⟨hP, hdn, hz, hc0, hS, hs⟩ := S
  have hS2 : va_S (fun q : Nat => h ≤ q) H H locs := ⟨Nat.le_refl _, fun _ _ _ => rfl, hS.2.2⟩
  refine va_put C.1 C.2.1 C.2.2.2.2 hin ty0 hty hnm C.2.2.2.1 G.1 hP hD hS2 0 rfl hc k hk (C.2.2.2.2 _ hw) (fun _ z => z) hfin hd hn hfit hl hdg (fun H1 locs1 hP1 hD1 hS1 => cr_sq (fun hsz => kk H1 locs1 ⟨hP1, ?_, ?_, hc0, ⟨Nat.le_trans hS.1 hS1.1, fun x h1 h2 => (hS1.2.1 x (Nat.lt_of_lt_of_le h1 hS.1) h2).trans (hS.2.1 x h1 h2), hS1.2.2⟩, hs⟩))
  · intro j q hj
    match j, hj with
    | 0, hj => cases hj; rfl
    | j + 1, hj => exact hdn (j + 1) q hj
  · have := hS1.1
    have e : ((h, (.inr (ci, fs) : va_E)) :: wr).length = ((h, (.inr (ci, fs.set k v) : va_E)) :: wr).length := rfl
    rw [← e]
    omega
theorem kp_ws_dn {X : kp_X} {h : Nat} {lay : Nat → kp_D} {n : Nat} {σ : kp_W} : ∀ (k : Nat) (q : Nat × va_E), (kp_ws (kp_Xh X h) lay n σ)[k]? = some q → q.1 = h + k := by
  intro k q hk
  obtain ⟨hn, rfl⟩ := kp_ws_some hk
  rfl
/-- behind the constructor of a part: its cells stand at the end of the block -/
theorem cr_join {h : Nat} {ws : va_W} {ci : Nat} {fs : List Value} {lay : Nat → kp_D} {n : Nat} {σ : kp_W} {s t : State} {H H1 : Heap} {locs locs1 : List Loc} {cells mc : Nat} (S : kp_CS X h s (ws ++ [(h + ws.length, .inr (ci, fs))]) H locs cells) (hn : mc + 1 = n) (ht : t.heap = H1) (hB : kp_CE X lay n σ (h + ws.length) t) (hk : ∀ q : Nat, q < H.size → ¬ (h + ws.length ≤ q) → H1[q]? = H[q]?) (hS1 : va_S (fun q : Nat => h ≤ q) s.heap H1 locs1) : kp_CS X h s (ws ++ kp_ws (kp_Xh X (h + ws.length)) lay n σ) H1 locs1 (cells + mc) := by
  obtain ⟨hP, hd, hz, hc, hS, hs⟩ := S
  obtain ⟨b1, b2, b3⟩ := hB
  rw [ht] at b1 b2
  have hw : ∀ (k : Nat) (x : Nat × va_E), ws[k]? = some x → (ws ++ [(h + ws.length, (.inr (ci, fs) : va_E))])[k]? = some x := fun k x hx => by
    rw [List.getElem?_append_left (List.getElem?_eq_some_iff.mp hx).1]; exact hx
  have hP0 : va_P X.1 vwCl ws H := fun k x hx => hP k x (hw k x hx)
  have hd0 : ∀ (k : Nat) (x : Nat × va_E), ws[k]? = some x → x.1 = h + k := fun k x hx => hd k x (hw k x hx)
  rw [List.length_append] at hz hc
  simp only [List.length_cons, List.length_nil] at hz hc
  refine ⟨(hP0.kept (fun k x hx => hk x.1 (hP0 k x hx).lt (fun z => ?_))).app b2, fun k q hq => ?_, by rw [List.length_append, kp_ws_len]; omega, by rw [List.length_append, kp_ws_len]; omega, hS1, hs⟩
  · have := hd0 k x hx
    have := (List.getElem?_eq_some_iff.mp hx).1
    omega
  · by_cases hl : k < ws.length
    · rw [List.getElem?_append_left hl] at hq; exact hd0 k q hq
    · rw [List.getElem?_append_right (by omega)] at hq
      have := kp_ws_dn _ _ hq
      omega
theorem cr_pre (G : kp_GK X h s) {ws : va_W} {ci : Nat} {fs : List Value} (S : kp_CS X h s (ws ++ [(h + ws.length, .inr (ci, fs))]) H locs cells) : PreS s H (va_Pc [.ref (h + ws.length)] (kp_CB X ci fs (h + ws.length))) [.ref (h + ws.length)] := by
  obtain ⟨hP, hd, hz, hc, hS, hs⟩ := S
  refine ⟨fun a U g mk q => ?_, fun U hU hW => ⟨rfl, ?_, ?_, ?_⟩⟩
  · obtain ⟨q0, q1, q2, q3⟩ := q
    exact ⟨q0, q1, q2, q3.same (u := U) (U := U.calling g mk a) rfl rfl⟩
  · rw [hU, hz, List.length_append]; rfl
  · rw [hU]
    intro k q hq
    have hz : k < 1 := (List.getElem?_eq_some_iff.mp hq).1
    rw [show k = 0 by omega] at hq
    exact hP ws.length q (by rw [List.getElem?_append_right (Nat.le_refl _), Nat.sub_self]; exact hq)
  · have g := G.to hS hU hW
    exact ⟨g.1, g.2.narrow (fun q (hq : h + ws.length ≤ q) => by show h ≤ q; omega)⟩
/-- new, dup, the constructor (by a word of a nest mate, or by a plain one) -/
theorem cr_mkN (C : CallFix p m c cc nL s args kp_wl own) (G : kp_GK X h s) (hls : ls.size = nL) {ci : Nat} {fs : List Value} (S : kp_CS X h s (ws ++ [(h + ws.length, .inr (ci, fs))]) H locs cells) {y : MethodName} {bytes : ByteArray} {nf mc ms index n : Nat} {host : String} {lay : Nat → kp_D} {σ : kp_W} (hM : kp_Cn l y bytes nf mc ms X ci fs lay n σ) (hn : mc + 1 = n) (w1 : (own, index, y, host) ∈ kp_nm) (w2 : Cond.instanceMethod y ∈ kp_wl) (w4 : Cond.initialized y.cls ∈ kp_wl) (w5 : Cond.code y bytes 1 none ∈ kp_wl) (hy : y.name = "<init>") (hd : y.cls ≠ "java/lang/invoke/MethodHandle" ∧ y.cls ≠ "java/lang/invoke/VarHandle" ∧ (parseMethodDescriptor y.desc).map (fun d => d.parameters.length) = some 0) (hR : nf + 1 ≤ R.frames ∧ 20 + 60 * nf ≤ R.locals) (hf : cells + mc ≤ R.cells ∧ slots + ms ≤ R.slots) (hW : (rest.map fun v => v.category).sum ≤ 8) (hdg : decode cc pc = .ok (.invokespecial index, 3))
    (kk : ∀ (H1 : Heap) (locs1 : List Loc), kp_CS X h s (ws ++ kp_ws (kp_Xh X (h + ws.length)) lay n σ) H1 locs1 (cells + mc) → W p l e R s m args below meth c H1 locs1 (cells + mc) (slots + ms) Q (F0 m (pc + 3) ls rest)) : W p l e R s m args below meth c H locs cells slots Q (F0 m pc ls (.ref (h + ws.length) :: rest)) := by
  refine va_callv (va_runIN (As := []) (rest := rest) C (hM (h + ws.length)) ⟨va_cnB 0 C.2.2.2.2 (kp_wsy w5) rfl rfl rfl (G.2.2.2.2.2.2.1 _ w1) (C.2.2.2.2 _ w4) hd ⟨hR.1, by show 8 + (1 + 11) + 60 * nf ≤ R.locals; omega⟩, hy, C.2.2.2.2 _ w2⟩ (cr_pre G S) rfl rfl hls rfl (lv_room hW) hdg hf) S.2.2.2.2.1 (fun q _ (z : h + ws.length ≤ q) => by show h ≤ q; omega) (fun q (z : h + ws.length ≤ q) => by show h ≤ q; omega) (fun u t H1 locs1 ht hvm hw hB hz1 hk1 hS => kk H1 locs1 (cr_join S hn ht hB hk1 hS))
theorem cr_mk (C : CallFix p m c cc nL s args kp_wl own) (G : kp_GK X h s) (hls : ls.size = nL) {ci : Nat} {fs : List Value} (S : kp_CS X h s (ws ++ [(h + ws.length, .inr (ci, fs))]) H locs cells) {y : MethodName} {bytes : ByteArray} {nf mc ms index n : Nat} {lay : Nat → kp_D} {σ : kp_W} (hM : kp_Cn l y bytes nf mc ms X ci fs lay n σ) (hn : mc + 1 = n) (w1 : Cond.methodLink own index y ∈ kp_wl) (w2 : Cond.instanceMethod y ∈ kp_wl) (w4 : Cond.initialized y.cls ∈ kp_wl) (w5 : Cond.code y bytes 1 none ∈ kp_wl) (hy : y.name = "<init>") (hd : y.cls ≠ "java/lang/invoke/MethodHandle" ∧ y.cls ≠ "java/lang/invoke/VarHandle" ∧ (parseMethodDescriptor y.desc).map (fun d => d.parameters.length) = some 0) (hR : nf + 1 ≤ R.frames ∧ 20 + 60 * nf ≤ R.locals) (hf : cells + mc ≤ R.cells ∧ slots + ms ≤ R.slots) (hW : (rest.map fun v => v.category).sum ≤ 8) (hdg : decode cc pc = .ok (.invokespecial index, 3))
    (kk : ∀ (H1 : Heap) (locs1 : List Loc), kp_CS X h s (ws ++ kp_ws (kp_Xh X (h + ws.length)) lay n σ) H1 locs1 (cells + mc) → W p l e R s m args below meth c H1 locs1 (cells + mc) (slots + ms) Q (F0 m (pc + 3) ls rest)) : W p l e R s m args below meth c H locs cells slots Q (F0 m pc ls (.ref (h + ws.length) :: rest)) := by
  refine va_callv (va_runI (As := []) (rest := rest) C (hM (h + ws.length)) ⟨callB_of 0 C.2.2.2.2 (kp_wsy w5) rfl rfl rfl (C.2.2.2.2 _ w4) (C.2.2.2.2 _ w1) hd ⟨hR.1, by show 8 + (1 + 11) + 60 * nf ≤ R.locals; omega⟩, hy, C.2.2.2.2 _ w2⟩ (cr_pre G S) rfl rfl hls rfl (lv_room hW) hdg hf) S.2.2.2.2.1 (fun q _ (z : h + ws.length ≤ q) => by show h ≤ q; omega) (fun q (z : h + ws.length ≤ q) => by show h ≤ q; omega) (fun u t H1 locs1 ht hvm hw hB hz1 hk1 hS => kk H1 locs1 (cr_join S hn ht hB hk1 hS))
end CTR
