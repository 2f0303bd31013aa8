section KPM
variable {p : Program} {l : Launch} {e : Env} {R : Room} {s : State} {m : MethodId} {args : Array Value} {below : List Frame} {meth : Method} {c : Code} {H : Heap} {locs : List Loc} {Q : State → Prop}
variable {cc : ByteArray} {nL : Nat} {own : String} {pc : Nat} {ls : Array Slot} {rest : List Value} {X : kp_X} {lay : Nat → kp_D} {N d : Nat} {σ : kp_W} {o : Int × kp_W}
theorem kp_dup2 (C : CallFix p m c cc nL s args kp_wl own) {va vb : Value} (hdg : decode cc pc = .ok (.dup2, 1)) (h1 : va.category = 1) (h2 : vb.category = 1) (k : W p l e R s m args below meth c H locs 0 0 Q (F0 m (pc + 1) ls (va :: vb :: va :: vb :: rest))) : W p l e R s m args below meth c H locs 0 0 Q (F0 m pc ls (va :: vb :: rest)) := lv_dup2_11 C.1 C.2.1 hdg h1 h2 k
theorem kp_tabIn (C : CallFix p m c cc nL s args kp_wl own) {dflt lo hi off x v : Int} {offs : Array Int} {len tgt : Nat} (hdg : decode cc pc = .ok (.tableswitch dflt lo hi offs, len)) (hx : x = v) (hv : kp_in v ∧ lo ≤ v ∧ v ≤ hi) (ho : offs[(v - lo).toNat]? = some off) (ht : (pc : Int) + off = (tgt : Int)) (k : W p l e R s m args below meth c H locs 0 0 Q (F0 m tgt ls rest)) : W p l e R s m args below meth c H locs 0 0 Q (F0 m pc ls (kp_iv x :: rest)) := by
  subst hx
  exact lv_tableIn C.1 C.2.1 hdg (by rw [kp_ti hv.1]; omega) (by rw [kp_ti hv.1]; omega) (by rw [kp_ti hv.1]; exact ho) ht k
theorem kp_tabOut (C : CallFix p m c cc nL s args kp_wl own) {dflt lo hi x : Int} {offs : Array Int} {len tgt : Nat} (hdg : decode cc pc = .ok (.tableswitch dflt lo hi offs, len)) (hx : kp_in x) (hn : x < lo ∨ hi < x) (ht : (pc : Int) + dflt = (tgt : Int)) (k : W p l e R s m args below meth c H locs 0 0 Q (F0 m tgt ls rest)) : W p l e R s m args below meth c H locs 0 0 Q (F0 m pc ls (kp_iv x :: rest)) :=
  lv_tableOut C.1 C.2.1 hdg (by rw [kp_ti hx]; exact hn) ht k
theorem kp_look (C : CallFix p m c cc nL s args kp_wl own) {dflt off x : Int} {ps : Array (Int × Int)} {len tgt : Nat} (hdg : decode cc pc = .ok (.lookupswitch dflt ps, len)) (hp : (ps.toList.zip (ps.toList.drop 1)).all (fun (a, next) => a.1 < next.1) = true) (hx : kp_in x) (ho : Op.lookupswitch.offset ps.toList dflt x = off) (ht : (pc : Int) + off = (tgt : Int)) (k : W p l e R s m args below meth c H locs 0 0 Q (F0 m tgt ls rest)) : W p l e R s m args below meth c H locs 0 0 Q (F0 m pc ls (kp_iv x :: rest)) :=
  lv_lookup C.1 C.2.1 hdg hp (by rw [kp_ti hx]; exact ho) ht k
theorem kp_nn (n : Int) : kp_in n → 0 ≤ n → ¬ Int32.ofInt n < 0 := fun h h0 => by rw [kp_0, kp_lt_i h kp_in0]; omega
def kp_fill (σ : kp_W) (k : Nat) (f : Nat → Int) (n : Nat) : kp_W := fun a b => if a = k ∧ b < n then f b else σ a b
theorem kp_fill_ne {σ : kp_W} {k : Nat} {f : Nat → Int} {n j : Nat} (h : j ≠ k) : kp_fill σ k f n j = σ j := by
  funext b
  unfold kp_fill
  rw [if_neg (fun z => h z.1)]
theorem kp_fill_eq {σ : kp_W} {k : Nat} {f : Nat → Int} {n j : Nat} : kp_fill σ k f n k j = if j < n then f j else σ k j := by
  unfold kp_fill
  by_cases h : j < n
  · rw [if_pos ⟨rfl, h⟩, if_pos h]
  · rw [if_neg (fun z => h z.2), if_neg h]
theorem kp_cpyI {f g : Nat → Int} {n : Nat} : va_cpy (fun j => Int32.ofInt (f j)) (fun j => Int32.ofInt (g j)) 0 0 n = fun j => Int32.ofInt (if j < n then f j else g j) := by
  funext j
  unfold va_cpy
  by_cases q : j < n
  · rw [if_pos ⟨Nat.zero_le _, by omega⟩, if_pos q, Nat.sub_zero, Nat.zero_add]
  · rw [if_neg (by omega), if_neg q]
theorem kp_cpyJ {f g : Nat → Int} {n : Nat} : va_cpy (fun j => Int64.ofInt (f j)) (fun j => Int64.ofInt (g j)) 0 0 n = fun j => Int64.ofInt (if j < n then f j else g j) := by
  funext j
  unfold va_cpy
  by_cases q : j < n
  · rw [if_pos ⟨Nat.zero_le _, by omega⟩, if_pos q, Nat.sub_zero, Nat.zero_add]
  · rw [if_neg (by omega), if_neg q]
theorem kp_nfw {st : List Value} {d : Nat} (hd : 1 ≤ d) (hW : (st.map fun v => v.category).sum ≤ 8) : (st.map fun v => v.category).sum + (nativeFrameWords "java/lang/System" "arraycopy" 5 + 11) ≤ (kp_rm d).locals := by
  have h7 : nativeFrameWords "java/lang/System" "arraycopy" 5 = 7 := by decide +kernel
  show _ ≤ 60 * d
  omega
theorem kp_ac0 : (Int32.ofInt 0).toNatClampNeg = 0 := rfl
/-- System.arraycopy(a, 0, b, 0, n) between two int rows -/
theorem kp_acI (C : CallFix p m c cc nL s args kp_wl own) (G : kp_G X N s) (h : kp_H X lay N s σ H locs) (hl : ls.size = nL) {index k0 k1 n0 n1 : Nat} {n : Int} {rs0 rs1 : List (Option Nat)} (w1 : Cond.methodLink own index arraycopyName ∈ kp_wl) (w2 : Cond.native arraycopyName ∈ kp_wl) (w3 : Cond.static arraycopyName ∈ kp_wl) (w4 : Cond.initialized "java/lang/System" ∈ kp_wl) (hL0 : k0 < N ∧ lay k0 = (1, n0, rs0)) (hL1 : k1 < N ∧ lay k1 = (1, n1, rs1)) (hn : kp_in n ∧ 0 ≤ n ∧ n.toNat ≤ n0 ∧ n.toNat ≤ n1) (hd : 1 ≤ d) (hW : (rest.map fun v => v.category).sum ≤ 8) (hdg : decode cc pc = .ok (.invokestatic index, 3)) {f : kp_W → kp_R} (hF : kp_lt (kp_fill σ k1 (σ k0) n.toNat) f = some o) (kk : ∀ (σ' : kp_W) (H1 : Heap) (locs1 : List Loc), kp_H X lay N s σ' H1 locs1 → f σ' = some o → W p l e (kp_rm d) s m args below meth c H1 locs1 0 0 Q (F0 m (pc + 3) ls rest)) : W p l e (kp_rm d) s m args below meth c H locs 0 0 Q (F0 m pc ls (kp_iv n :: kp_iv 0 :: .ref (kp_ad X k1) :: kp_iv 0 :: .ref (kp_ad X k0) :: rest)) := by
  have hc : (Int32.ofInt n).toNatClampNeg = n.toNat := kp_cl hn.1
  refine va_copyi C.1 C.2.1 (C.2.2.1.trans hl.symm) C.2.2.2.1 (C.2.2.2.2 _ w1) (C.2.2.2.2 _ w2) (C.2.2.2.2 _ w3) (C.2.2.2.2 _ w4) G.1 h.1 (kp_ws_D G.2.1) h.2 k0 k1 0 0 (kp_arr hL0) (kp_arr hL1) (ty := .int) rfl rfl rfl (sp := Int32.ofInt 0) (dp := Int32.ofInt 0) (n := Int32.ofInt n) (by decide) (by decide) (kp_nn n hn.1 hn.2.1) (by rw [hc, kp_ac0]; omega) (by rw [hc, kp_ac0]; omega) (fun _ _ => rfl) hd (kp_nfw hd hW) hdg (fun H1 locs1 hP _ hS => kk (kp_fill σ k1 (σ k0) n.toNat) H1 locs1 ⟨?_, hS⟩ hF)
  rw [hc, kp_ac0, kp_cpyI, kp_ws_set (σ' := kp_fill σ k1 (σ k0) n.toNat) hL1.1 (by rw [hL1.2]; show Sum.inl _ = Sum.inl _; congr 4; funext j; rw [kp_fill_eq]) (fun _ hq => kp_fill_ne hq)] at hP
  exact hP
theorem kp_acJ (C : CallFix p m c cc nL s args kp_wl own) (G : kp_G X N s) (h : kp_H X lay N s σ H locs) (hl : ls.size = nL) {index k0 k1 n0 n1 : Nat} {n : Int} {rs0 rs1 : List (Option Nat)} (w1 : Cond.methodLink own index arraycopyName ∈ kp_wl) (w2 : Cond.native arraycopyName ∈ kp_wl) (w3 : Cond.static arraycopyName ∈ kp_wl) (w4 : Cond.initialized "java/lang/System" ∈ kp_wl) (hL0 : k0 < N ∧ lay k0 = (2, n0, rs0)) (hL1 : k1 < N ∧ lay k1 = (2, n1, rs1)) (hn : kp_in n ∧ 0 ≤ n ∧ n.toNat ≤ n0 ∧ n.toNat ≤ n1) (hd : 1 ≤ d) (hW : (rest.map fun v => v.category).sum ≤ 8) (hdg : decode cc pc = .ok (.invokestatic index, 3)) {f : kp_W → kp_R} (hF : kp_lt (kp_fill σ k1 (σ k0) n.toNat) f = some o) (kk : ∀ (σ' : kp_W) (H1 : Heap) (locs1 : List Loc), kp_H X lay N s σ' H1 locs1 → f σ' = some o → W p l e (kp_rm d) s m args below meth c H1 locs1 0 0 Q (F0 m (pc + 3) ls rest)) : W p l e (kp_rm d) s m args below meth c H locs 0 0 Q (F0 m pc ls (kp_iv n :: kp_iv 0 :: .ref (kp_ad X k1) :: kp_iv 0 :: .ref (kp_ad X k0) :: rest)) := by
  have hc : (Int32.ofInt n).toNatClampNeg = n.toNat := kp_cl hn.1
  refine va_copyl C.1 C.2.1 (C.2.2.1.trans hl.symm) C.2.2.2.1 (C.2.2.2.2 _ w1) (C.2.2.2.2 _ w2) (C.2.2.2.2 _ w3) (C.2.2.2.2 _ w4) G.1 h.1 (kp_ws_D G.2.1) h.2 k0 k1 1 1 (kp_arrL hL0) (kp_arrL hL1) (ty := .long) rfl rfl rfl (sp := Int32.ofInt 0) (dp := Int32.ofInt 0) (n := Int32.ofInt n) (by decide) (by decide) (kp_nn n hn.1 hn.2.1) (by rw [hc, kp_ac0]; omega) (by rw [hc, kp_ac0]; omega) (fun _ _ => rfl) hd (kp_nfw hd hW) hdg (fun H1 locs1 hP _ hS => kk (kp_fill σ k1 (σ k0) n.toNat) H1 locs1 ⟨?_, hS⟩ hF)
  rw [hc, kp_ac0, kp_cpyJ, kp_ws_set (σ' := kp_fill σ k1 (σ k0) n.toNat) hL1.1 (by rw [hL1.2]; show Sum.inl _ = Sum.inl _; congr 5; funext j; rw [kp_fill_eq]) (fun _ hq => kp_fill_ne hq)] at hP
  exact hP
theorem kp_acZ (C : CallFix p m c cc nL s args kp_wl own) (G : kp_G X N s) (h : kp_H X lay N s σ H locs) (hl : ls.size = nL) {index k0 k1 n0 n1 : Nat} {n : Int} {rs0 rs1 : List (Option Nat)} (w1 : Cond.methodLink own index arraycopyName ∈ kp_wl) (w2 : Cond.native arraycopyName ∈ kp_wl) (w3 : Cond.static arraycopyName ∈ kp_wl) (w4 : Cond.initialized "java/lang/System" ∈ kp_wl) (hL0 : k0 < N ∧ lay k0 = (3, n0, rs0)) (hL1 : k1 < N ∧ lay k1 = (3, n1, rs1)) (hn : kp_in n ∧ 0 ≤ n ∧ n.toNat ≤ n0 ∧ n.toNat ≤ n1) (hd : 1 ≤ d) (hW : (rest.map fun v => v.category).sum ≤ 8) (hdg : decode cc pc = .ok (.invokestatic index, 3)) {f : kp_W → kp_R} (hF : kp_ck (∀ i, i < n.toNat → σ k0 i = 0 ∨ σ k0 i = 1) (kp_lt (kp_fill σ k1 (σ k0) n.toNat) f) = some o) (kk : ∀ (σ' : kp_W) (H1 : Heap) (locs1 : List Loc), kp_H X lay N s σ' H1 locs1 → f σ' = some o → W p l e (kp_rm d) s m args below meth c H1 locs1 0 0 Q (F0 m (pc + 3) ls rest)) : W p l e (kp_rm d) s m args below meth c H locs 0 0 Q (F0 m pc ls (kp_iv n :: kp_iv 0 :: .ref (kp_ad X k1) :: kp_iv 0 :: .ref (kp_ad X k0) :: rest)) := by
  obtain ⟨hz, hF⟩ := kp_ck_s hF
  have hc : (Int32.ofInt n).toNatClampNeg = n.toNat := kp_cl hn.1
  refine va_copyi C.1 C.2.1 (C.2.2.1.trans hl.symm) C.2.2.2.1 (C.2.2.2.2 _ w1) (C.2.2.2.2 _ w2) (C.2.2.2.2 _ w3) (C.2.2.2.2 _ w4) G.1 h.1 (kp_ws_D G.2.1) h.2 k0 k1 2 2 (kp_arrZ hL0) (kp_arrZ hL1) (ty := .boolean) rfl rfl rfl (sp := Int32.ofInt 0) (dp := Int32.ofInt 0) (n := Int32.ofInt n) (by decide) (by decide) (kp_nn n hn.1 hn.2.1) (by rw [hc, kp_ac0]; omega) (by rw [hc, kp_ac0]; omega) (fun i hi => by rw [hc] at hi; rw [kp_ac0, Nat.zero_add]; rcases hz i hi with q | q <;> rw [q] <;> rfl) hd (kp_nfw hd hW) hdg (fun H1 locs1 hP _ hS => kk (kp_fill σ k1 (σ k0) n.toNat) H1 locs1 ⟨?_, hS⟩ hF)
  rw [hc, kp_ac0, kp_cpyI, kp_ws_set (σ' := kp_fill σ k1 (σ k0) n.toNat) hL1.1 (by rw [hL1.2]; show Sum.inl _ = Sum.inl _; congr 4; funext j; rw [kp_fill_eq]) (fun _ hq => kp_fill_ne hq)] at hP
  exact hP
/-- System.arraycopy(a static int row, 0, b, 0, n) -/
theorem kp_acT (C : CallFix p m c cc nL s args kp_wl own) (G : kp_G X N s) (h : kp_H X lay N s σ H locs) (hl : ls.size = nL) {index i k1 n0 n1 : Nat} {n : Int} {rs1 : List (Option Nat)} (w1 : Cond.methodLink own index arraycopyName ∈ kp_wl) (w2 : Cond.native arraycopyName ∈ kp_wl) (w3 : Cond.static arraycopyName ∈ kp_wl) (w4 : Cond.initialized "java/lang/System" ∈ kp_wl) (hi : i < 1) (hL0 : (kp_tb i).length = n0) (hL1 : k1 < N ∧ lay k1 = (1, n1, rs1)) (hn : kp_in n ∧ 0 ≤ n ∧ n.toNat ≤ n0 ∧ n.toNat ≤ n1) (hd : 1 ≤ d) (hW : (rest.map fun v => v.category).sum ≤ 8) (hdg : decode cc pc = .ok (.invokestatic index, 3)) {f : kp_W → kp_R} (hF : kp_lt (kp_fill σ k1 (fun j => (kp_tb i).getD j 0) n.toNat) f = some o) (kk : ∀ (σ' : kp_W) (H1 : Heap) (locs1 : List Loc), kp_H X lay N s σ' H1 locs1 → f σ' = some o → W p l e (kp_rm d) s m args below meth c H1 locs1 0 0 Q (F0 m (pc + 3) ls rest)) : W p l e (kp_rm d) s m args below meth c H locs 0 0 Q (F0 m pc ls (kp_iv n :: kp_iv 0 :: .ref (kp_ad X k1) :: kp_iv 0 :: .ref (kp_tt X i) :: rest)) := by
  have hc : (Int32.ofInt n).toNatClampNeg = n.toNat := kp_cl hn.1
  have h3 := kp_nn n hn.1 hn.2.1
  have e3 : (Int32.ofInt n).toInt = (n.toNat : Int) := by rw [kp_ti hn.1]; omega
  have hP := h.1
  have hS := h.2
  have hD := kp_ws_D (X := X) (lay := lay) (σ := σ) G.2.1
  have ha1 := kp_arr (X := X) (σ := σ) hL1
  intro T hT Y
  obtain ⟨scr, hs1, hs2, hs3, hs4, -, hs5, hs7⟩ := (G.2.2.1 i hi).2
  rw [hL0] at hs4 hs5
  have hc0 : H[kp_tt X i]? = some scr := by rw [hS.2.1 _ (Array.getElem?_eq_some_iff.mp hs1).1 hs7]; exact hs1
  have hc1 : H[kp_ad X k1]? = some (vp_cell (kp_cy X 0) (n1, .inl fun j => Int32.ofInt (σ k1 j))) := hP k1 _ ha1
  obtain ⟨hs6, c0, hk0, cm0, hkk0⟩ := hs2
  obtain ⟨-, c1, hk1, cm1, hkk1⟩ := (G.1.2 0 _ rfl).1 n1 (fun j => .int (Int32.ofInt (σ k1 j)))
  obtain ⟨vm', Y', step⟩ := Y.arraycopy C.1 C.2.2.2.1 (C.2.2.2.2 _ w1) (C.2.2.2.2 _ w2) (C.2.2.2.2 _ w3) (C.2.2.2.2 _ w4) (src := kp_tt X i) (dst := kp_ad X k1) (cs := scr) (cd := vp_cell (kp_cy X 0) (n1, .inl fun j => Int32.ofInt (σ k1 j))) (srcPos := Int32.ofInt 0) (destPos := Int32.ofInt 0) (n := Int32.ofInt n) (by rw [hT]; exact hc0) (by rw [hT]; exact hc1)
    hs6 (fun _ h => by cases h) hs3 (fun h => by cases h) hk0 hk1 hkk0 hkk1 (by simp [refKind]) (by decide) (by decide) h3
    (by show ¬ (Int32.ofInt 0).toInt + (Int32.ofInt n).toInt > _; rw [e3, kp_ti kp_in0]; omega)
    (by show ¬ (Int32.ofInt 0).toInt + (Int32.ofInt n).toInt > ((arrV (kp_cy X 0) n1 (fun j => .int (Int32.ofInt (σ k1 j)))).slots.size : Int); rw [arrV_size, e3, kp_ti kp_in0]; omega)
    (fun vm₁ _ j hj => by
      rw [hc] at hj
      have e : scr.slots.getD ((Int32.ofInt 0).toNatClampNeg + j) .null = .int (Int32.ofInt ((kp_tb i).getD j 0)) := by
        rw [kp_ac0, Nat.zero_add, Array.getD_eq_getD_getElem?, hs5 _ (by omega)]
        rfl
      refine ⟨?_, ?_⟩
      · rw [e]
        rfl
      · rw [e]
        exact trivial)
    (g := F0 m pc ls (kp_iv n :: kp_iv 0 :: .ref (kp_ad X k1) :: kp_iv 0 :: .ref (kp_tt X i) :: rest)) rfl (hl.trans C.2.2.1.symm) (rest := rest) rfl (by rw [C.2.1]; exact hdg) hd (by have := kp_nfw hd hW; show 2 * 0 + _ + _ ≤ _; omega)
  have e1 : copied scr (vp_cell (kp_cy X 0) (n1, .inl fun j => Int32.ofInt (σ k1 j))) (Int32.ofInt 0) (Int32.ofInt 0) (Int32.ofInt n) = vp_cell (kp_cy X 0) (n1, .inl (va_cpy (fun j => Int32.ofInt ((kp_tb i).getD j 0)) (fun j => Int32.ofInt (σ k1 j)) (Int32.ofInt 0).toNatClampNeg (Int32.ofInt 0).toNatClampNeg (Int32.ofInt n).toNatClampNeg)) := va_copiedX (fun z => .int z) scr (kp_cy X 0) (fun j => Int32.ofInt ((kp_tb i).getD j 0)) (fun j => Int32.ofInt (σ k1 j)) hs5 (by rw [hc, kp_ac0]; omega)
  rw [e1, hc, kp_ac0, kp_cpyI] at Y' step
  have hlt : kp_ad X k1 < H.size := (Array.getElem?_eq_some_iff.mp hc1).1
  generalize hcell : vp_cell (kp_cy X 0) (n1, .inl fun j => Int32.ofInt (if j < n.toNat then (kp_tb i).getD j 0 else σ k1 j)) = cell at Y' step
  have hheap : ((T.setVm vm').setCell (kp_ad X k1) cell).heap = H.setIfInBounds (kp_ad X k1) cell := by rw [← hT]; rfl
  have oq : ∀ q : Nat, q ≠ kp_ad X k1 → (H.setIfInBounds (kp_ad X k1) cell)[q]? = H[q]? := fun q hq => by simp [Array.getElem?_setIfInBounds, Ne.symm hq]
  have hP2 := hP.set hD ha1 (e := .inl (kp_cy X 0, n1, .inl fun j => Int32.ofInt (if j < n.toNat then (kp_tb i).getD j 0 else σ k1 j))) (H1 := H.setIfInBounds (kp_ad X k1) cell) (show (H.setIfInBounds (kp_ad X k1) cell)[kp_ad X k1]? = some _ by rw [← hcell] at *; simp [Array.getElem?_setIfInBounds, hlt]) oq
  rw [kp_ws_set (σ' := kp_fill σ k1 (fun j => (kp_tb i).getD j 0) n.toNat) hL1.1 (by rw [hL1.2]; show Sum.inl _ = Sum.inl _; congr 4; funext j; rw [kp_fill_eq]) (fun _ hq => kp_fill_ne hq)] at hP2
  obtain ⟨t, a1, b1⟩ := kk _ _ _ ⟨hP2, ⟨by simp; exact hS.1, fun q g1 g2 => by
      rw [oq q (fun e => g2 (by rw [e]; exact ⟨k1, hL1.1, rfl⟩))]
      exact hS.2.1 q g1 g2, fun q hq => by
      rcases List.mem_append.mp hq with h | h
      · exact hS.2.2 q h
      · obtain ⟨z, -, hz⟩ := List.mem_map.mp h
        rw [← hz]
        exact ⟨k1, hL1.1, rfl⟩⟩⟩ hF _ hheap Y'
  exact ⟨t, step t a1, b1⟩
end KPM
