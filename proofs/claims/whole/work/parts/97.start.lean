-- the world at the law's entry: classes, arrays' classes, statics, strings
def kl_tm : List Term := [.string "KnockPipes$Reader" 92, .string "KnockPipes$Reader" 98, .string "KnockPipes$Reader" 72, .string "KnockPipesModel" 112, .string "KnockPipesModel" 118, .string "KnockPipesModel" 123, .string "KnockPipesModel" 128, .string "KnockPipesModel" 130, .string "KnockPipesModel" 132, .string "KnockPipesModel" 134]
def kl_tmi (i : Nat) : Term := kl_tm.getD i (.string "" 0)
abbrev kl_C : Cond := Jvm.Cond.and given_1 narrow_1
theorem kl_n1 : ∀ i, i < 1 → Cond.arrayOf (.static (kp_tn i).1 (kp_tn i).2 "[I") .int ∈ flatC kl_C := by decide +kernel
theorem kl_n2 : ∀ i, i < 1 → Cond.eq (.length (.static (kp_tn i).1 (kp_tn i).2 "[I")) (.int (Int32.ofNat (kp_tb i).length)) ∈ flatC kl_C := by decide +kernel
theorem kl_n3 : ∀ i, i < 1 → ∀ j, j < (kp_tb i).length → Cond.eq (.elem (.static (kp_tn i).1 (kp_tn i).2 "[I") (.int (Int32.ofNat j))) (.int (Int32.ofInt ((kp_tb i).getD j 0))) ∈ flatC kl_C := by decide +kernel
theorem kl_n4 : Cond.eq (.static "java/lang/String" "COMPACT_STRINGS" "Z") (.int 1) ∈ flatC kl_C := by decide +kernel
theorem kl_n5 : Cond.isRef (.static "jdk/internal/util/Preconditions" "SIOOBE_FORMATTER" "Ljava/util/function/BiFunction;") ∈ flatC kl_C := by decide +kernel
theorem kl_s1 : ∀ i, i < 10 → Cond.exactly (kl_tmi i) "java/lang/String" ∈ flatC kl_C := by decide +kernel
theorem kl_s2 : ∀ i, i < 10 → Cond.eq (.field (kl_tmi i) "java/lang/String" "coder" "B") (.int 0) ∈ flatC kl_C := by decide +kernel
theorem kl_s3 : ∀ i, i < 10 → Cond.arrayOf (.field (kl_tmi i) "java/lang/String" "value" "[B") .byte ∈ flatC kl_C := by decide +kernel
theorem kl_s4 : ∀ i, i < 10 → Cond.eq (.length (.field (kl_tmi i) "java/lang/String" "value" "[B")) (.int (Int32.ofNat (kp_len.getD i 0))) ∈ flatC kl_C := by decide +kernel
theorem kl_s5 : ∀ i, i < 10 → ∀ j, j < kp_len.getD i 0 → Cond.eq (.elem (.field (kl_tmi i) "java/lang/String" "value" "[B") (.int (Int32.ofNat j))) (.int ((kp_byt.getD i []).getD j 0)) ∈ flatC kl_C := by decide +kernel
theorem kl_s6 : ∀ i, i < 10 → ∀ j, j < 10 → i ≠ j → Cond.not (.eq (kl_tmi i) (kl_tmi j)) ∈ flatC kl_C ∨ Cond.not (.eq (kl_tmi j) (kl_tmi i)) ∈ flatC kl_C := by decide +kernel
theorem kl_s7 : Cond.eq (.string "KnockPipes$Reader" 92) (.string "KnockPipesModel" 94) ∈ flatC kl_C ∧ Cond.eq (.string "KnockPipes$Reader" 98) (.string "KnockPipesModel" 100) ∈ flatC kl_C := by decide +kernel
theorem kl_w1 : ∀ q ∈ kp_sr, Cond.stringRef q.1 q.2.1 q.2.2.1 ∈ tables_1 := by decide +kernel
theorem kl_w2 : ∀ q ∈ kp_nm, Cond.methodLinkNest q.1 q.2.1 q.2.2.1 q.2.2.2 ∈ tables_1 := by decide +kernel
theorem kl_w3 : ∀ q ∈ kp_nf, Cond.fieldLinkNest q.1 q.2.1 q.2.2.1 q.2.2.2.1 q.2.2.2.2.1 q.2.2.2.2.2 ∈ tables_1 := by decide +kernel
theorem kl_w4 : ∀ i, i < 1 → Cond.laysStatic (kp_tn i).1 (kp_tn i).2 "[I" ∈ tables_1 := by decide +kernel
theorem kl_w5 : Cond.laysStatic "java/lang/String" "COMPACT_STRINGS" "Z" ∈ tables_1 ∧ Cond.laysStatic "jdk/internal/util/Preconditions" "SIOOBE_FORMATTER" "Ljava/util/function/BiFunction;" ∈ tables_1 := by decide +kernel
theorem kl_w6 : ∀ i, i < 1 → Cond.initialized (kp_tn i).1 ∈ kp_wl := by
  intro i hi
  match i, hi with
  | 0, _ => exact q1_1
theorem kl_arr {s : State} {args : Array Value} {ty : FieldType} (h : (Cond.arrayClass ty).before args s = true) (hra : ∀ c0, s.vm.findClass ("[" ++ ty.toString) = some c0 → va_RA s c0 ty) : ∃ cA : ClassId, ArrOfT s cA ty ∧ va_RA s cA ty := by
  obtain ⟨cA, kA, comp, hfc, hk, hkind⟩ := Cond.arrayClass_spec h
  exact ⟨cA, fun n z => ⟨fun k h => (by cases h), kA, hk, comp, hkind⟩, hra cA hfc⟩
theorem kl_cls {s : State} {args : Array Value} (hts : ∀ w ∈ kp_wl, w.before args s = true) : ∃ (dC : Nat → ClassId) (dI : Nat → Nat → Nat), ∀ (k : Nat) (q : vw_C), vwCl[k]? = some q → u_Kn s q.1 q.2.1 q.2.2 (dC k) (dI k) := by
  obtain ⟨c0, i0, k0⟩ := u_known (C := RX0) (T := TX0) (N := 5) (n := 5) hts inWX0 (hts _ q1_229)
  obtain ⟨c1, i1, k1⟩ := u_known (C := RX1) (T := TX1) (N := 6) (n := 6) hts inWX1 (hts _ q1_29)
  obtain ⟨c2, i2, k2⟩ := u_known (C := RX2) (T := TX2) (N := 7) (n := 7) hts inWX2 (hts _ q1_53)
  obtain ⟨c3, i3, k3⟩ := u_known (C := RX3) (T := TX3) (N := 6) (n := 6) hts inWX3 (hts _ q1_97)
  obtain ⟨c4, i4, k4⟩ := u_known (C := RX4) (T := TX4) (N := 4) (n := 4) hts inWX4 (hts _ q1_133)
  obtain ⟨c5, i5, k5⟩ := u_known (C := RX5) (T := TX5) (N := 3) (n := 3) hts inWX5 (hts _ q1_181)
  obtain ⟨c6, i6, k6⟩ := u_known (C := RX6) (T := TX6) (N := 6) (n := 6) hts inWX6 (hts _ q1_203)
  obtain ⟨c7, i7, k7⟩ := u_known (C := RX7) (T := TX7) (N := 2) (n := 2) hts inWX7 (hts _ q1_35)
  obtain ⟨c8, i8, k8⟩ := u_known (C := RX9) (T := TX9) (N := 8) (n := 8) hts inWX9 (hts _ q1_21)
  obtain ⟨c9, i9, k9⟩ := u_known (C := RX10) (T := TX10) (N := 26) (n := 26) hts inWX10 (hts _ q4_40)
  refine ⟨fun k => [c0, c1, c2, c3, c4, c5, c6, c7, c8, c9].getD k c0, fun k => [i0, i1, i2, i3, i4, i5, i6, i7, i8, i9].getD k i0, ?_⟩
  intro k q hq
  match k, hq with
  | 0, hq => cases hq; exact k0
  | 1, hq => cases hq; exact k1
  | 2, hq => cases hq; exact k2
  | 3, hq => cases hq; exact k3
  | 4, hq => cases hq; exact k4
  | 5, hq => cases hq; exact k5
  | 6, hq => cases hq; exact k6
  | 7, hq => cases hq; exact k7
  | 8, hq => cases hq; exact k8
  | 9, hq => cases hq; exact k9
  | k + 10, hq => simp [vwCl] at hq
theorem kl_world {s : State} {args : Array Value} (hts : ∀ w ∈ lw_tbl, w.before args s = true) (hgv : kl_C.before args s = true) : ∃ X : kp_X, kp_GK X s.heap.size s := by
  have hA : ∀ a : Nat, a < s.heap.size → ¬ (s.heap.size ≤ a) := fun a h => Nat.not_le.mpr h
  have hk : ∀ w ∈ kp_wl, w.before args s = true := fun w h => hts w (kp_wl_in w h)
  have ht : ∀ w ∈ tables_1, w.before args s = true := fun w h => hts w (List.mem_append_right _ h)
  have hs := flat_of_before _ hgv
  obtain ⟨dC, dI, hC⟩ := kl_cls hk
  obtain ⟨cI, aI, rI⟩ := kl_arr (ty := .int) (hk _ q1_51) (fun _ z => z)
  obtain ⟨cJ, aJ, rJ⟩ := kl_arr (ty := .long) (hk _ q1_50) (fun _ z => z)
  obtain ⟨cZ, aZ, rZ⟩ := kl_arr (ty := .boolean) (hk _ q4_123) (fun _ z => z)
  have hst : ∀ i, ∃ t : Nat, i < 1 → va_Z (kp_tn i).1 (kp_tn i).2 "[I" (.ref t) (fun q => s.heap.size ≤ q) s s.heap ∧ va_T .int t (kp_tb i).length (fun j => kp_iv ((kp_tb i).getD j 0)) (fun q => s.heap.size ≤ q) s s.heap := by
    intro i
    by_cases hi : i < 1
    · have hl : ∀ i, i < 1 → (kp_tb i).length < 2 ^ 31 := by decide +kernel
      obtain ⟨t, e1, e2⟩ := va_Tof (f := fun j => kp_iv ((kp_tb i).getD j 0)) (A := fun q => s.heap.size ≤ q) (hl i hi) (hs _ (kl_n1 i hi)) (va_eqt (hs _ (kl_n2 i hi))) (fun j hj => va_eqt (hs _ (kl_n3 i hi j hj))) hA
      exact ⟨t, fun _ => ⟨va_Zof (ht _ (kl_w4 i hi)) (hk _ (kl_w6 i hi)) e1 hA, e2⟩⟩
    · exact ⟨0, fun h => absurd h hi⟩
  obtain ⟨tt, htt⟩ := Classical.skolem.mp hst
  have hN : ∀ i : Nat, i < 10 → kp_len.getD i 0 < 2 ^ 31 := by decide +kernel
  obtain ⟨sK, sV, hS, hE⟩ := vk_Sof (args := args) (s := s) (N := 10) (tm := kl_tmi) (len := kp_len) (byt := kp_byt) (A := fun q => s.heap.size ≤ q) hN (fun i hi => hs _ (kl_s1 i hi)) (fun i hi => hs _ (kl_s2 i hi)) (fun i hi => hs _ (kl_s3 i hi)) (fun i hi => hs _ (kl_s4 i hi)) (fun i hi j hj => hs _ (kl_s5 i hi j hj)) (fun i j hi hj hn => (kl_s6 i hi j hj hn).elim (fun h => Or.inl (hs _ h)) (fun h => Or.inr (hs _ h))) hA
  have hR : ∀ q ∈ kp_sr, vk_R q.1 q.2.1 q.2.2.1 (sK q.2.2.2) s := by
    have e0 := hE 0 (by decide)
    have e1 := hE 1 (by decide)
    have f0 := va_eqR (hs _ kl_s7.1) e0
    have f1 := va_eqR (hs _ kl_s7.2) e1
    intro q hq
    refine vk_R.of (A := args) (ht _ (kl_w1 q hq)) ?_
    unfold kp_sr at hq
    simp only [List.mem_cons, List.not_mem_nil, or_false] at hq
    rcases hq with rfl | rfl | rfl | rfl | rfl | rfl | rfl | rfl | rfl | rfl | rfl | rfl
    · exact e0
    · exact e1
    · exact hE 2 (by decide)
    · exact f0
    · exact f1
    · exact hE 3 (by decide)
    · exact hE 4 (by decide)
    · exact hE 5 (by decide)
    · exact hE 6 (by decide)
    · exact hE 7 (by decide)
    · exact hE 8 (by decide)
    · exact hE 9 (by decide)
  refine ⟨((dC, dI), fun _ => 0, fun k => [cI, cJ, cZ].getD k cI, tt, sK, sV), ⟨hC, fun k q hq => ?_⟩, fun i hi => htt i hi, hS, va_Zof (ht _ kl_w5.1) (hk _ q1_13) (va_eqt (hs _ kl_n4)) hA, va_Zqof (ht _ kl_w5.2) (hk _ q1_15) (hs _ kl_n5) hA, hR, fun q hq => va_Nw.of rfl (ht _ (kl_w2 q hq)), fun q hq => va_Nw.of rfl (ht _ (kl_w3 q hq))⟩
  match k, hq with
  | 0, hq => cases hq; exact ⟨aI, rI⟩
  | 1, hq => cases hq; exact ⟨aJ, rJ⟩
  | 2, hq => cases hq; exact ⟨aZ, rZ⟩
  | k + 3, hq => simp [kp_tys] at hq
