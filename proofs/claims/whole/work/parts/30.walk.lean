-- by program (wip/whole/gen/drive.py)
def kl_X10_figures_34  : Nat → Int → Int → kp_W → (Int → kp_W → kp_R) → kp_R
  | 0, _, _, _, _ => none
  | n + 1, x1_1, x2_1, σ_3, k => kp_ls x2_1 2 (kp_eq (σ_3 0 7) 0 (kp_bd (kf_X10_here σ_3) (fun r_0 σ_5 => kp_bd (kf_X10_in r_0 48 57 σ_5) (fun r_1 σ_6 => kp_eq r_1 0 (k x1_1 σ_6) (kp_jn (fun (_ : Unit) => kp_bd (kf_X10_here σ_6) (fun r_2 σ_7 => kp_lt ((((10 * x1_1) + r_2) - 48) : Int) (fun x1_3 => kp_lt (kp_up σ_7 0 5 ((σ_7 0 5) + 1)) (fun σ_8 => kp_lt (x2_1 + 1) (fun x2_2 => kl_X10_figures_34 n x1_3 x2_2 σ_8 k))))) (fun j68 => kp_eq x2_1 0 (j68 ()) (kp_ls 0 x1_1 (j68 ()) (k x1_1 σ_6))))))) (k x1_1 σ_3)) (k x1_1 σ_3)
def kf_X10_figures   (σ_0 : kp_W) : kp_R :=
  kp_jn (fun (v_0 : Int) (σ_1 : kp_W) => kp_ck (v_0 = 0 ∨ v_0 = 1) (kp_lt (kp_up σ_1 0 7 v_0) (fun σ_2 => kp_lt (0 : Int) (fun x1_0 => kp_lt (0 : Int) (fun x2_0 => kl_X10_figures_34 kp_fu x1_0 x2_0 σ_2 (fun (x1_2 : Int) (σ_4 : kp_W) => some (x1_2, σ_4))))))) (fun j27 => kp_jn (fun (σ_9 : kp_W) => j27 1 σ_9) (fun j22 => kp_eq (σ_0 0 7) 0 (kp_bd (kf_X10_here σ_0) (fun r_3 σ_10 => kp_bd (kf_X10_in r_3 48 57 σ_10) (fun r_4 σ_11 => kp_eq r_4 0 (j22 σ_11) (j27 0 σ_11)))) (j22 σ_0)))
set_option maxRecDepth 100000 in
set_option maxHeartbeats 4000000 in
theorem kc_X10_figures {l : Launch} {X : kp_X}  {σ_0 σ' : kp_W} {r : Int}   (hF : (kf_X10_figures σ_0) = some (r, σ')) : kp_Met l yX10_figures cX10_figures 3 (some .int) 1 X kp_lM 10 σ_0 [.ref (kp_ad X 0)] (kp_Qi X kp_lM 10 σ' r) := by
  refine kp_body pnX10 (Nat.le_of_ble_eq_true rfl) ?_
  intro p e s m args below meth c ls C hr hlk G h hl
  unfold kf_X10_figures at hF
  have hl : lv_has ls 3 [(0, .ref (kp_ad X 0))] := hl
  refine kp_aload_n C dX10_figures_0 rfl (lv_at hl 0 rfl) ?_
  refine kp_aload_n C dX10_figures_1 rfl (lv_at hl 0 rfl) ?_
  refine kp_geti C G h kp_lM0 rfl inWX10 (j := 7) (by decide) q4_64 rfl dX10_figures_2 ?_
  obtain ⟨j27, ej27, hF⟩ := kp_jn_s hF
  have J27 : ∀ (v_0 : Int), ∀ (σ_1 : kp_W), ∀ (H : Heap) (locs : List Loc) (ls : Array Slot), kp_H X kp_lM 10 s σ_1 H locs → lv_has ls 3 [(0, .ref (kp_ad X 0))] → j27 v_0 σ_1 = some (r, σ') → W p l e (kp_rm 1) s m args below meth c H locs 0 0 (MQ below (kp_Qi X kp_lM 10 σ' r) args s 0 0 (kp_A X 10)) (F0 m 27 ls [kp_iv v_0, .ref (kp_ad X 0)]) := by
    intro v_0 σ_1 H locs ls h hl hF
    rw [ej27] at hF
    refine kp_putz C G h kp_lM0 rfl inWX10 tyX10 tyX10_ok nmX10 (j := 7) (by decide) q4_64 rfl rfl (by decide +kernel) dX10_figures_27 hF (fun σ_2 H locs h hF => ?_)
    refine kp_iconst C dX10_figures_30 ?_
    refine kp_istore_n (lv' := fun x1_0 => [(1, kp_iv x1_0), (0, .ref (kp_ad X 0))]) C dX10_figures_31 rfl hl (by decide) (fun _ => rfl) hF (fun x1_0 ls hl hF => ?_)
    refine kp_iconst C dX10_figures_32 ?_
    refine kp_istore_n (lv' := fun x2_0 => [(2, kp_iv x2_0), (1, kp_iv x1_0), (0, .ref (kp_ad X 0))]) C dX10_figures_33 rfl hl (by decide) (fun _ => rfl) hF (fun x2_0 ls hl hF => ?_)
    have L34 : ∀ (n : Nat) (x1_1 : Int) (x2_1 : Int) (σ_3 : kp_W) (k : Int → kp_W → kp_R) (H : Heap) (locs : List Loc) (ls : Array Slot), kp_H X kp_lM 10 s σ_3 H locs → lv_has ls 3 [(0, .ref (kp_ad X 0)), (1, kp_iv x1_1), (2, kp_iv x2_1)] → (∀ (x1_2 : Int) (σ_4 : kp_W) (H : Heap) (locs : List Loc) (ls : Array Slot), kp_H X kp_lM 10 s σ_4 H locs → lv_has ls 3 [(1, kp_iv x1_2)] → k x1_2 σ_4 = some (r, σ') → W p l e (kp_rm 1) s m args below meth c H locs 0 0 (MQ below (kp_Qi X kp_lM 10 σ' r) args s 0 0 (kp_A X 10)) (F0 m 97 ls [])) → kl_X10_figures_34 n x1_1 x2_1 σ_3 k = some (r, σ') → W p l e (kp_rm 1) s m args below meth c H locs 0 0 (MQ below (kp_Qi X kp_lM 10 σ' r) args s 0 0 (kp_A X 10)) (F0 m 34 ls []) := by
      intro n
      induction n with
      | zero =>
        intro x1_1 x2_1 σ_3 k H locs ls h hl K hF
        rw [kl_X10_figures_34] at hF
        cases hF
      | succ n ih =>
        intro x1_1 x2_1 σ_3 k H locs ls h hl K hF
        rw [kl_X10_figures_34] at hF
        refine kp_iload_n C dX10_figures_34 rfl (lv_at hl 2 rfl) ?_
        refine kp_iconst C dX10_figures_35 ?_
        refine kp_icmp_ge (tgt := 97) C dX10_figures_36 (by decide) hF (fun hF => ?_) (fun hF => ?_)
        · exact K _ _ _ _ _ h (lv_sub hl [1] rfl) hF
        · refine kp_aload_n C dX10_figures_39 rfl (lv_at hl 0 rfl) ?_
          refine kp_geti C G h kp_lM0 rfl inWX10 (j := 7) (by decide) q4_64 rfl dX10_figures_40 ?_
          refine kp_if_ne (tgt := 97) C dX10_figures_43 (by decide) hF (fun hF => ?_) (fun hF => ?_)
          · exact K _ _ _ _ _ h (lv_sub hl [1] rfl) hF
          · refine kp_aload_n C dX10_figures_46 rfl (lv_at hl 0 rfl) ?_
            obtain ⟨r_0, σ_5, hc, hF⟩ := kp_bd_s hF
            refine kp_ci h (kp_rV (k := 0) (As := []) (rest := []) C G h (kc_X10_here  hc) q4_157 q4_159 q0_3_3 q1_11 q4_160 ⟨rfl, hd_X10_here⟩ (by decide) kp_lM0 rfl rfl hl.1 rfl (Nat.le_of_ble_eq_true rfl) dX10_figures_47) (fun H locs h => ?_)
            refine kp_bipush C dX10_figures_50 rfl ?_
            refine kp_bipush C dX10_figures_52 rfl ?_
            obtain ⟨r_1, σ_6, hc, hF⟩ := kp_bd_s hF
            refine kp_ci h (kp_rS (As := [kp_iv r_0, kp_iv 48, kp_iv 57]) (rest := []) C G h (kc_X10_in  hc) q4_140 q4_141 q1_11 q4_142 hd_X10_in (by decide) rfl hl.1 rfl (Nat.le_of_ble_eq_true rfl) dX10_figures_54) (fun H locs h => ?_)
            refine kp_if_eq (tgt := 97) C dX10_figures_57 (by decide) hF (fun hF => ?_) (fun hF => ?_)
            · exact K _ _ _ _ _ h (lv_sub hl [1] rfl) hF
            · refine kp_iload_n C dX10_figures_60 rfl (lv_at hl 2 rfl) ?_
              obtain ⟨j68, ej68, hF⟩ := kp_jn_s hF
              have J68 : ∀ _ : Unit, ∀ (H : Heap) (locs : List Loc) (ls : Array Slot), kp_H X kp_lM 10 s σ_6 H locs → lv_has ls 3 [(0, .ref (kp_ad X 0)), (1, kp_iv x1_1), (2, kp_iv x2_1)] → j68 () = some (r, σ') → W p l e (kp_rm 1) s m args below meth c H locs 0 0 (MQ below (kp_Qi X kp_lM 10 σ' r) args s 0 0 (kp_A X 10)) (F0 m 68 ls []) := by
                intro _ H locs ls h hl hF
                rw [ej68] at hF
                refine kp_bipush C dX10_figures_68 rfl ?_
                refine kp_iload_n C dX10_figures_70 rfl (lv_at hl 1 rfl) ?_
                refine kp_imul C dX10_figures_71 ?_
                refine kp_aload_n C dX10_figures_72 rfl (lv_at hl 0 rfl) ?_
                obtain ⟨r_2, σ_7, hc, hF⟩ := kp_bd_s hF
                refine kp_ci h (kp_rV (k := 0) (As := []) (rest := [kp_iv (10 * x1_1)]) C G h (kc_X10_here  hc) q4_157 q4_159 q0_3_3 q1_11 q4_160 ⟨rfl, hd_X10_here⟩ (by decide) kp_lM0 rfl rfl hl.1 rfl (Nat.le_of_ble_eq_true rfl) dX10_figures_73) (fun H locs h => ?_)
                refine kp_iadd C dX10_figures_76 ?_
                refine kp_bipush C dX10_figures_77 rfl ?_
                refine kp_isub C dX10_figures_79 ?_
                refine kp_istore_n (lv' := fun x1_3 => [(1, kp_iv x1_3), (0, .ref (kp_ad X 0)), (2, kp_iv x2_1)]) C dX10_figures_80 rfl hl (by decide) (fun _ => rfl) hF (fun x1_3 ls hl hF => ?_)
                refine kp_aload_n C dX10_figures_81 rfl (lv_at hl 1 rfl) ?_
                refine kp_dup C dX10_figures_82 rfl ?_
                refine kp_geti C G h kp_lM0 rfl inWX10 (j := 5) (by decide) q4_62 rfl dX10_figures_83 ?_
                refine kp_iconst C dX10_figures_86 ?_
                refine kp_iadd C dX10_figures_87 ?_
                refine kp_puti C G h kp_lM0 rfl inWX10 tyX10 tyX10_ok nmX10 (j := 5) (by decide) q4_62 rfl rfl (by decide +kernel) dX10_figures_88 hF (fun σ_8 H locs h hF => ?_)
                refine kp_iinc (k := 2) (lv' := fun x2_2 => [(2, kp_iv x2_2), (1, kp_iv x1_3), (0, .ref (kp_ad X 0))]) C dX10_figures_91 hl rfl (by decide) (fun _ => rfl) hF (fun x2_2 ls hl hF => ?_)
                refine kp_goto (tgt := 34) C dX10_figures_94 (by decide) ?_
                exact ih _ _ _ k _ _ _ h (lv_sub hl [2, 1, 0] rfl) K hF
              clear ej68
              refine kp_if_eq (tgt := 68) C dX10_figures_61 (by decide) hF (fun hF => ?_) (fun hF => ?_)
              · exact J68 () _ _ _ h (lv_sub hl [0, 1, 2] rfl) hF
              · refine kp_iload_n C dX10_figures_64 rfl (lv_at hl 1 rfl) ?_
                refine kp_if_le (tgt := 97) C dX10_figures_65 (by decide) hF (fun hF => ?_) (fun hF => ?_)
                · exact K _ _ _ _ _ h (lv_sub hl [1] rfl) hF
                · exact J68 () _ _ _ h (lv_sub hl [0, 1, 2] rfl) hF
    refine L34 kp_fu _ _ _ _ _ _ _ h (lv_sub hl [2, 1, 0] rfl) (fun x1_2 σ_4 H locs ls h hl hF => ?_) hF
    clear L34
    refine kp_iload_n C dX10_figures_97 rfl (lv_at hl 0 rfl) ?_
    exact kp_reti C hr hlk G h dX10_figures_98 hF
  clear ej27
  obtain ⟨j22, ej22, hF⟩ := kp_jn_s hF
  have J22 : ∀ (σ_9 : kp_W), ∀ (H : Heap) (locs : List Loc) (ls : Array Slot), kp_H X kp_lM 10 s σ_9 H locs → lv_has ls 3 [(0, .ref (kp_ad X 0))] → j22 σ_9 = some (r, σ') → W p l e (kp_rm 1) s m args below meth c H locs 0 0 (MQ below (kp_Qi X kp_lM 10 σ' r) args s 0 0 (kp_A X 10)) (F0 m 22 ls [.ref (kp_ad X 0)]) := by
    intro σ_9 H locs ls h hl hF
    rw [ej22] at hF
    refine kp_iconst C dX10_figures_22 ?_
    refine kp_goto (tgt := 27) C dX10_figures_23 (by decide) ?_
    exact J27 _ _ _ _ _ h (lv_sub hl [0] rfl) hF
  clear ej22
  refine kp_if_ne (tgt := 22) C dX10_figures_5 (by decide) hF (fun hF => ?_) (fun hF => ?_)
  · exact J22 _ _ _ _ h (lv_sub hl [0] rfl) hF
  · refine kp_aload_n C dX10_figures_8 rfl (lv_at hl 0 rfl) ?_
    obtain ⟨r_3, σ_10, hc, hF⟩ := kp_bd_s hF
    refine kp_ci h (kp_rV (k := 0) (As := []) (rest := [.ref (kp_ad X 0)]) C G h (kc_X10_here  hc) q4_157 q4_159 q0_3_3 q1_11 q4_160 ⟨rfl, hd_X10_here⟩ (by decide) kp_lM0 rfl rfl hl.1 rfl (Nat.le_of_ble_eq_true rfl) dX10_figures_9) (fun H locs h => ?_)
    refine kp_bipush C dX10_figures_12 rfl ?_
    refine kp_bipush C dX10_figures_14 rfl ?_
    obtain ⟨r_4, σ_11, hc, hF⟩ := kp_bd_s hF
    refine kp_ci h (kp_rS (As := [kp_iv r_3, kp_iv 48, kp_iv 57]) (rest := [.ref (kp_ad X 0)]) C G h (kc_X10_in  hc) q4_140 q4_141 q1_11 q4_142 hd_X10_in (by decide) rfl hl.1 rfl (Nat.le_of_ble_eq_true rfl) dX10_figures_16) (fun H locs h => ?_)
    refine kp_if_ne (tgt := 26) C dX10_figures_19 (by decide) hF (fun hF => ?_) (fun hF => ?_)
    · refine kp_iconst C dX10_figures_26 ?_
      exact J27 _ _ _ _ _ h (lv_sub hl [0] rfl) hF
    · exact J22 _ _ _ _ h (lv_sub hl [0] rfl) hF
def kl_X10_among_2 (a1 : Nat) : Nat → Int → kp_W → (Int → kp_W → kp_R) → kp_R
  | 0, _, _, _ => none
  | n + 1, x2_1, σ_1, k => kp_ls x2_1 (kp_slen a1) (kp_bd (kf_X10_here σ_1) (fun r_0 σ_4 => kp_ck (0 ≤ x2_1 ∧ x2_1 < kp_slen a1) (kp_eq r_0 (kp_sch a1 x2_1) (k x2_1 σ_4) (kp_lt (x2_1 + 1) (fun x2_3 => kl_X10_among_2 a1 n x2_3 σ_4 k))))) (some ((-1), σ_1))
def kf_X10_among  (a1 : Nat) (σ_0 : kp_W) : kp_R :=
  kp_lt (0 : Int) (fun x2_0 => kl_X10_among_2 a1 kp_fu x2_0 σ_0 (fun (x2_2 : Int) (σ_2 : kp_W) => kp_lt (kp_up σ_2 0 5 ((σ_2 0 5) + 1)) (fun σ_3 => some (x2_2, σ_3))))
set_option maxRecDepth 100000 in
set_option maxHeartbeats 4000000 in
theorem kc_X10_among {l : Launch} {X : kp_X} {a1 : Nat}  {σ_0 σ' : kp_W} {r : Int} (h1 : a1 < 10)  (hF : (kf_X10_among a1 σ_0) = some (r, σ')) : kp_Met l yX10_among cX10_among 3 (some .int) 5 X kp_lM 10 σ_0 [.ref (kp_ad X 0), .ref (kp_sK X a1)] (kp_Qi X kp_lM 10 σ' r) := by
  refine kp_body pnX10 (Nat.le_of_ble_eq_true rfl) ?_
  intro p e s m args below meth c ls C hr hlk G h hl
  unfold kf_X10_among at hF
  have hl : lv_has ls 3 [(0, .ref (kp_ad X 0)), (1, .ref (kp_sK X a1))] := hl
  refine kp_iconst C dX10_among_0 ?_
  refine kp_istore_n (lv' := fun x2_0 => [(2, kp_iv x2_0), (0, .ref (kp_ad X 0)), (1, .ref (kp_sK X a1))]) C dX10_among_1 rfl hl (by decide) (fun _ => rfl) hF (fun x2_0 ls hl hF => ?_)
  have L2 : ∀ (n : Nat) (x2_1 : Int) (σ_1 : kp_W) (k : Int → kp_W → kp_R) (H : Heap) (locs : List Loc) (ls : Array Slot), kp_H X kp_lM 10 s σ_1 H locs → lv_has ls 3 [(0, .ref (kp_ad X 0)), (1, .ref (kp_sK X a1)), (2, kp_iv x2_1)] → (∀ (x2_2 : Int) (σ_2 : kp_W) (H : Heap) (locs : List Loc) (ls : Array Slot), kp_H X kp_lM 10 s σ_2 H locs → lv_has ls 3 [(0, .ref (kp_ad X 0)), (2, kp_iv x2_2)] → k x2_2 σ_2 = some (r, σ') → W p l e (kp_rm 5) s m args below meth c H locs 0 0 (MQ below (kp_Qi X kp_lM 10 σ' r) args s 0 0 (kp_A X 10)) (F0 m 22 ls [])) → kl_X10_among_2 a1 n x2_1 σ_1 k = some (r, σ') → W p l e (kp_rm 5) s m args below meth c H locs 0 0 (MQ below (kp_Qi X kp_lM 10 σ' r) args s 0 0 (kp_A X 10)) (F0 m 2 ls []) := by
    intro n
    induction n with
    | zero =>
      intro x2_1 σ_1 k H locs ls h hl K hF
      rw [kl_X10_among_2] at hF
      cases hF
    | succ n ih =>
      intro x2_1 σ_1 k H locs ls h hl K hF
      rw [kl_X10_among_2] at hF
      refine kp_iload_n C dX10_among_2 rfl (lv_at hl 2 rfl) ?_
      refine kp_aload_n C dX10_among_3 rfl (lv_at hl 1 rfl) ?_
      refine kp_ci h (kp_rT (i := a1) (As := []) (rest := [kp_iv x2_1]) C G h h1 (kc_length h1) q4_170 q2_159 q2_160 q1_13 q2_161 hd_J0_length_8abf5 (by decide) rfl hl.1 rfl (Nat.le_of_ble_eq_true rfl) dX10_among_4) (fun H locs h => ?_)
      refine kp_icmp_ge (tgt := 40) C dX10_among_7 (by decide) hF (fun hF => ?_) (fun hF => ?_)
      · refine kp_iconst C dX10_among_40 ?_
        exact kp_reti C hr hlk G h dX10_among_41 hF
      · refine kp_aload_n C dX10_among_10 rfl (lv_at hl 0 rfl) ?_
        obtain ⟨r_0, σ_4, hc, hF⟩ := kp_bd_s hF
        refine kp_ci h (kp_rV (k := 0) (As := []) (rest := []) C G h (kc_X10_here  hc) q4_157 q4_159 q0_3_3 q1_11 q4_160 ⟨rfl, hd_X10_here⟩ (by decide) kp_lM0 rfl rfl hl.1 rfl (Nat.le_of_ble_eq_true rfl) dX10_among_11) (fun H locs h => ?_)
        refine kp_aload_n C dX10_among_14 rfl (lv_at hl 1 rfl) ?_
        refine kp_iload_n C dX10_among_15 rfl (lv_at hl 2 rfl) ?_
        obtain ⟨hcc, hF⟩ := kp_ck_s hF
        refine kp_ci h (kp_rT (i := a1) (As := [kp_iv x2_1]) (rest := [kp_iv r_0]) C G h h1 (kc_charAt h1 hcc) q4_171 q2_82 q2_83 q1_13 q2_84 hd_J0_charAt_5068e (by decide) rfl hl.1 rfl (Nat.le_of_ble_eq_true rfl) dX10_among_16) (fun H locs h => ?_)
        refine kp_icmp_ne (tgt := 34) C dX10_among_19 (by decide) hF (fun hF => ?_) (fun hF => ?_)
        · refine kp_iinc (k := 2) (lv' := fun x2_3 => [(2, kp_iv x2_3), (0, .ref (kp_ad X 0)), (1, .ref (kp_sK X a1))]) C dX10_among_34 hl rfl (by decide) (fun _ => rfl) hF (fun x2_3 ls hl hF => ?_)
          refine kp_goto (tgt := 2) C dX10_among_37 (by decide) ?_
          exact ih _ _ k _ _ _ h (lv_sub hl [1, 2, 0] rfl) K hF
        · exact K _ _ _ _ _ h (lv_sub hl [0, 2] rfl) hF
  refine L2 kp_fu _ _ _ _ _ _ h (lv_sub hl [1, 2, 0] rfl) (fun x2_2 σ_2 H locs ls h hl hF => ?_) hF
  clear L2
  refine kp_aload_n C dX10_among_22 rfl (lv_at hl 0 rfl) ?_
  refine kp_dup C dX10_among_23 rfl ?_
  refine kp_geti C G h kp_lM0 rfl inWX10 (j := 5) (by decide) q4_62 rfl dX10_among_24 ?_
  refine kp_iconst C dX10_among_27 ?_
  refine kp_iadd C dX10_among_28 ?_
  refine kp_puti C G h kp_lM0 rfl inWX10 tyX10 tyX10_ok nmX10 (j := 5) (by decide) q4_62 rfl rfl (by decide +kernel) dX10_among_29 hF (fun σ_3 H locs h hF => ?_)
  refine kp_iload_n C dX10_among_32 rfl (lv_at hl 1 rfl) ?_
  exact kp_reti C hr hlk G h dX10_among_33 hF
def kf_X10_emits  (a1 : Int) (σ_0 : kp_W) : kp_R :=
  kp_eq (σ_0 0 7) 0 (kp_ck (0 ≤ (361 + (σ_0 0 4)) ∧ (361 + (σ_0 0 4)) < 1066) (kp_ck (0 ≤ ((366 + (140 * (σ_0 0 4))) + (σ_0 1 (Int.toNat (361 + (σ_0 0 4))))) ∧ ((366 + (140 * (σ_0 0 4))) + (σ_0 1 (Int.toNat (361 + (σ_0 0 4))))) < 1066) (kp_lt (kp_up σ_0 1 (Int.toNat ((366 + (140 * (σ_0 0 4))) + (σ_0 1 (Int.toNat (361 + (σ_0 0 4)))))) a1) (fun σ_1 => kp_ck (0 ≤ (361 + (σ_1 0 4)) ∧ (361 + (σ_1 0 4)) < 1066) (kp_ck (0 ≤ (361 + (σ_1 0 4)) ∧ (361 + (σ_1 0 4)) < 1066) (kp_lt (kp_up σ_1 1 (Int.toNat (361 + (σ_1 0 4))) ((σ_1 1 (Int.toNat (361 + (σ_1 0 4)))) + 1)) (fun σ_2 => some (0, σ_2)))))))) (some (0, σ_0))
set_option maxRecDepth 100000 in
set_option maxHeartbeats 4000000 in
theorem kc_X10_emits {l : Launch} {X : kp_X} {a1 : Int}  {σ_0 σ' : kp_W} {r : Int}   (hF : (kf_X10_emits a1 σ_0) = some (r, σ')) : kp_Met l yX10_emits cX10_emits 2 none 0 X kp_lM 10 σ_0 [.ref (kp_ad X 0), kp_iv a1] (kp_Qv X kp_lM 10 σ') := by
  refine kp_body pnX10 (Nat.le_of_ble_eq_true rfl) ?_
  intro p e s m args below meth c ls C hr hlk G h hl
  unfold kf_X10_emits at hF
  have hl : lv_has ls 2 [(0, .ref (kp_ad X 0)), (1, kp_iv a1)] := hl
  refine kp_aload_n C dX10_emits_0 rfl (lv_at hl 0 rfl) ?_
  refine kp_geti C G h kp_lM0 rfl inWX10 (j := 7) (by decide) q4_64 rfl dX10_emits_1 ?_
  refine kp_if_ne (tgt := 56) C dX10_emits_4 (by decide) hF (fun hF => ?_) (fun hF => ?_)
  · exact kp_retv (v := 0) C hr hlk G h dX10_emits_56 hF
  · refine kp_aload_n C dX10_emits_7 rfl (lv_at hl 0 rfl) ?_
    refine kp_getr C G h kp_lM0 rfl inWX10 (j := 1) (by decide) q4_58 rfl dX10_emits_8 ?_
    refine kp_sipush C dX10_emits_11 rfl ?_
    refine kp_sipush C dX10_emits_14 rfl ?_
    refine kp_aload_n C dX10_emits_17 rfl (lv_at hl 0 rfl) ?_
    refine kp_geti C G h kp_lM0 rfl inWX10 (j := 4) (by decide) q4_61 rfl dX10_emits_18 ?_
    refine kp_imul C dX10_emits_21 ?_
    refine kp_iadd C dX10_emits_22 ?_
    refine kp_aload_n C dX10_emits_23 rfl (lv_at hl 0 rfl) ?_
    refine kp_getr C G h kp_lM0 rfl inWX10 (j := 1) (by decide) q4_58 rfl dX10_emits_24 ?_
    refine kp_sipush C dX10_emits_27 rfl ?_
    refine kp_aload_n C dX10_emits_30 rfl (lv_at hl 0 rfl) ?_
    refine kp_geti C G h kp_lM0 rfl inWX10 (j := 4) (by decide) q4_61 rfl dX10_emits_31 ?_
    refine kp_iadd C dX10_emits_34 ?_
    refine kp_iald C G h (n := 1066) kp_lM1 (by decide) dX10_emits_35 hF (fun hF => ?_)
    refine kp_iadd C dX10_emits_36 ?_
    refine kp_iload_n C dX10_emits_37 rfl (lv_at hl 1 rfl) ?_
    refine kp_iast C G h (n := 1066) kp_lM1 (by decide) dX10_emits_38 hF (fun σ_1 H locs h hF => ?_)
    refine kp_aload_n C dX10_emits_39 rfl (lv_at hl 0 rfl) ?_
    refine kp_getr C G h kp_lM0 rfl inWX10 (j := 1) (by decide) q4_58 rfl dX10_emits_40 ?_
    refine kp_sipush C dX10_emits_43 rfl ?_
    refine kp_aload_n C dX10_emits_46 rfl (lv_at hl 0 rfl) ?_
    refine kp_geti C G h kp_lM0 rfl inWX10 (j := 4) (by decide) q4_61 rfl dX10_emits_47 ?_
    refine kp_iadd C dX10_emits_50 ?_
    refine kp_dup2 C dX10_emits_51 rfl rfl ?_
    refine kp_iald C G h (n := 1066) kp_lM1 (by decide) dX10_emits_52 hF (fun hF => ?_)
    refine kp_iconst C dX10_emits_53 ?_
    refine kp_iadd C dX10_emits_54 ?_
    refine kp_iast C G h (n := 1066) kp_lM1 (by decide) dX10_emits_55 hF (fun σ_2 H locs h hF => ?_)
    exact kp_retv (v := 0) C hr hlk G h dX10_emits_56 hF
def kf_X10_factor (fac : kp_W → kp_R) (som : kp_W → kp_R)  (σ_0 : kp_W) : kp_R :=
  kp_eq (σ_0 0 7) 0 (kp_bd (kf_X10_here σ_0) (fun r_0 σ_1 => kp_lt (r_0 : Int) (fun x1_0 => kp_jn (fun (σ_2 : kp_W) => kp_jn (fun (v_0 : Int) => kp_ck (v_0 = 0 ∨ v_0 = 1) (kp_lt (kp_up σ_2 0 7 v_0) (fun σ_3 => kp_lt (kp_up σ_3 0 8 ((σ_3 0 8) + 1)) (fun σ_4 => kp_jn (fun (v_1 : Int) => kp_lt (kp_up σ_4 0 5 ((σ_4 0 5) + v_1)) (fun σ_5 => kp_jn (fun (σ_6 : kp_W) => kp_lt (kp_up σ_6 0 8 ((σ_6 0 8) - 1)) (fun σ_7 => some (0, σ_7))) (fun j101 => kp_eq x1_0 33 (kp_bd (fac σ_5) (fun r_3 σ_10 => kp_bd (kf_X10_emits (-1) σ_10) (fun r_4 σ_11 => j101 σ_11))) (kp_bd (som σ_5) (fun r_1 σ_8 => kp_bd (kf_X10_must 41 σ_8) (fun r_2 σ_9 => j101 σ_9)))))) (fun j69 => kp_eq (σ_4 0 7) 0 (j69 1) (j69 0)))))) (fun j39 => kp_eq (σ_2 0 8) 5 (j39 1) (j39 0))) (fun j25 => kp_eq x1_0 33 (j25 σ_1) (kp_eq x1_0 40 (j25 σ_1) (kp_bd (kf_X10_among 0 σ_1) (fun r_5 σ_12 => kp_lt (r_5 : Int) (fun x2_0 => kp_jn (fun (v_2 : Int) => kp_ck (v_2 = 0 ∨ v_2 = 1) (kp_lt (kp_up σ_12 0 7 v_2) (fun σ_13 => kp_jn (fun (v_3 : Int) (σ_14 : kp_W) => kp_lt (v_3 : Int) (fun x3_0 => kp_jn (fun (v_4 : Int) => kp_ck (v_4 = 0 ∨ v_4 = 1) (kp_lt (kp_up σ_14 0 7 v_4) (fun σ_15 => kp_bd (kf_X10_figures σ_15) (fun r_6 σ_16 => kp_lt (r_6 : Int) (fun x4_0 => kp_bd (kf_X10_emits ((x2_0 + (8 * x3_0)) + (32 * x4_0)) σ_16) (fun r_7 σ_17 => some (0, σ_17))))))) (fun j169 => kp_jn (fun (_ : Unit) => j169 1) (fun j164 => kp_eq (σ_14 0 7) 0 (kp_eq x3_0 (-1) (j164 ()) (j169 0)) (j164 ()))))) (fun j150 => kp_eq (σ_13 0 7) 0 (kp_bd (kf_X10_among 1 σ_13) (fun r_8 σ_18 => j150 r_8 σ_18)) (j150 0 σ_13))))) (fun j130 => kp_eq x2_0 (-1) (j130 1) (j130 0)))))))))) (some (0, σ_0))
set_option maxRecDepth 100000 in
set_option maxHeartbeats 4000000 in
theorem kc_X10_factor {l : Launch} {X : kp_X} {D : Nat} {fac : kp_W → kp_R} {som : kp_W → kp_R} {σ_0 σ' : kp_W} {r : Int}  (hD : 6 ≤ D) {D0 : Nat} (eD0 : D0 + 1 ≤ D) (hfac : ∀ (σ σ' : kp_W) (r : Int), fac σ = some (r, σ') → kp_Met l yX10_factor cX10_factor 5 none D0 X kp_lM 10 σ [.ref (kp_ad X 0)] (kp_Qv X kp_lM 10 σ')) {D1 : Nat} (eD1 : D1 + 1 ≤ D) (hsom : ∀ (σ σ' : kp_W) (r : Int), som σ = some (r, σ') → kp_Met l yX10_some cX10_some 1 none D1 X kp_lM 10 σ [.ref (kp_ad X 0)] (kp_Qv X kp_lM 10 σ')) (hF : (kf_X10_factor fac som σ_0) = some (r, σ')) : kp_Met l yX10_factor cX10_factor 5 none D X kp_lM 10 σ_0 [.ref (kp_ad X 0)] (kp_Qv X kp_lM 10 σ') := by
  refine kp_body pnX10 (Nat.le_of_ble_eq_true rfl) ?_
  intro p e s m args below meth c ls C hr hlk G h hl
  unfold kf_X10_factor at hF
  have hl : lv_has ls 5 [(0, .ref (kp_ad X 0))] := hl
  refine kp_aload_n C dX10_factor_0 rfl (lv_at hl 0 rfl) ?_
  refine kp_geti C G h kp_lM0 rfl inWX10 (j := 7) (by decide) q4_64 rfl dX10_factor_1 ?_
  refine kp_if_eq (tgt := 8) C dX10_factor_4 (by decide) hF (fun hF => ?_) (fun hF => ?_)
  · refine kp_aload_n C dX10_factor_8 rfl (lv_at hl 0 rfl) ?_
    obtain ⟨r_0, σ_1, hc, hF⟩ := kp_bd_s hF
    refine kp_ci h (kp_rV (k := 0) (As := []) (rest := []) C G h (kc_X10_here  hc) q4_157 q4_159 q0_3_3 q1_11 q4_160 ⟨rfl, hd_X10_here⟩ ⟨by omega, by decide⟩ kp_lM0 rfl rfl hl.1 rfl (Nat.le_of_ble_eq_true rfl) dX10_factor_9) (fun H locs h => ?_)
    refine kp_istore_n (lv' := fun x1_0 => [(1, kp_iv x1_0), (0, .ref (kp_ad X 0))]) C dX10_factor_12 rfl hl (by decide) (fun _ => rfl) hF (fun x1_0 ls hl hF => ?_)
    refine kp_iload_n C dX10_factor_13 rfl (lv_at hl 0 rfl) ?_
    refine kp_bipush C dX10_factor_14 rfl ?_
    obtain ⟨j25, ej25, hF⟩ := kp_jn_s hF
    have J25 : ∀ (σ_2 : kp_W), ∀ (H : Heap) (locs : List Loc) (ls : Array Slot), kp_H X kp_lM 10 s σ_2 H locs → lv_has ls 5 [(0, .ref (kp_ad X 0)), (1, kp_iv x1_0)] → j25 σ_2 = some (r, σ') → W p l e (kp_rm D) s m args below meth c H locs 0 0 (MQ below (kp_Qv X kp_lM 10 σ') args s 0 0 (kp_A X 10)) (F0 m 25 ls []) := by
      intro σ_2 H locs ls h hl hF
      rw [ej25] at hF
      refine kp_aload_n C dX10_factor_25 rfl (lv_at hl 0 rfl) ?_
      refine kp_aload_n C dX10_factor_26 rfl (lv_at hl 0 rfl) ?_
      refine kp_geti C G h kp_lM0 rfl inWX10 (j := 8) (by decide) q4_65 rfl dX10_factor_27 ?_
      refine kp_iconst C dX10_factor_30 ?_
      obtain ⟨j39, ej39, hF⟩ := kp_jn_s hF
      have J39 : ∀ (v_0 : Int), ∀ (H : Heap) (locs : List Loc) (ls : Array Slot), kp_H X kp_lM 10 s σ_2 H locs → lv_has ls 5 [(0, .ref (kp_ad X 0)), (1, kp_iv x1_0)] → j39 v_0 = some (r, σ') → W p l e (kp_rm D) s m args below meth c H locs 0 0 (MQ below (kp_Qv X kp_lM 10 σ') args s 0 0 (kp_A X 10)) (F0 m 39 ls [kp_iv v_0, .ref (kp_ad X 0)]) := by
        intro v_0 H locs ls h hl hF
        rw [ej39] at hF
        refine kp_putz C G h kp_lM0 rfl inWX10 tyX10 tyX10_ok nmX10 (j := 7) (by decide) q4_64 rfl rfl (by decide +kernel) dX10_factor_39 hF (fun σ_3 H locs h hF => ?_)
        refine kp_aload_n C dX10_factor_42 rfl (lv_at hl 0 rfl) ?_
        refine kp_dup C dX10_factor_43 rfl ?_
        refine kp_geti C G h kp_lM0 rfl inWX10 (j := 8) (by decide) q4_65 rfl dX10_factor_44 ?_
        refine kp_iconst C dX10_factor_47 ?_
        refine kp_iadd C dX10_factor_48 ?_
        refine kp_puti C G h kp_lM0 rfl inWX10 tyX10 tyX10_ok nmX10 (j := 8) (by decide) q4_65 rfl rfl (by decide +kernel) dX10_factor_49 hF (fun σ_4 H locs h hF => ?_)
        refine kp_aload_n C dX10_factor_52 rfl (lv_at hl 0 rfl) ?_
        refine kp_dup C dX10_factor_53 rfl ?_
        refine kp_geti C G h kp_lM0 rfl inWX10 (j := 5) (by decide) q4_62 rfl dX10_factor_54 ?_
        refine kp_aload_n C dX10_factor_57 rfl (lv_at hl 0 rfl) ?_
        refine kp_geti C G h kp_lM0 rfl inWX10 (j := 7) (by decide) q4_64 rfl dX10_factor_58 ?_
        obtain ⟨j69, ej69, hF⟩ := kp_jn_s hF
        have J69 : ∀ (v_1 : Int), ∀ (H : Heap) (locs : List Loc) (ls : Array Slot), kp_H X kp_lM 10 s σ_4 H locs → lv_has ls 5 [(0, .ref (kp_ad X 0)), (1, kp_iv x1_0)] → j69 v_1 = some (r, σ') → W p l e (kp_rm D) s m args below meth c H locs 0 0 (MQ below (kp_Qv X kp_lM 10 σ') args s 0 0 (kp_A X 10)) (F0 m 69 ls [kp_iv v_1, kp_iv (σ_4 0 5), .ref (kp_ad X 0)]) := by
          intro v_1 H locs ls h hl hF
          rw [ej69] at hF
          refine kp_iadd C dX10_factor_69 ?_
          refine kp_puti C G h kp_lM0 rfl inWX10 tyX10 tyX10_ok nmX10 (j := 5) (by decide) q4_62 rfl rfl (by decide +kernel) dX10_factor_70 hF (fun σ_5 H locs h hF => ?_)
          refine kp_iload_n C dX10_factor_73 rfl (lv_at hl 1 rfl) ?_
          refine kp_bipush C dX10_factor_74 rfl ?_
          obtain ⟨j101, ej101, hF⟩ := kp_jn_s hF
          have J101 : ∀ (σ_6 : kp_W), ∀ (H : Heap) (locs : List Loc) (ls : Array Slot), kp_H X kp_lM 10 s σ_6 H locs → lv_has ls 5 [(0, .ref (kp_ad X 0))] → j101 σ_6 = some (r, σ') → W p l e (kp_rm D) s m args below meth c H locs 0 0 (MQ below (kp_Qv X kp_lM 10 σ') args s 0 0 (kp_A X 10)) (F0 m 101 ls []) := by
            intro σ_6 H locs ls h hl hF
            rw [ej101] at hF
            refine kp_aload_n C dX10_factor_101 rfl (lv_at hl 0 rfl) ?_
            refine kp_dup C dX10_factor_102 rfl ?_
            refine kp_geti C G h kp_lM0 rfl inWX10 (j := 8) (by decide) q4_65 rfl dX10_factor_103 ?_
            refine kp_iconst C dX10_factor_106 ?_
            refine kp_isub C dX10_factor_107 ?_
            refine kp_puti C G h kp_lM0 rfl inWX10 tyX10 tyX10_ok nmX10 (j := 8) (by decide) q4_65 rfl rfl (by decide +kernel) dX10_factor_108 hF (fun σ_7 H locs h hF => ?_)
            exact kp_retv (v := 0) C hr hlk G h dX10_factor_111 hF
          clear ej101
          refine kp_icmp_ne (tgt := 91) C dX10_factor_76 (by decide) hF (fun hF => ?_) (fun hF => ?_)
          · refine kp_aload_n C dX10_factor_91 rfl (lv_at hl 0 rfl) ?_
            obtain ⟨r_1, σ_8, hc, hF⟩ := kp_bd_s hF
            refine kp_cv h (kp_rV (k := 0) (As := []) (rest := []) C G h (hsom _ _ _ hc) q4_180 q4_182 q0_3_8 q1_11 q4_183 ⟨rfl, hd_X10_some⟩ ⟨by omega, by decide⟩ kp_lM0 rfl rfl hl.1 rfl (Nat.le_of_ble_eq_true rfl) dX10_factor_92) (fun H locs h => ?_)
            refine kp_aload_n C dX10_factor_95 rfl (lv_at hl 0 rfl) ?_
            refine kp_bipush C dX10_factor_96 rfl ?_
            obtain ⟨r_2, σ_9, hc, hF⟩ := kp_bd_s hF
            refine kp_cv h (kp_rV (k := 0) (As := [kp_iv 41]) (rest := []) C G h (kc_X10_must  hc) q4_172 q4_174 q0_3_6 q1_11 q4_175 ⟨rfl, hd_X10_must⟩ ⟨by omega, by decide⟩ kp_lM0 rfl rfl hl.1 rfl (Nat.le_of_ble_eq_true rfl) dX10_factor_98) (fun H locs h => ?_)
            exact J101 _ _ _ _ h (lv_sub hl [0] rfl) hF
          · refine kp_aload_n C dX10_factor_79 rfl (lv_at hl 0 rfl) ?_
            obtain ⟨r_3, σ_10, hc, hF⟩ := kp_bd_s hF
            refine kp_cv h (kp_rV (k := 0) (As := []) (rest := []) C G h (hfac _ _ _ hc) q4_188 q4_190 q0_3_10 q1_11 q4_191 ⟨rfl, hd_X10_factor⟩ ⟨by omega, by decide⟩ kp_lM0 rfl rfl hl.1 rfl (Nat.le_of_ble_eq_true rfl) dX10_factor_80) (fun H locs h => ?_)
            refine kp_aload_n C dX10_factor_83 rfl (lv_at hl 0 rfl) ?_
            refine kp_iconst C dX10_factor_84 ?_
            obtain ⟨r_4, σ_11, hc, hF⟩ := kp_bd_s hF
            refine kp_cv h (kp_rV (k := 0) (As := [kp_iv (-1)]) (rest := []) C G h (kc_X10_emits  hc) q4_192 q4_194 q0_3_11 q1_11 q4_195 ⟨rfl, hd_X10_emits⟩ ⟨by omega, by decide⟩ kp_lM0 rfl rfl hl.1 rfl (Nat.le_of_ble_eq_true rfl) dX10_factor_85) (fun H locs h => ?_)
            refine kp_goto (tgt := 101) C dX10_factor_88 (by decide) ?_
            exact J101 _ _ _ _ h (lv_sub hl [0] rfl) hF
        clear ej69
        refine kp_if_eq (tgt := 68) C dX10_factor_61 (by decide) hF (fun hF => ?_) (fun hF => ?_)
        · refine kp_iconst C dX10_factor_68 ?_
          exact J69 _ _ _ _ h (lv_sub hl [0, 1] rfl) hF
        · refine kp_iconst C dX10_factor_64 ?_
          refine kp_goto (tgt := 69) C dX10_factor_65 (by decide) ?_
          exact J69 _ _ _ _ h (lv_sub hl [0, 1] rfl) hF
      clear ej39
      refine kp_icmp_ne (tgt := 38) C dX10_factor_31 (by decide) hF (fun hF => ?_) (fun hF => ?_)
      · refine kp_iconst C dX10_factor_38 ?_
        exact J39 _ _ _ _ h (lv_sub hl [0, 1] rfl) hF
      · refine kp_iconst C dX10_factor_34 ?_
        refine kp_goto (tgt := 39) C dX10_factor_35 (by decide) ?_
        exact J39 _ _ _ _ h (lv_sub hl [0, 1] rfl) hF
    clear ej25
    refine kp_icmp_eq (tgt := 25) C dX10_factor_16 (by decide) hF (fun hF => ?_) (fun hF => ?_)
    · exact J25 _ _ _ _ h (lv_sub hl [1, 0] rfl) hF
    · refine kp_iload_n C dX10_factor_19 rfl (lv_at hl 0 rfl) ?_
      refine kp_bipush C dX10_factor_20 rfl ?_
      refine kp_icmp_ne (tgt := 112) C dX10_factor_22 (by decide) hF (fun hF => ?_) (fun hF => ?_)
      · refine kp_aload_n C dX10_factor_112 rfl (lv_at hl 1 rfl) ?_
        refine kp_ldcS (tx := "npkvt") (i := 0) C G (by decide +kernel) dX10_factor_113 ?_
        obtain ⟨r_5, σ_12, hc, hF⟩ := kp_bd_s hF
        refine kp_ci h (kp_rV (k := 0) (As := [.ref (kp_sK X 0)]) (rest := []) C G h (kc_X10_among (by decide) hc) q4_197 q4_199 q0_3_12 q1_11 q4_200 ⟨rfl, hd_X10_among⟩ ⟨by omega, by decide⟩ kp_lM0 rfl rfl hl.1 rfl (Nat.le_of_ble_eq_true rfl) dX10_factor_115) (fun H locs h => ?_)
        refine kp_istore_n (lv' := fun x2_0 => [(2, kp_iv x2_0), (1, kp_iv x1_0), (0, .ref (kp_ad X 0))]) C dX10_factor_118 rfl hl (by decide) (fun _ => rfl) hF (fun x2_0 ls hl hF => ?_)
        refine kp_aload_n C dX10_factor_119 rfl (lv_at hl 2 rfl) ?_
        refine kp_iload_n C dX10_factor_120 rfl (lv_at hl 0 rfl) ?_
        refine kp_iconst C dX10_factor_121 ?_
        obtain ⟨j130, ej130, hF⟩ := kp_jn_s hF
        have J130 : ∀ (v_2 : Int), ∀ (H : Heap) (locs : List Loc) (ls : Array Slot), kp_H X kp_lM 10 s σ_12 H locs → lv_has ls 5 [(0, .ref (kp_ad X 0)), (2, kp_iv x2_0)] → j130 v_2 = some (r, σ') → W p l e (kp_rm D) s m args below meth c H locs 0 0 (MQ below (kp_Qv X kp_lM 10 σ') args s 0 0 (kp_A X 10)) (F0 m 130 ls [kp_iv v_2, .ref (kp_ad X 0)]) := by
          intro v_2 H locs ls h hl hF
          rw [ej130] at hF
          refine kp_putz C G h kp_lM0 rfl inWX10 tyX10 tyX10_ok nmX10 (j := 7) (by decide) q4_64 rfl rfl (by decide +kernel) dX10_factor_130 hF (fun σ_13 H locs h hF => ?_)
          refine kp_aload_n C dX10_factor_133 rfl (lv_at hl 0 rfl) ?_
          refine kp_geti C G h kp_lM0 rfl inWX10 (j := 7) (by decide) q4_64 rfl dX10_factor_134 ?_
          obtain ⟨j150, ej150, hF⟩ := kp_jn_s hF
          have J150 : ∀ (v_3 : Int), ∀ (σ_14 : kp_W), ∀ (H : Heap) (locs : List Loc) (ls : Array Slot), kp_H X kp_lM 10 s σ_14 H locs → lv_has ls 5 [(0, .ref (kp_ad X 0)), (2, kp_iv x2_0)] → j150 v_3 σ_14 = some (r, σ') → W p l e (kp_rm D) s m args below meth c H locs 0 0 (MQ below (kp_Qv X kp_lM 10 σ') args s 0 0 (kp_A X 10)) (F0 m 150 ls [kp_iv v_3]) := by
            intro v_3 σ_14 H locs ls h hl hF
            rw [ej150] at hF
            refine kp_istore_n (lv' := fun x3_0 => [(3, kp_iv x3_0), (0, .ref (kp_ad X 0)), (2, kp_iv x2_0)]) C dX10_factor_150 rfl hl (by decide) (fun _ => rfl) hF (fun x3_0 ls hl hF => ?_)
            refine kp_aload_n C dX10_factor_151 rfl (lv_at hl 1 rfl) ?_
            refine kp_aload_n C dX10_factor_152 rfl (lv_at hl 1 rfl) ?_
            refine kp_geti C G h kp_lM0 rfl inWX10 (j := 7) (by decide) q4_64 rfl dX10_factor_153 ?_
            obtain ⟨j169, ej169, hF⟩ := kp_jn_s hF
            have J169 : ∀ (v_4 : Int), ∀ (H : Heap) (locs : List Loc) (ls : Array Slot), kp_H X kp_lM 10 s σ_14 H locs → lv_has ls 5 [(0, .ref (kp_ad X 0)), (2, kp_iv x2_0), (3, kp_iv x3_0)] → j169 v_4 = some (r, σ') → W p l e (kp_rm D) s m args below meth c H locs 0 0 (MQ below (kp_Qv X kp_lM 10 σ') args s 0 0 (kp_A X 10)) (F0 m 169 ls [kp_iv v_4, .ref (kp_ad X 0)]) := by
              intro v_4 H locs ls h hl hF
              rw [ej169] at hF
              refine kp_putz C G h kp_lM0 rfl inWX10 tyX10 tyX10_ok nmX10 (j := 7) (by decide) q4_64 rfl rfl (by decide +kernel) dX10_factor_169 hF (fun σ_15 H locs h hF => ?_)
              refine kp_aload_n C dX10_factor_172 rfl (lv_at hl 0 rfl) ?_
              obtain ⟨r_6, σ_16, hc, hF⟩ := kp_bd_s hF
              refine kp_ci h (kp_rV (k := 0) (As := []) (rest := []) C G h (kc_X10_figures  hc) q4_176 q4_178 q0_3_7 q1_11 q4_179 ⟨rfl, hd_X10_figures⟩ ⟨by omega, by decide⟩ kp_lM0 rfl rfl hl.1 rfl (Nat.le_of_ble_eq_true rfl) dX10_factor_173) (fun H locs h => ?_)
              refine kp_istore (lv' := fun x4_0 => [(4, kp_iv x4_0), (0, .ref (kp_ad X 0)), (2, kp_iv x2_0), (3, kp_iv x3_0)]) C dX10_factor_176 hl (by decide) (fun _ => rfl) hF (fun x4_0 ls hl hF => ?_)
              refine kp_aload_n C dX10_factor_178 rfl (lv_at hl 1 rfl) ?_
              refine kp_iload_n C dX10_factor_179 rfl (lv_at hl 2 rfl) ?_
              refine kp_bipush C dX10_factor_180 rfl ?_
              refine kp_iload_n C dX10_factor_182 rfl (lv_at hl 3 rfl) ?_
              refine kp_imul C dX10_factor_183 ?_
              refine kp_iadd C dX10_factor_184 ?_
              refine kp_bipush C dX10_factor_185 rfl ?_
              refine kp_iload C dX10_factor_187 (lv_at hl 0 rfl) ?_
              refine kp_imul C dX10_factor_189 ?_
              refine kp_iadd C dX10_factor_190 ?_
              obtain ⟨r_7, σ_17, hc, hF⟩ := kp_bd_s hF
              refine kp_cv h (kp_rV (k := 0) (As := [kp_iv ((x2_0 + (8 * x3_0)) + (32 * x4_0))]) (rest := []) C G h (kc_X10_emits  hc) q4_192 q4_194 q0_3_11 q1_11 q4_195 ⟨rfl, hd_X10_emits⟩ ⟨by omega, by decide⟩ kp_lM0 rfl rfl hl.1 rfl (Nat.le_of_ble_eq_true rfl) dX10_factor_191) (fun H locs h => ?_)
              exact kp_retv (v := 0) C hr hlk G h dX10_factor_194 hF
            clear ej169
            obtain ⟨j164, ej164, hF⟩ := kp_jn_s hF
            have J164 : ∀ _ : Unit, ∀ (H : Heap) (locs : List Loc) (ls : Array Slot), kp_H X kp_lM 10 s σ_14 H locs → lv_has ls 5 [(0, .ref (kp_ad X 0)), (2, kp_iv x2_0), (3, kp_iv x3_0)] → j164 () = some (r, σ') → W p l e (kp_rm D) s m args below meth c H locs 0 0 (MQ below (kp_Qv X kp_lM 10 σ') args s 0 0 (kp_A X 10)) (F0 m 164 ls [.ref (kp_ad X 0)]) := by
              intro _ H locs ls h hl hF
              rw [ej164] at hF
              refine kp_iconst C dX10_factor_164 ?_
              refine kp_goto (tgt := 169) C dX10_factor_165 (by decide) ?_
              exact J169 _ _ _ _ h (lv_sub hl [0, 1, 2] rfl) hF
            clear ej164
            refine kp_if_ne (tgt := 164) C dX10_factor_156 (by decide) hF (fun hF => ?_) (fun hF => ?_)
            · exact J164 () _ _ _ h (lv_sub hl [1, 2, 0] rfl) hF
            · refine kp_iload_n C dX10_factor_159 rfl (lv_at hl 0 rfl) ?_
              refine kp_iconst C dX10_factor_160 ?_
              refine kp_icmp_ne (tgt := 168) C dX10_factor_161 (by decide) hF (fun hF => ?_) (fun hF => ?_)
              · refine kp_iconst C dX10_factor_168 ?_
                exact J169 _ _ _ _ h (lv_sub hl [1, 2, 0] rfl) hF
              · exact J164 () _ _ _ h (lv_sub hl [1, 2, 0] rfl) hF
          clear ej150
          refine kp_if_eq (tgt := 144) C dX10_factor_137 (by decide) hF (fun hF => ?_) (fun hF => ?_)
          · refine kp_aload_n C dX10_factor_144 rfl (lv_at hl 0 rfl) ?_
            refine kp_ldcS (tx := "<=>") (i := 1) C G (by decide +kernel) dX10_factor_145 ?_
            obtain ⟨r_8, σ_18, hc, hF⟩ := kp_bd_s hF
            refine kp_ci h (kp_rV (k := 0) (As := [.ref (kp_sK X 1)]) (rest := []) C G h (kc_X10_among (by decide) hc) q4_197 q4_199 q0_3_12 q1_11 q4_200 ⟨rfl, hd_X10_among⟩ ⟨by omega, by decide⟩ kp_lM0 rfl rfl hl.1 rfl (Nat.le_of_ble_eq_true rfl) dX10_factor_147) (fun H locs h => ?_)
            exact J150 _ _ _ _ _ h (lv_sub hl [0, 1] rfl) hF
          · refine kp_iconst C dX10_factor_140 ?_
            refine kp_goto (tgt := 150) C dX10_factor_141 (by decide) ?_
            exact J150 _ _ _ _ _ h (lv_sub hl [0, 1] rfl) hF
        clear ej130
        refine kp_icmp_ne (tgt := 129) C dX10_factor_122 (by decide) hF (fun hF => ?_) (fun hF => ?_)
        · refine kp_iconst C dX10_factor_129 ?_
          exact J130 _ _ _ _ h (lv_sub hl [2, 0] rfl) hF
        · refine kp_iconst C dX10_factor_125 ?_
          refine kp_goto (tgt := 130) C dX10_factor_126 (by decide) ?_
          exact J130 _ _ _ _ h (lv_sub hl [2, 0] rfl) hF
      · exact J25 _ _ _ _ h (lv_sub hl [1, 0] rfl) hF
  · exact kp_retv (v := 0) C hr hlk G h dX10_factor_7 hF
def kl_X10_every_4 (fac : kp_W → kp_R) : Nat → kp_W → (kp_W → kp_R) → kp_R
  | 0, _, _ => none
  | n + 1, σ_2, k => kp_eq (σ_2 0 7) 0 (kp_bd (kf_X10_here σ_2) (fun r_1 σ_4 => kp_eq r_1 38 (kp_lt (kp_up σ_4 0 5 ((σ_4 0 5) + 1)) (fun σ_5 => kp_bd (fac σ_5) (fun r_2 σ_6 => kp_bd (kf_X10_emits (-2) σ_6) (fun r_3 σ_7 => kl_X10_every_4 fac n σ_7 k)))) (k σ_4))) (k σ_2)
def kf_X10_every (fac : kp_W → kp_R)  (σ_0 : kp_W) : kp_R :=
  kp_bd (fac σ_0) (fun r_0 σ_1 => kl_X10_every_4 fac kp_fu σ_1 (fun (σ_3 : kp_W) => some (0, σ_3)))
set_option maxRecDepth 100000 in
set_option maxHeartbeats 4000000 in
theorem kc_X10_every {l : Launch} {X : kp_X} {D : Nat} {fac : kp_W → kp_R} {σ_0 σ' : kp_W} {r : Int}  (hD : 6 ≤ D) {D0 : Nat} (eD0 : D0 + 1 ≤ D) (hfac : ∀ (σ σ' : kp_W) (r : Int), fac σ = some (r, σ') → kp_Met l yX10_factor cX10_factor 5 none D0 X kp_lM 10 σ [.ref (kp_ad X 0)] (kp_Qv X kp_lM 10 σ')) (hF : (kf_X10_every fac σ_0) = some (r, σ')) : kp_Met l yX10_every cX10_every 1 none D X kp_lM 10 σ_0 [.ref (kp_ad X 0)] (kp_Qv X kp_lM 10 σ') := by
  refine kp_body pnX10 (Nat.le_of_ble_eq_true rfl) ?_
  intro p e s m args below meth c ls C hr hlk G h hl
  unfold kf_X10_every at hF
  have hl : lv_has ls 1 [(0, .ref (kp_ad X 0))] := hl
  refine kp_aload_n C dX10_every_0 rfl (lv_at hl 0 rfl) ?_
  obtain ⟨r_0, σ_1, hc, hF⟩ := kp_bd_s hF
  refine kp_cv h (kp_rV (k := 0) (As := []) (rest := []) C G h (hfac _ _ _ hc) q4_188 q4_190 q0_3_10 q1_11 q4_191 ⟨rfl, hd_X10_factor⟩ ⟨by omega, by decide⟩ kp_lM0 rfl rfl hl.1 rfl (Nat.le_of_ble_eq_true rfl) dX10_every_1) (fun H locs h => ?_)
  have L4 : ∀ (n : Nat) (σ_2 : kp_W) (k : kp_W → kp_R) (H : Heap) (locs : List Loc) (ls : Array Slot), kp_H X kp_lM 10 s σ_2 H locs → lv_has ls 1 [(0, .ref (kp_ad X 0))] → (∀ (σ_3 : kp_W) (H : Heap) (locs : List Loc) (ls : Array Slot), kp_H X kp_lM 10 s σ_3 H locs → lv_has ls 1 [] → k σ_3 = some (r, σ') → W p l e (kp_rm D) s m args below meth c H locs 0 0 (MQ below (kp_Qv X kp_lM 10 σ') args s 0 0 (kp_A X 10)) (F0 m 43 ls [])) → kl_X10_every_4 fac n σ_2 k = some (r, σ') → W p l e (kp_rm D) s m args below meth c H locs 0 0 (MQ below (kp_Qv X kp_lM 10 σ') args s 0 0 (kp_A X 10)) (F0 m 4 ls []) := by
    intro n
    induction n with
    | zero =>
      intro σ_2 k H locs ls h hl K hF
      rw [kl_X10_every_4] at hF
      cases hF
    | succ n ih =>
      intro σ_2 k H locs ls h hl K hF
      rw [kl_X10_every_4] at hF
      refine kp_aload_n C dX10_every_4 rfl (lv_at hl 0 rfl) ?_
      refine kp_geti C G h kp_lM0 rfl inWX10 (j := 7) (by decide) q4_64 rfl dX10_every_5 ?_
      refine kp_if_ne (tgt := 43) C dX10_every_8 (by decide) hF (fun hF => ?_) (fun hF => ?_)
      · exact K _ _ _ _ h (lv_sub hl [] rfl) hF
      · refine kp_aload_n C dX10_every_11 rfl (lv_at hl 0 rfl) ?_
        obtain ⟨r_1, σ_4, hc, hF⟩ := kp_bd_s hF
        refine kp_ci h (kp_rV (k := 0) (As := []) (rest := []) C G h (kc_X10_here  hc) q4_157 q4_159 q0_3_3 q1_11 q4_160 ⟨rfl, hd_X10_here⟩ ⟨by omega, by decide⟩ kp_lM0 rfl rfl hl.1 rfl (Nat.le_of_ble_eq_true rfl) dX10_every_12) (fun H locs h => ?_)
        refine kp_bipush C dX10_every_15 rfl ?_
        refine kp_icmp_ne (tgt := 43) C dX10_every_17 (by decide) hF (fun hF => ?_) (fun hF => ?_)
        · exact K _ _ _ _ h (lv_sub hl [] rfl) hF
        · refine kp_aload_n C dX10_every_20 rfl (lv_at hl 0 rfl) ?_
          refine kp_dup C dX10_every_21 rfl ?_
          refine kp_geti C G h kp_lM0 rfl inWX10 (j := 5) (by decide) q4_62 rfl dX10_every_22 ?_
          refine kp_iconst C dX10_every_25 ?_
          refine kp_iadd C dX10_every_26 ?_
          refine kp_puti C G h kp_lM0 rfl inWX10 tyX10 tyX10_ok nmX10 (j := 5) (by decide) q4_62 rfl rfl (by decide +kernel) dX10_every_27 hF (fun σ_5 H locs h hF => ?_)
          refine kp_aload_n C dX10_every_30 rfl (lv_at hl 0 rfl) ?_
          obtain ⟨r_2, σ_6, hc, hF⟩ := kp_bd_s hF
          refine kp_cv h (kp_rV (k := 0) (As := []) (rest := []) C G h (hfac _ _ _ hc) q4_188 q4_190 q0_3_10 q1_11 q4_191 ⟨rfl, hd_X10_factor⟩ ⟨by omega, by decide⟩ kp_lM0 rfl rfl hl.1 rfl (Nat.le_of_ble_eq_true rfl) dX10_every_31) (fun H locs h => ?_)
          refine kp_aload_n C dX10_every_34 rfl (lv_at hl 0 rfl) ?_
          refine kp_bipush C dX10_every_35 rfl ?_
          obtain ⟨r_3, σ_7, hc, hF⟩ := kp_bd_s hF
          refine kp_cv h (kp_rV (k := 0) (As := [kp_iv (-2)]) (rest := []) C G h (kc_X10_emits  hc) q4_192 q4_194 q0_3_11 q1_11 q4_195 ⟨rfl, hd_X10_emits⟩ ⟨by omega, by decide⟩ kp_lM0 rfl rfl hl.1 rfl (Nat.le_of_ble_eq_true rfl) dX10_every_37) (fun H locs h => ?_)
          refine kp_goto (tgt := 4) C dX10_every_40 (by decide) ?_
          exact ih _ k _ _ _ h (lv_sub hl [0] rfl) K hF
  refine L4 kp_fu _ _ _ _ _ h (lv_sub hl [0] rfl) (fun σ_3 H locs ls h hl hF => ?_) hF
  clear L4
  exact kp_retv (v := 0) C hr hlk G h dX10_every_43 hF
def kl_X10_some_4 (eve : kp_W → kp_R) : Nat → kp_W → (kp_W → kp_R) → kp_R
  | 0, _, _ => none
  | n + 1, σ_2, k => kp_eq (σ_2 0 7) 0 (kp_bd (kf_X10_here σ_2) (fun r_1 σ_4 => kp_eq r_1 124 (kp_lt (kp_up σ_4 0 5 ((σ_4 0 5) + 1)) (fun σ_5 => kp_bd (eve σ_5) (fun r_2 σ_6 => kp_bd (kf_X10_emits (-3) σ_6) (fun r_3 σ_7 => kl_X10_some_4 eve n σ_7 k)))) (k σ_4))) (k σ_2)
def kf_X10_some (eve : kp_W → kp_R)  (σ_0 : kp_W) : kp_R :=
  kp_bd (eve σ_0) (fun r_0 σ_1 => kl_X10_some_4 eve kp_fu σ_1 (fun (σ_3 : kp_W) => some (0, σ_3)))
set_option maxRecDepth 100000 in
set_option maxHeartbeats 4000000 in
theorem kc_X10_some {l : Launch} {X : kp_X} {D : Nat} {eve : kp_W → kp_R} {σ_0 σ' : kp_W} {r : Int}  (hD : 6 ≤ D) {D0 : Nat} (eD0 : D0 + 1 ≤ D) (heve : ∀ (σ σ' : kp_W) (r : Int), eve σ = some (r, σ') → kp_Met l yX10_every cX10_every 1 none D0 X kp_lM 10 σ [.ref (kp_ad X 0)] (kp_Qv X kp_lM 10 σ')) (hF : (kf_X10_some eve σ_0) = some (r, σ')) : kp_Met l yX10_some cX10_some 1 none D X kp_lM 10 σ_0 [.ref (kp_ad X 0)] (kp_Qv X kp_lM 10 σ') := by
  refine kp_body pnX10 (Nat.le_of_ble_eq_true rfl) ?_
  intro p e s m args below meth c ls C hr hlk G h hl
  unfold kf_X10_some at hF
  have hl : lv_has ls 1 [(0, .ref (kp_ad X 0))] := hl
  refine kp_aload_n C dX10_some_0 rfl (lv_at hl 0 rfl) ?_
  obtain ⟨r_0, σ_1, hc, hF⟩ := kp_bd_s hF
  refine kp_cv h (kp_rV (k := 0) (As := []) (rest := []) C G h (heve _ _ _ hc) q4_184 q4_186 q0_3_9 q1_11 q4_187 ⟨rfl, hd_X10_every⟩ ⟨by omega, by decide⟩ kp_lM0 rfl rfl hl.1 rfl (Nat.le_of_ble_eq_true rfl) dX10_some_1) (fun H locs h => ?_)
  have L4 : ∀ (n : Nat) (σ_2 : kp_W) (k : kp_W → kp_R) (H : Heap) (locs : List Loc) (ls : Array Slot), kp_H X kp_lM 10 s σ_2 H locs → lv_has ls 1 [(0, .ref (kp_ad X 0))] → (∀ (σ_3 : kp_W) (H : Heap) (locs : List Loc) (ls : Array Slot), kp_H X kp_lM 10 s σ_3 H locs → lv_has ls 1 [] → k σ_3 = some (r, σ') → W p l e (kp_rm D) s m args below meth c H locs 0 0 (MQ below (kp_Qv X kp_lM 10 σ') args s 0 0 (kp_A X 10)) (F0 m 43 ls [])) → kl_X10_some_4 eve n σ_2 k = some (r, σ') → W p l e (kp_rm D) s m args below meth c H locs 0 0 (MQ below (kp_Qv X kp_lM 10 σ') args s 0 0 (kp_A X 10)) (F0 m 4 ls []) := by
    intro n
    induction n with
    | zero =>
      intro σ_2 k H locs ls h hl K hF
      rw [kl_X10_some_4] at hF
      cases hF
    | succ n ih =>
      intro σ_2 k H locs ls h hl K hF
      rw [kl_X10_some_4] at hF
      refine kp_aload_n C dX10_some_4 rfl (lv_at hl 0 rfl) ?_
      refine kp_geti C G h kp_lM0 rfl inWX10 (j := 7) (by decide) q4_64 rfl dX10_some_5 ?_
      refine kp_if_ne (tgt := 43) C dX10_some_8 (by decide) hF (fun hF => ?_) (fun hF => ?_)
      · exact K _ _ _ _ h (lv_sub hl [] rfl) hF
      · refine kp_aload_n C dX10_some_11 rfl (lv_at hl 0 rfl) ?_
        obtain ⟨r_1, σ_4, hc, hF⟩ := kp_bd_s hF
        refine kp_ci h (kp_rV (k := 0) (As := []) (rest := []) C G h (kc_X10_here  hc) q4_157 q4_159 q0_3_3 q1_11 q4_160 ⟨rfl, hd_X10_here⟩ ⟨by omega, by decide⟩ kp_lM0 rfl rfl hl.1 rfl (Nat.le_of_ble_eq_true rfl) dX10_some_12) (fun H locs h => ?_)
        refine kp_bipush C dX10_some_15 rfl ?_
        refine kp_icmp_ne (tgt := 43) C dX10_some_17 (by decide) hF (fun hF => ?_) (fun hF => ?_)
        · exact K _ _ _ _ h (lv_sub hl [] rfl) hF
        · refine kp_aload_n C dX10_some_20 rfl (lv_at hl 0 rfl) ?_
          refine kp_dup C dX10_some_21 rfl ?_
          refine kp_geti C G h kp_lM0 rfl inWX10 (j := 5) (by decide) q4_62 rfl dX10_some_22 ?_
          refine kp_iconst C dX10_some_25 ?_
          refine kp_iadd C dX10_some_26 ?_
          refine kp_puti C G h kp_lM0 rfl inWX10 tyX10 tyX10_ok nmX10 (j := 5) (by decide) q4_62 rfl rfl (by decide +kernel) dX10_some_27 hF (fun σ_5 H locs h hF => ?_)
          refine kp_aload_n C dX10_some_30 rfl (lv_at hl 0 rfl) ?_
          obtain ⟨r_2, σ_6, hc, hF⟩ := kp_bd_s hF
          refine kp_cv h (kp_rV (k := 0) (As := []) (rest := []) C G h (heve _ _ _ hc) q4_184 q4_186 q0_3_9 q1_11 q4_187 ⟨rfl, hd_X10_every⟩ ⟨by omega, by decide⟩ kp_lM0 rfl rfl hl.1 rfl (Nat.le_of_ble_eq_true rfl) dX10_some_31) (fun H locs h => ?_)
          refine kp_aload_n C dX10_some_34 rfl (lv_at hl 0 rfl) ?_
          refine kp_bipush C dX10_some_35 rfl ?_
          obtain ⟨r_3, σ_7, hc, hF⟩ := kp_bd_s hF
          refine kp_cv h (kp_rV (k := 0) (As := [kp_iv (-3)]) (rest := []) C G h (kc_X10_emits  hc) q4_192 q4_194 q0_3_11 q1_11 q4_195 ⟨rfl, hd_X10_emits⟩ ⟨by omega, by decide⟩ kp_lM0 rfl rfl hl.1 rfl (Nat.le_of_ble_eq_true rfl) dX10_some_37) (fun H locs h => ?_)
          refine kp_goto (tgt := 4) C dX10_some_40 (by decide) ?_
          exact ih _ k _ _ _ h (lv_sub hl [0] rfl) K hF
  refine L4 kp_fu _ _ _ _ _ h (lv_sub hl [0] rfl) (fun σ_3 H locs ls h hl hF => ?_) hF
  clear L4
  exact kp_retv (v := 0) C hr hlk G h dX10_some_43 hF
def kt_X10_factor : Nat → kp_W → kp_R
  | 0, _ => none
  | n + 1, σ => kf_X10_factor (kt_X10_factor n) (fun σ => kf_X10_some (fun σ => kf_X10_every (kt_X10_factor n) σ) σ) σ
def kt_X10_every (n : Nat) (σ : kp_W) : kp_R := kf_X10_every (kt_X10_factor n) σ
def kt_X10_some (n : Nat) (σ : kp_W) : kp_R := kf_X10_some (kt_X10_every n) σ
theorem kt_X10_factor_c {l : Launch} {X : kp_X} : ∀ (n : Nat) (σ σ' : kp_W) (r : Int), kt_X10_factor n σ = some (r, σ') → kp_Met l yX10_factor cX10_factor 5 none (6 + 4 * n) X kp_lM 10 σ [.ref (kp_ad X 0)] (kp_Qv X kp_lM 10 σ')
  | 0, _, _, _, h => by rw [kt_X10_factor] at h; cases h
  | n + 1, σ, σ', r, h => by
    rw [kt_X10_factor] at h
    exact kc_X10_factor (D := 6 + 4 * (n + 1)) (by omega) (D0 := 6 + 4 * n) (by omega) (kt_X10_factor_c n) (D1 := 6 + 4 * n + 2) (by omega) (fun σ σ' r h => kc_X10_some (D := 6 + 4 * n + 2) (by omega) (D0 := 6 + 4 * n + 1) (by omega) (fun σ σ' r h => kc_X10_every (D := 6 + 4 * n + 1) (by omega) (D0 := 6 + 4 * n) (by omega) (kt_X10_factor_c n) h) h) h
theorem kt_X10_every_c {l : Launch} {X : kp_X} (n : Nat) {σ σ' : kp_W} {r : Int} (h : kt_X10_every n σ = some (r, σ')) : kp_Met l yX10_every cX10_every 1 none (6 + 4 * n + 1) X kp_lM 10 σ [.ref (kp_ad X 0)] (kp_Qv X kp_lM 10 σ') := kc_X10_every (by omega) (by omega) (kt_X10_factor_c n) h
theorem kt_X10_some_c {l : Launch} {X : kp_X} (n : Nat) {σ σ' : kp_W} {r : Int} (h : kt_X10_some n σ = some (r, σ')) : kp_Met l yX10_some cX10_some 1 none (6 + 4 * n + 2) X kp_lM 10 σ [.ref (kp_ad X 0)] (kp_Qv X kp_lM 10 σ') := kc_X10_some (by omega) (by omega) (fun _ _ _ h => kt_X10_every_c n h) h

def kf_X10_much  (a1 : Int) (a2 : Nat) (σ_0 : kp_W) : kp_R :=
  kp_bd (kf_X10_spells a2 σ_0) (fun r_0 σ_1 => kp_bd (kf_X10_figures σ_1) (fun r_1 σ_2 => kp_lt (r_1 : Int) (fun x3_0 => kp_bd (kf_X10_must 32 σ_2) (fun r_2 σ_3 => kp_bd (kt_X10_some 10 σ_3) (fun r_3 σ_4 => kp_bd (kf_X10_emits (a1 - x3_0) σ_4) (fun r_4 σ_5 => some (0, σ_5)))))))
set_option maxRecDepth 100000 in
set_option maxHeartbeats 4000000 in
theorem kc_X10_much {l : Launch} {X : kp_X} {a1 : Int} {a2 : Nat}  {σ_0 σ' : kp_W} {r : Int} (h2 : a2 < 10)  (hF : (kf_X10_much a1 a2 σ_0) = some (r, σ')) : kp_Met l yX10_much cX10_much 4 none 50 X kp_lM 10 σ_0 [.ref (kp_ad X 0), kp_iv a1, .ref (kp_sK X a2)] (kp_Qv X kp_lM 10 σ') := by
  refine kp_body pnX10 (Nat.le_of_ble_eq_true rfl) ?_
  intro p e s m args below meth c ls C hr hlk G h hl
  unfold kf_X10_much at hF
  have hl : lv_has ls 4 [(0, .ref (kp_ad X 0)), (1, kp_iv a1), (2, .ref (kp_sK X a2))] := hl
  refine kp_aload_n C dX10_much_0 rfl (lv_at hl 0 rfl) ?_
  refine kp_aload_n C dX10_much_1 rfl (lv_at hl 2 rfl) ?_
  obtain ⟨r_0, σ_1, hc, hF⟩ := kp_bd_s hF
  refine kp_cv h (kp_rV (k := 0) (As := [.ref (kp_sK X a2)]) (rest := []) C G h (kc_X10_spells h2 hc) q4_166 q4_168 q0_3_5 q1_11 q4_169 ⟨rfl, hd_X10_spells⟩ (by decide) kp_lM0 rfl rfl hl.1 rfl (Nat.le_of_ble_eq_true rfl) dX10_much_2) (fun H locs h => ?_)
  refine kp_aload_n C dX10_much_5 rfl (lv_at hl 0 rfl) ?_
  obtain ⟨r_1, σ_2, hc, hF⟩ := kp_bd_s hF
  refine kp_ci h (kp_rV (k := 0) (As := []) (rest := []) C G h (kc_X10_figures  hc) q4_176 q4_178 q0_3_7 q1_11 q4_179 ⟨rfl, hd_X10_figures⟩ (by decide) kp_lM0 rfl rfl hl.1 rfl (Nat.le_of_ble_eq_true rfl) dX10_much_6) (fun H locs h => ?_)
  refine kp_istore_n (lv' := fun x3_0 => [(3, kp_iv x3_0), (0, .ref (kp_ad X 0)), (1, kp_iv a1), (2, .ref (kp_sK X a2))]) C dX10_much_9 rfl hl (by decide) (fun _ => rfl) hF (fun x3_0 ls hl hF => ?_)
  refine kp_aload_n C dX10_much_10 rfl (lv_at hl 1 rfl) ?_
  refine kp_bipush C dX10_much_11 rfl ?_
  obtain ⟨r_2, σ_3, hc, hF⟩ := kp_bd_s hF
  refine kp_cv h (kp_rV (k := 0) (As := [kp_iv 32]) (rest := []) C G h (kc_X10_must  hc) q4_172 q4_174 q0_3_6 q1_11 q4_175 ⟨rfl, hd_X10_must⟩ (by decide) kp_lM0 rfl rfl hl.1 rfl (Nat.le_of_ble_eq_true rfl) dX10_much_13) (fun H locs h => ?_)
  refine kp_aload_n C dX10_much_16 rfl (lv_at hl 1 rfl) ?_
  obtain ⟨r_3, σ_4, hc, hF⟩ := kp_bd_s hF
  refine kp_cv h (kp_rV (k := 0) (As := []) (rest := []) C G h (kt_X10_some_c 10 hc) q4_180 q4_182 q0_3_8 q1_11 q4_183 ⟨rfl, hd_X10_some⟩ ⟨by decide, by decide⟩ kp_lM0 rfl rfl hl.1 rfl (Nat.le_of_ble_eq_true rfl) dX10_much_17) (fun H locs h => ?_)
  refine kp_aload_n C dX10_much_20 rfl (lv_at hl 1 rfl) ?_
  refine kp_iload_n C dX10_much_21 rfl (lv_at hl 2 rfl) ?_
  refine kp_iload_n C dX10_much_22 rfl (lv_at hl 0 rfl) ?_
  refine kp_isub C dX10_much_23 ?_
  obtain ⟨r_4, σ_5, hc, hF⟩ := kp_bd_s hF
  refine kp_cv h (kp_rV (k := 0) (As := [kp_iv (a1 - x3_0)]) (rest := []) C G h (kc_X10_emits  hc) q4_192 q4_194 q0_3_11 q1_11 q4_195 ⟨rfl, hd_X10_emits⟩ (by decide) kp_lM0 rfl rfl hl.1 rfl (Nat.le_of_ble_eq_true rfl) dX10_much_24) (fun H locs h => ?_)
  exact kp_retv (v := 0) C hr hlk G h dX10_much_27 hF
def kf_X10_tellsHere  (a1 : Int) (a2 : Nat) (σ_0 : kp_W) : kp_R :=
  kp_bd (kf_X10_spells a2 σ_0) (fun r_0 σ_1 => kp_bd (kf_X10_figures σ_1) (fun r_1 σ_2 => kp_lt (r_1 : Int) (fun x3_0 => kp_eq (σ_2 0 7) 0 (kp_ck (0 ≤ (a1 + (σ_2 0 4)) ∧ (a1 + (σ_2 0 4)) < 1066) (kp_lt (kp_up σ_2 1 (Int.toNat (a1 + (σ_2 0 4))) x3_0) (fun σ_3 => some (0, σ_3)))) (some (0, σ_2)))))
set_option maxRecDepth 100000 in
set_option maxHeartbeats 4000000 in
theorem kc_X10_tellsHere {l : Launch} {X : kp_X} {a1 : Int} {a2 : Nat}  {σ_0 σ' : kp_W} {r : Int} (h2 : a2 < 10)  (hF : (kf_X10_tellsHere a1 a2 σ_0) = some (r, σ')) : kp_Met l yX10_tellsHere cX10_tellsHere 4 none 6 X kp_lM 10 σ_0 [.ref (kp_ad X 0), kp_iv a1, .ref (kp_sK X a2)] (kp_Qv X kp_lM 10 σ') := by
  refine kp_body pnX10 (Nat.le_of_ble_eq_true rfl) ?_
  intro p e s m args below meth c ls C hr hlk G h hl
  unfold kf_X10_tellsHere at hF
  have hl : lv_has ls 4 [(0, .ref (kp_ad X 0)), (1, kp_iv a1), (2, .ref (kp_sK X a2))] := hl
  refine kp_aload_n C dX10_tellsHere_0 rfl (lv_at hl 0 rfl) ?_
  refine kp_aload_n C dX10_tellsHere_1 rfl (lv_at hl 2 rfl) ?_
  obtain ⟨r_0, σ_1, hc, hF⟩ := kp_bd_s hF
  refine kp_cv h (kp_rV (k := 0) (As := [.ref (kp_sK X a2)]) (rest := []) C G h (kc_X10_spells h2 hc) q4_166 q4_168 q0_3_5 q1_11 q4_169 ⟨rfl, hd_X10_spells⟩ (by decide) kp_lM0 rfl rfl hl.1 rfl (Nat.le_of_ble_eq_true rfl) dX10_tellsHere_2) (fun H locs h => ?_)
  refine kp_aload_n C dX10_tellsHere_5 rfl (lv_at hl 0 rfl) ?_
  obtain ⟨r_1, σ_2, hc, hF⟩ := kp_bd_s hF
  refine kp_ci h (kp_rV (k := 0) (As := []) (rest := []) C G h (kc_X10_figures  hc) q4_176 q4_178 q0_3_7 q1_11 q4_179 ⟨rfl, hd_X10_figures⟩ (by decide) kp_lM0 rfl rfl hl.1 rfl (Nat.le_of_ble_eq_true rfl) dX10_tellsHere_6) (fun H locs h => ?_)
  refine kp_istore_n (lv' := fun x3_0 => [(3, kp_iv x3_0), (0, .ref (kp_ad X 0)), (1, kp_iv a1), (2, .ref (kp_sK X a2))]) C dX10_tellsHere_9 rfl hl (by decide) (fun _ => rfl) hF (fun x3_0 ls hl hF => ?_)
  refine kp_aload_n C dX10_tellsHere_10 rfl (lv_at hl 1 rfl) ?_
  refine kp_geti C G h kp_lM0 rfl inWX10 (j := 7) (by decide) q4_64 rfl dX10_tellsHere_11 ?_
  refine kp_if_ne (tgt := 29) C dX10_tellsHere_14 (by decide) hF (fun hF => ?_) (fun hF => ?_)
  · exact kp_retv (v := 0) C hr hlk G h dX10_tellsHere_29 hF
  · refine kp_aload_n C dX10_tellsHere_17 rfl (lv_at hl 1 rfl) ?_
    refine kp_getr C G h kp_lM0 rfl inWX10 (j := 1) (by decide) q4_58 rfl dX10_tellsHere_18 ?_
    refine kp_iload_n C dX10_tellsHere_21 rfl (lv_at hl 2 rfl) ?_
    refine kp_aload_n C dX10_tellsHere_22 rfl (lv_at hl 1 rfl) ?_
    refine kp_geti C G h kp_lM0 rfl inWX10 (j := 4) (by decide) q4_61 rfl dX10_tellsHere_23 ?_
    refine kp_iadd C dX10_tellsHere_26 ?_
    refine kp_iload_n C dX10_tellsHere_27 rfl (lv_at hl 0 rfl) ?_
    refine kp_iast C G h (n := 1066) kp_lM1 (by decide) dX10_tellsHere_28 hF (fun σ_3 H locs h hF => ?_)
    exact kp_retv (v := 0) C hr hlk G h dX10_tellsHere_29 hF
def kf_X10_clauseOfH   (σ_0 : kp_W) : kp_R :=
  kp_bd (kf_X10_must 104 σ_0) (fun r_0 σ_1 => kp_bd (kf_X10_here σ_1) (fun r_1 σ_2 => kp_eq r_1 111 (kp_bd (kf_X10_much (-200) 3 σ_2) (fun r_3 σ_4 => some (0, σ_4))) (kp_bd (kf_X10_tellsHere 356 4 σ_2) (fun r_2 σ_3 => some (0, σ_3)))))
set_option maxRecDepth 100000 in
set_option maxHeartbeats 4000000 in
theorem kc_X10_clauseOfH {l : Launch} {X : kp_X}  {σ_0 σ' : kp_W} {r : Int}   (hF : (kf_X10_clauseOfH σ_0) = some (r, σ')) : kp_Met l yX10_clauseOfH cX10_clauseOfH 1 none 51 X kp_lM 10 σ_0 [.ref (kp_ad X 0)] (kp_Qv X kp_lM 10 σ') := by
  refine kp_body pnX10 (Nat.le_of_ble_eq_true rfl) ?_
  intro p e s m args below meth c ls C hr hlk G h hl
  unfold kf_X10_clauseOfH at hF
  have hl : lv_has ls 1 [(0, .ref (kp_ad X 0))] := hl
  refine kp_aload_n C dX10_clauseOfH_0 rfl (lv_at hl 0 rfl) ?_
  refine kp_bipush C dX10_clauseOfH_1 rfl ?_
  obtain ⟨r_0, σ_1, hc, hF⟩ := kp_bd_s hF
  refine kp_cv h (kp_rV (k := 0) (As := [kp_iv 104]) (rest := []) C G h (kc_X10_must  hc) q4_172 q4_174 q0_3_6 q1_11 q4_175 ⟨rfl, hd_X10_must⟩ (by decide) kp_lM0 rfl rfl hl.1 rfl (Nat.le_of_ble_eq_true rfl) dX10_clauseOfH_3) (fun H locs h => ?_)
  refine kp_aload_n C dX10_clauseOfH_6 rfl (lv_at hl 0 rfl) ?_
  obtain ⟨r_1, σ_2, hc, hF⟩ := kp_bd_s hF
  refine kp_ci h (kp_rV (k := 0) (As := []) (rest := []) C G h (kc_X10_here  hc) q4_157 q4_159 q0_3_3 q1_11 q4_160 ⟨rfl, hd_X10_here⟩ (by decide) kp_lM0 rfl rfl hl.1 rfl (Nat.le_of_ble_eq_true rfl) dX10_clauseOfH_7) (fun H locs h => ?_)
  refine kp_bipush C dX10_clauseOfH_10 rfl ?_
  refine kp_icmp_ne (tgt := 27) C dX10_clauseOfH_12 (by decide) hF (fun hF => ?_) (fun hF => ?_)
  · refine kp_aload_n C dX10_clauseOfH_27 rfl (lv_at hl 0 rfl) ?_
    refine kp_sipush C dX10_clauseOfH_28 rfl ?_
    refine kp_ldcS (tx := "ear ") (i := 4) C G (by decide +kernel) dX10_clauseOfH_31 ?_
    obtain ⟨r_2, σ_3, hc, hF⟩ := kp_bd_s hF
    refine kp_cv h (kp_rV (k := 0) (As := [kp_iv 356, .ref (kp_sK X 4)]) (rest := []) C G h (kc_X10_tellsHere (by decide) hc) q4_208 q4_210 q0_3_14 q1_11 q4_211 ⟨rfl, hd_X10_tellsHere⟩ (by decide) kp_lM0 rfl rfl hl.1 rfl (Nat.le_of_ble_eq_true rfl) dX10_clauseOfH_33) (fun H locs h => ?_)
    exact kp_retv (v := 0) C hr hlk G h dX10_clauseOfH_36 hF
  · refine kp_aload_n C dX10_clauseOfH_15 rfl (lv_at hl 0 rfl) ?_
    refine kp_sipush C dX10_clauseOfH_16 rfl ?_
    refine kp_ldcS (tx := "old ") (i := 3) C G (by decide +kernel) dX10_clauseOfH_19 ?_
    obtain ⟨r_3, σ_4, hc, hF⟩ := kp_bd_s hF
    refine kp_cv h (kp_rV (k := 0) (As := [kp_iv (-200), .ref (kp_sK X 3)]) (rest := []) C G h (kc_X10_much (by decide) hc) q4_162 q4_164 q0_3_4 q1_11 q4_165 ⟨rfl, hd_X10_much⟩ (by decide) kp_lM0 rfl rfl hl.1 rfl (Nat.le_of_ble_eq_true rfl) dX10_clauseOfH_21) (fun H locs h => ?_)
    refine kp_goto (tgt := 36) C dX10_clauseOfH_24 (by decide) ?_
    exact kp_retv (v := 0) C hr hlk G h dX10_clauseOfH_36 hF
def kf_X10_clauseHere   (σ_0 : kp_W) : kp_R :=
  kp_bd (kf_X10_here σ_0) (fun r_0 σ_1 => kp_eq r_0 97 (kp_bd (kf_X10_tellsHere 351 9 σ_1) (fun r_1 σ_2 => some (0, σ_2))) (kp_eq r_0 99 (kp_bd (kf_X10_tellsHere 341 7 σ_1) (fun r_2 σ_3 => some (0, σ_3))) (kp_eq r_0 103 (kp_bd (kf_X10_much (-10) 5 σ_1) (fun r_3 σ_4 => some (0, σ_4))) (kp_eq r_0 104 (kp_bd (kf_X10_clauseOfH σ_1) (fun r_4 σ_5 => some (0, σ_5))) (kp_eq r_0 105 (kp_bd (kf_X10_tellsHere 346 8 σ_1) (fun r_5 σ_6 => some (0, σ_6))) (kp_eq r_0 119 (kp_bd (kf_X10_tellsHere 336 6 σ_1) (fun r_6 σ_7 => some (0, σ_7))) (kp_lt (kp_up σ_1 0 7 1) (fun σ_8 => some (0, σ_8)))))))))
set_option maxRecDepth 100000 in
set_option maxHeartbeats 4000000 in
theorem kc_X10_clauseHere {l : Launch} {X : kp_X}  {σ_0 σ' : kp_W} {r : Int}   (hF : (kf_X10_clauseHere σ_0) = some (r, σ')) : kp_Met l yX10_clauseHere cX10_clauseHere 1 none 52 X kp_lM 10 σ_0 [.ref (kp_ad X 0)] (kp_Qv X kp_lM 10 σ') := by
  refine kp_body pnX10 (Nat.le_of_ble_eq_true rfl) ?_
  intro p e s m args below meth c ls C hr hlk G h hl
  unfold kf_X10_clauseHere at hF
  have hl : lv_has ls 1 [(0, .ref (kp_ad X 0))] := hl
  refine kp_aload_n C dX10_clauseHere_0 rfl (lv_at hl 0 rfl) ?_
  obtain ⟨r_0, σ_1, hc, hF⟩ := kp_bd_s hF
  refine kp_ci h (kp_rV (k := 0) (As := []) (rest := []) C G h (kc_X10_here  hc) q4_157 q4_159 q0_3_3 q1_11 q4_160 ⟨rfl, hd_X10_here⟩ (by decide) kp_lM0 rfl rfl hl.1 rfl (Nat.le_of_ble_eq_true rfl) dX10_clauseHere_1) (fun H locs h => ?_)
  obtain ⟨hx, -, ha, hb⟩ := kp_eq_s hF
  by_cases q0 : r_0 = 97
  · have hF := ha q0
    clear ha hb
    refine kp_look (tgt := 118) C dX10_clauseHere_4 (by decide) hx (by rw [q0]) (by decide) ?_
    refine kp_aload_n C dX10_clauseHere_118 rfl (lv_at hl 0 rfl) ?_
    refine kp_sipush C dX10_clauseHere_119 rfl ?_
    refine kp_ldcS (tx := "air ") (i := 9) C G (by decide +kernel) dX10_clauseHere_122 ?_
    obtain ⟨r_1, σ_2, hc, hF⟩ := kp_bd_s hF
    refine kp_cv h (kp_rV (k := 0) (As := [kp_iv 351, .ref (kp_sK X 9)]) (rest := []) C G h (kc_X10_tellsHere (by decide) hc) q4_208 q4_210 q0_3_14 q1_11 q4_211 ⟨rfl, hd_X10_tellsHere⟩ (by decide) kp_lM0 rfl rfl hl.1 rfl (Nat.le_of_ble_eq_true rfl) dX10_clauseHere_124) (fun H locs h => ?_)
    refine kp_goto (tgt := 135) C dX10_clauseHere_127 (by decide) ?_
    exact kp_retv (v := 0) C hr hlk G h dX10_clauseHere_135 hF
  · have hF := hb q0
    clear ha hb
    obtain ⟨hx, -, ha, hb⟩ := kp_eq_s hF
    by_cases q1 : r_0 = 99
    · have hF := ha q1
      clear ha hb
      refine kp_look (tgt := 94) C dX10_clauseHere_4 (by decide) hx (by rw [q1]) (by decide) ?_
      refine kp_aload_n C dX10_clauseHere_94 rfl (lv_at hl 0 rfl) ?_
      refine kp_sipush C dX10_clauseHere_95 rfl ?_
      refine kp_ldcS (tx := "cool ") (i := 7) C G (by decide +kernel) dX10_clauseHere_98 ?_
      obtain ⟨r_2, σ_3, hc, hF⟩ := kp_bd_s hF
      refine kp_cv h (kp_rV (k := 0) (As := [kp_iv 341, .ref (kp_sK X 7)]) (rest := []) C G h (kc_X10_tellsHere (by decide) hc) q4_208 q4_210 q0_3_14 q1_11 q4_211 ⟨rfl, hd_X10_tellsHere⟩ (by decide) kp_lM0 rfl rfl hl.1 rfl (Nat.le_of_ble_eq_true rfl) dX10_clauseHere_100) (fun H locs h => ?_)
      refine kp_goto (tgt := 135) C dX10_clauseHere_103 (by decide) ?_
      exact kp_retv (v := 0) C hr hlk G h dX10_clauseHere_135 hF
    · have hF := hb q1
      clear ha hb
      obtain ⟨hx, -, ha, hb⟩ := kp_eq_s hF
      by_cases q2 : r_0 = 103
      · have hF := ha q2
        clear ha hb
        refine kp_look (tgt := 64) C dX10_clauseHere_4 (by decide) hx (by rw [q2]) (by decide) ?_
        refine kp_aload_n C dX10_clauseHere_64 rfl (lv_at hl 0 rfl) ?_
        refine kp_bipush C dX10_clauseHere_65 rfl ?_
        refine kp_ldcS (tx := "grow ") (i := 5) C G (by decide +kernel) dX10_clauseHere_67 ?_
        obtain ⟨r_3, σ_4, hc, hF⟩ := kp_bd_s hF
        refine kp_cv h (kp_rV (k := 0) (As := [kp_iv (-10), .ref (kp_sK X 5)]) (rest := []) C G h (kc_X10_much (by decide) hc) q4_162 q4_164 q0_3_4 q1_11 q4_165 ⟨rfl, hd_X10_much⟩ (by decide) kp_lM0 rfl rfl hl.1 rfl (Nat.le_of_ble_eq_true rfl) dX10_clauseHere_69) (fun H locs h => ?_)
        refine kp_goto (tgt := 135) C dX10_clauseHere_72 (by decide) ?_
        exact kp_retv (v := 0) C hr hlk G h dX10_clauseHere_135 hF
      · have hF := hb q2
        clear ha hb
        obtain ⟨hx, -, ha, hb⟩ := kp_eq_s hF
        by_cases q3 : r_0 = 104
        · have hF := ha q3
          clear ha hb
          refine kp_look (tgt := 75) C dX10_clauseHere_4 (by decide) hx (by rw [q3]) (by decide) ?_
          refine kp_aload_n C dX10_clauseHere_75 rfl (lv_at hl 0 rfl) ?_
          obtain ⟨r_4, σ_5, hc, hF⟩ := kp_bd_s hF
          refine kp_cv h (kp_rV (k := 0) (As := []) (rest := []) C G h (kc_X10_clauseOfH  hc) q4_202 q4_204 q0_3_13 q1_11 q4_205 ⟨rfl, hd_X10_clauseOfH⟩ (by decide) kp_lM0 rfl rfl hl.1 rfl (Nat.le_of_ble_eq_true rfl) dX10_clauseHere_76) (fun H locs h => ?_)
          refine kp_goto (tgt := 135) C dX10_clauseHere_79 (by decide) ?_
          exact kp_retv (v := 0) C hr hlk G h dX10_clauseHere_135 hF
        · have hF := hb q3
          clear ha hb
          obtain ⟨hx, -, ha, hb⟩ := kp_eq_s hF
          by_cases q4 : r_0 = 105
          · have hF := ha q4
            clear ha hb
            refine kp_look (tgt := 106) C dX10_clauseHere_4 (by decide) hx (by rw [q4]) (by decide) ?_
            refine kp_aload_n C dX10_clauseHere_106 rfl (lv_at hl 0 rfl) ?_
            refine kp_sipush C dX10_clauseHere_107 rfl ?_
            refine kp_ldcS (tx := "iron ") (i := 8) C G (by decide +kernel) dX10_clauseHere_110 ?_
            obtain ⟨r_5, σ_6, hc, hF⟩ := kp_bd_s hF
            refine kp_cv h (kp_rV (k := 0) (As := [kp_iv 346, .ref (kp_sK X 8)]) (rest := []) C G h (kc_X10_tellsHere (by decide) hc) q4_208 q4_210 q0_3_14 q1_11 q4_211 ⟨rfl, hd_X10_tellsHere⟩ (by decide) kp_lM0 rfl rfl hl.1 rfl (Nat.le_of_ble_eq_true rfl) dX10_clauseHere_112) (fun H locs h => ?_)
            refine kp_goto (tgt := 135) C dX10_clauseHere_115 (by decide) ?_
            exact kp_retv (v := 0) C hr hlk G h dX10_clauseHere_135 hF
          · have hF := hb q4
            clear ha hb
            obtain ⟨hx, -, ha, hb⟩ := kp_eq_s hF
            by_cases q5 : r_0 = 119
            · have hF := ha q5
              clear ha hb
              refine kp_look (tgt := 82) C dX10_clauseHere_4 (by decide) hx (by rw [q5]) (by decide) ?_
              refine kp_aload_n C dX10_clauseHere_82 rfl (lv_at hl 0 rfl) ?_
              refine kp_sipush C dX10_clauseHere_83 rfl ?_
              refine kp_ldcS (tx := "warm ") (i := 6) C G (by decide +kernel) dX10_clauseHere_86 ?_
              obtain ⟨r_6, σ_7, hc, hF⟩ := kp_bd_s hF
              refine kp_cv h (kp_rV (k := 0) (As := [kp_iv 336, .ref (kp_sK X 6)]) (rest := []) C G h (kc_X10_tellsHere (by decide) hc) q4_208 q4_210 q0_3_14 q1_11 q4_211 ⟨rfl, hd_X10_tellsHere⟩ (by decide) kp_lM0 rfl rfl hl.1 rfl (Nat.le_of_ble_eq_true rfl) dX10_clauseHere_88) (fun H locs h => ?_)
              refine kp_goto (tgt := 135) C dX10_clauseHere_91 (by decide) ?_
              exact kp_retv (v := 0) C hr hlk G h dX10_clauseHere_135 hF
            · have hF := hb q5
              clear ha hb
              refine kp_look (off := 126) (tgt := 130) C dX10_clauseHere_4 (by decide) hx (by simp only [Op.lookupswitch.offset]; repeat rw [if_neg (by omega)]) (by decide) ?_
              refine kp_aload_n C dX10_clauseHere_130 rfl (lv_at hl 0 rfl) ?_
              refine kp_iconst C dX10_clauseHere_131 ?_
              have hF := kp_ck_i (c := (1 : Int) = 0 ∨ (1 : Int) = 1) (by decide) hF
              refine kp_putz C G h kp_lM0 rfl inWX10 tyX10 tyX10_ok nmX10 (j := 7) (by decide) q4_64 rfl rfl (by decide +kernel) dX10_clauseHere_132 hF (fun σ_8 H locs h hF => ?_)
              exact kp_retv (v := 0) C hr hlk G h dX10_clauseHere_135 hF
