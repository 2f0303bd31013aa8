-- by program (wip/whole/gen/drive.py)
def kl_X10_every_4 (fac : kp_W → kp_R) : Nat → kp_W → (kp_W → kp_R) → kp_R
  | 0, _, _ => none
  | n + 1, σ_2, k => kp_eq (σ_2 0 7) 0 (kp_bd (kf_X10_here σ_2) (fun r_1 σ_4 => kp_eq r_1 38 (kp_lt (kp_up σ_4 0 5 ((σ_4 0 5) + 1)) (fun σ_5 => kp_bd (fac σ_5) (fun r_2 σ_6 => kp_bd (kf_X10_emits (-2) σ_6) (fun r_3 σ_7 => kl_X10_every_4 fac n σ_7 k)))) (k σ_4))) (k σ_2)
def kf_X10_every (fac : kp_W → kp_R)  (σ_0 : kp_W) : kp_R :=
  kp_bd (fac σ_0) (fun r_0 σ_1 => kl_X10_every_4 fac kp_fu σ_1 (fun (σ_3 : kp_W) => some (0, σ_3)))
set_option maxRecDepth 100000 in
set_option maxHeartbeats 4000000 in
theorem kc_X10_every {l : Launch} {X : kp_X} {D : Nat} {fac : kp_W → kp_R} {σ_0 σ' : kp_W} {r : Int}  (hD : 6 ≤ D) {D0 : Nat} (eD0 : D0 + 1 ≤ D) (hfac : ∀ (σ σ' : kp_W) (r : Int), fac σ = some (r, σ') → kp_Met l yX10_factor cX10_factor 5 none D0 X kp_lM 10 σ [.ref (kp_ad X 0)] (kp_Qv X kp_lM 10 σ')) (hF : (kf_X10_every fac σ_0) = some (r, σ')) : kp_Met l yX10_every cX10_every 1 none D X kp_lM 10 σ_0 [.ref (kp_ad X 0)] (kp_Qv X kp_lM 10 σ') := by
  refine kp_body pnX10 (Nat.le_of_ble_eq_true rfl) ?_
  intro p e s m args below meth c ls C hr hlk G h hl
  unfold kf_X10_every at hF
  have hl : lv_has ls 1 [(0, .ref (kp_ad X 0))] := hl
  refine kp_aload_n C dX10_every_0 rfl (lv_at hl 0 rfl) ?_
  obtain ⟨r_0, σ_1, hc, hF⟩ := kp_bd_s hF
  refine kp_cv h (kp_rV (k := 0) (As := []) (rest := []) C G h (hfac _ _ _ hc) q4_176 q4_178 q0_3_7 q1_11 q4_179 ⟨rfl, hd_X10_factor⟩ ⟨by omega, by decide⟩ kp_lM0 rfl rfl hl.1 rfl (Nat.le_of_ble_eq_true rfl) dX10_every_1) (fun H locs h => ?_)
  have L4 : ∀ (n : Nat) (σ_2 : kp_W) (k : kp_W → kp_R) (H : Heap) (locs : List Loc) (ls : Array Slot), kp_H X kp_lM 10 s σ_2 H locs → lv_has ls 1 [(0, .ref (kp_ad X 0))] → (∀ (σ_3 : kp_W) (H : Heap) (locs : List Loc) (ls : Array Slot), kp_H X kp_lM 10 s σ_3 H locs → lv_has ls 1 [] → k σ_3 = some (r, σ') → W p l e (kp_rm D) s m args below meth c H locs 0 0 (MQ below (kp_Qv X kp_lM 10 σ') args s 0 0 (kp_A X 10)) (F0 m 43 ls [])) → kl_X10_every_4 fac n σ_2 k = some (r, σ') → W p l e (kp_rm D) s m args below meth c H locs 0 0 (MQ below (kp_Qv X kp_lM 10 σ') args s 0 0 (kp_A X 10)) (F0 m 4 ls []) := by
    intro n
    induction n with
    | zero =>
      intro σ_2 k H locs ls h hl K hF
      rw [kl_X10_every_4] at hF
      cases hF
    | succ n ih =>
      intro σ_2 k H locs ls h hl K hF
      rw [kl_X10_every_4] at hF
      refine kp_aload_n C dX10_every_4 rfl (lv_at hl 0 rfl) ?_
      refine kp_geti C G h kp_lM0 rfl inWX10 (j := 7) (by decide) q4_51 rfl dX10_every_5 ?_
      refine kp_if_ne (tgt := 43) C dX10_every_8 (by decide) hF (fun hF => ?_) (fun hF => ?_)
      · exact K _ _ _ _ h (lv_sub hl [] rfl) hF
      · refine kp_aload_n C dX10_every_11 rfl (lv_at hl 0 rfl) ?_
        obtain ⟨r_1, σ_4, hc, hF⟩ := kp_bd_s hF
        refine kp_ci h (kp_rV (k := 0) (As := []) (rest := []) C G h (kc_X10_here  hc) q4_145 q4_147 q0_3_0 q1_11 q4_148 ⟨rfl, hd_X10_here⟩ ⟨by omega, by decide⟩ kp_lM0 rfl rfl hl.1 rfl (Nat.le_of_ble_eq_true rfl) dX10_every_12) (fun H locs h => ?_)
        refine kp_bipush C dX10_every_15 rfl ?_
        refine kp_icmp_ne (tgt := 43) C dX10_every_17 (by decide) hF (fun hF => ?_) (fun hF => ?_)
        · exact K _ _ _ _ h (lv_sub hl [] rfl) hF
        · refine kp_aload_n C dX10_every_20 rfl (lv_at hl 0 rfl) ?_
          refine kp_dup C dX10_every_21 rfl ?_
          refine kp_geti C G h kp_lM0 rfl inWX10 (j := 5) (by decide) q4_49 rfl dX10_every_22 ?_
          refine kp_iconst C dX10_every_25 ?_
          refine kp_iadd C dX10_every_26 ?_
          refine kp_puti C G h kp_lM0 rfl inWX10 tyX10 tyX10_ok nmX10 (j := 5) (by decide) q4_49 rfl rfl (by decide +kernel) dX10_every_27 hF (fun σ_5 H locs h hF => ?_)
          refine kp_aload_n C dX10_every_30 rfl (lv_at hl 0 rfl) ?_
          obtain ⟨r_2, σ_6, hc, hF⟩ := kp_bd_s hF
          refine kp_cv h (kp_rV (k := 0) (As := []) (rest := []) C G h (hfac _ _ _ hc) q4_176 q4_178 q0_3_7 q1_11 q4_179 ⟨rfl, hd_X10_factor⟩ ⟨by omega, by decide⟩ kp_lM0 rfl rfl hl.1 rfl (Nat.le_of_ble_eq_true rfl) dX10_every_31) (fun H locs h => ?_)
          refine kp_aload_n C dX10_every_34 rfl (lv_at hl 0 rfl) ?_
          refine kp_bipush C dX10_every_35 rfl ?_
          obtain ⟨r_3, σ_7, hc, hF⟩ := kp_bd_s hF
          refine kp_cv h (kp_rV (k := 0) (As := [kp_iv (-2)]) (rest := []) C G h (kc_X10_emits  hc) q4_180 q4_182 q0_3_8 q1_11 q4_183 ⟨rfl, hd_X10_emits⟩ ⟨by omega, by decide⟩ kp_lM0 rfl rfl hl.1 rfl (Nat.le_of_ble_eq_true rfl) dX10_every_37) (fun H locs h => ?_)
          refine kp_goto (tgt := 4) C dX10_every_40 (by decide) ?_
          exact ih _ k _ _ _ h (lv_sub hl [0] rfl) K hF
  refine L4 kp_fu _ _ _ _ _ h (lv_sub hl [0] rfl) (fun σ_3 H locs ls h hl hF => ?_) hF
  clear L4
  exact kp_retv (v := 0) C hr hlk G h dX10_every_43 hF
def kl_X10_some_4 (eve : kp_W → kp_R) : Nat → kp_W → (kp_W → kp_R) → kp_R
  | 0, _, _ => none
  | n + 1, σ_2, k => kp_eq (σ_2 0 7) 0 (kp_bd (kf_X10_here σ_2) (fun r_1 σ_4 => kp_eq r_1 124 (kp_lt (kp_up σ_4 0 5 ((σ_4 0 5) + 1)) (fun σ_5 => kp_bd (eve σ_5) (fun r_2 σ_6 => kp_bd (kf_X10_emits (-3) σ_6) (fun r_3 σ_7 => kl_X10_some_4 eve n σ_7 k)))) (k σ_4))) (k σ_2)
def kf_X10_some (eve : kp_W → kp_R)  (σ_0 : kp_W) : kp_R :=
  kp_bd (eve σ_0) (fun r_0 σ_1 => kl_X10_some_4 eve kp_fu σ_1 (fun (σ_3 : kp_W) => some (0, σ_3)))
set_option maxRecDepth 100000 in
set_option maxHeartbeats 4000000 in
theorem kc_X10_some {l : Launch} {X : kp_X} {D : Nat} {eve : kp_W → kp_R} {σ_0 σ' : kp_W} {r : Int}  (hD : 6 ≤ D) {D0 : Nat} (eD0 : D0 + 1 ≤ D) (heve : ∀ (σ σ' : kp_W) (r : Int), eve σ = some (r, σ') → kp_Met l yX10_every cX10_every 1 none D0 X kp_lM 10 σ [.ref (kp_ad X 0)] (kp_Qv X kp_lM 10 σ')) (hF : (kf_X10_some eve σ_0) = some (r, σ')) : kp_Met l yX10_some cX10_some 1 none D X kp_lM 10 σ_0 [.ref (kp_ad X 0)] (kp_Qv X kp_lM 10 σ') := by
  refine kp_body pnX10 (Nat.le_of_ble_eq_true rfl) ?_
  intro p e s m args below meth c ls C hr hlk G h hl
  unfold kf_X10_some at hF
  have hl : lv_has ls 1 [(0, .ref (kp_ad X 0))] := hl
  refine kp_aload_n C dX10_some_0 rfl (lv_at hl 0 rfl) ?_
  obtain ⟨r_0, σ_1, hc, hF⟩ := kp_bd_s hF
  refine kp_cv h (kp_rV (k := 0) (As := []) (rest := []) C G h (heve _ _ _ hc) q4_172 q4_174 q0_3_6 q1_11 q4_175 ⟨rfl, hd_X10_every⟩ ⟨by omega, by decide⟩ kp_lM0 rfl rfl hl.1 rfl (Nat.le_of_ble_eq_true rfl) dX10_some_1) (fun H locs h => ?_)
  have L4 : ∀ (n : Nat) (σ_2 : kp_W) (k : kp_W → kp_R) (H : Heap) (locs : List Loc) (ls : Array Slot), kp_H X kp_lM 10 s σ_2 H locs → lv_has ls 1 [(0, .ref (kp_ad X 0))] → (∀ (σ_3 : kp_W) (H : Heap) (locs : List Loc) (ls : Array Slot), kp_H X kp_lM 10 s σ_3 H locs → lv_has ls 1 [] → k σ_3 = some (r, σ') → W p l e (kp_rm D) s m args below meth c H locs 0 0 (MQ below (kp_Qv X kp_lM 10 σ') args s 0 0 (kp_A X 10)) (F0 m 43 ls [])) → kl_X10_some_4 eve n σ_2 k = some (r, σ') → W p l e (kp_rm D) s m args below meth c H locs 0 0 (MQ below (kp_Qv X kp_lM 10 σ') args s 0 0 (kp_A X 10)) (F0 m 4 ls []) := by
    intro n
    induction n with
    | zero =>
      intro σ_2 k H locs ls h hl K hF
      rw [kl_X10_some_4] at hF
      cases hF
    | succ n ih =>
      intro σ_2 k H locs ls h hl K hF
      rw [kl_X10_some_4] at hF
      refine kp_aload_n C dX10_some_4 rfl (lv_at hl 0 rfl) ?_
      refine kp_geti C G h kp_lM0 rfl inWX10 (j := 7) (by decide) q4_51 rfl dX10_some_5 ?_
      refine kp_if_ne (tgt := 43) C dX10_some_8 (by decide) hF (fun hF => ?_) (fun hF => ?_)
      · exact K _ _ _ _ h (lv_sub hl [] rfl) hF
      · refine kp_aload_n C dX10_some_11 rfl (lv_at hl 0 rfl) ?_
        obtain ⟨r_1, σ_4, hc, hF⟩ := kp_bd_s hF
        refine kp_ci h (kp_rV (k := 0) (As := []) (rest := []) C G h (kc_X10_here  hc) q4_145 q4_147 q0_3_0 q1_11 q4_148 ⟨rfl, hd_X10_here⟩ ⟨by omega, by decide⟩ kp_lM0 rfl rfl hl.1 rfl (Nat.le_of_ble_eq_true rfl) dX10_some_12) (fun H locs h => ?_)
        refine kp_bipush C dX10_some_15 rfl ?_
        refine kp_icmp_ne (tgt := 43) C dX10_some_17 (by decide) hF (fun hF => ?_) (fun hF => ?_)
        · exact K _ _ _ _ h (lv_sub hl [] rfl) hF
        · refine kp_aload_n C dX10_some_20 rfl (lv_at hl 0 rfl) ?_
          refine kp_dup C dX10_some_21 rfl ?_
          refine kp_geti C G h kp_lM0 rfl inWX10 (j := 5) (by decide) q4_49 rfl dX10_some_22 ?_
          refine kp_iconst C dX10_some_25 ?_
          refine kp_iadd C dX10_some_26 ?_
          refine kp_puti C G h kp_lM0 rfl inWX10 tyX10 tyX10_ok nmX10 (j := 5) (by decide) q4_49 rfl rfl (by decide +kernel) dX10_some_27 hF (fun σ_5 H locs h hF => ?_)
          refine kp_aload_n C dX10_some_30 rfl (lv_at hl 0 rfl) ?_
          obtain ⟨r_2, σ_6, hc, hF⟩ := kp_bd_s hF
          refine kp_cv h (kp_rV (k := 0) (As := []) (rest := []) C G h (heve _ _ _ hc) q4_172 q4_174 q0_3_6 q1_11 q4_175 ⟨rfl, hd_X10_every⟩ ⟨by omega, by decide⟩ kp_lM0 rfl rfl hl.1 rfl (Nat.le_of_ble_eq_true rfl) dX10_some_31) (fun H locs h => ?_)
          refine kp_aload_n C dX10_some_34 rfl (lv_at hl 0 rfl) ?_
          refine kp_bipush C dX10_some_35 rfl ?_
          obtain ⟨r_3, σ_7, hc, hF⟩ := kp_bd_s hF
          refine kp_cv h (kp_rV (k := 0) (As := [kp_iv (-3)]) (rest := []) C G h (kc_X10_emits  hc) q4_180 q4_182 q0_3_8 q1_11 q4_183 ⟨rfl, hd_X10_emits⟩ ⟨by omega, by decide⟩ kp_lM0 rfl rfl hl.1 rfl (Nat.le_of_ble_eq_true rfl) dX10_some_37) (fun H locs h => ?_)
          refine kp_goto (tgt := 4) C dX10_some_40 (by decide) ?_
          exact ih _ k _ _ _ h (lv_sub hl [0] rfl) K hF
  refine L4 kp_fu _ _ _ _ _ h (lv_sub hl [0] rfl) (fun σ_3 H locs ls h hl hF => ?_) hF
  clear L4
  exact kp_retv (v := 0) C hr hlk G h dX10_some_43 hF
def kt_X10_factor : Nat → kp_W → kp_R
  | 0, _ => none
  | n + 1, σ => kf_X10_factor (kt_X10_factor n) (fun σ => kf_X10_some (fun σ => kf_X10_every (kt_X10_factor n) σ) σ) σ
def kt_X10_every (n : Nat) (σ : kp_W) : kp_R := kf_X10_every (kt_X10_factor n) σ
def kt_X10_some (n : Nat) (σ : kp_W) : kp_R := kf_X10_some (kt_X10_every n) σ
theorem kt_X10_factor_c {l : Launch} {X : kp_X} : ∀ (n : Nat) (σ σ' : kp_W) (r : Int), kt_X10_factor n σ = some (r, σ') → kp_Met l yX10_factor cX10_factor 5 none (6 + 4 * n) X kp_lM 10 σ [.ref (kp_ad X 0)] (kp_Qv X kp_lM 10 σ')
  | 0, _, _, _, h => by rw [kt_X10_factor] at h; cases h
  | n + 1, σ, σ', r, h => by
    rw [kt_X10_factor] at h
    exact kc_X10_factor (D := 6 + 4 * (n + 1)) (by omega) (D0 := 6 + 4 * n) (by omega) (kt_X10_factor_c n) (D1 := 6 + 4 * n + 2) (by omega) (fun σ σ' r h => kc_X10_some (D := 6 + 4 * n + 2) (by omega) (D0 := 6 + 4 * n + 1) (by omega) (fun σ σ' r h => kc_X10_every (D := 6 + 4 * n + 1) (by omega) (D0 := 6 + 4 * n) (by omega) (kt_X10_factor_c n) h) h) h
theorem kt_X10_every_c {l : Launch} {X : kp_X} (n : Nat) {σ σ' : kp_W} {r : Int} (h : kt_X10_every n σ = some (r, σ')) : kp_Met l yX10_every cX10_every 1 none (6 + 4 * n + 1) X kp_lM 10 σ [.ref (kp_ad X 0)] (kp_Qv X kp_lM 10 σ') := kc_X10_every (by omega) (by omega) (kt_X10_factor_c n) h
theorem kt_X10_some_c {l : Launch} {X : kp_X} (n : Nat) {σ σ' : kp_W} {r : Int} (h : kt_X10_some n σ = some (r, σ')) : kp_Met l yX10_some cX10_some 1 none (6 + 4 * n + 2) X kp_lM 10 σ [.ref (kp_ad X 0)] (kp_Qv X kp_lM 10 σ') := kc_X10_some (by omega) (by omega) (fun _ _ _ h => kt_X10_every_c n h) h

def kf_X10_much  (a1 : Int) (a2 : Nat) (σ_0 : kp_W) : kp_R :=
  kp_bd (kf_X10_spells a2 σ_0) (fun r_0 σ_1 => kp_bd (kf_X10_figures σ_1) (fun r_1 σ_2 => kp_lt (r_1 : Int) (fun x3_0 => kp_bd (kf_X10_must 32 σ_2) (fun r_2 σ_3 => kp_bd (kt_X10_some 10 σ_3) (fun r_3 σ_4 => kp_bd (kf_X10_emits (a1 - x3_0) σ_4) (fun r_4 σ_5 => some (0, σ_5)))))))
set_option maxRecDepth 100000 in
set_option maxHeartbeats 4000000 in
theorem kc_X10_much {l : Launch} {X : kp_X} {a1 : Int} {a2 : Nat}  {σ_0 σ' : kp_W} {r : Int} (h2 : a2 < 10)  (hF : (kf_X10_much a1 a2 σ_0) = some (r, σ')) : kp_Met l yX10_much cX10_much 4 none 50 X kp_lM 10 σ_0 [.ref (kp_ad X 0), kp_iv a1, .ref (kp_sK X a2)] (kp_Qv X kp_lM 10 σ') := by
  refine kp_body pnX10 (Nat.le_of_ble_eq_true rfl) ?_
  intro p e s m args below meth c ls C hr hlk G h hl
  unfold kf_X10_much at hF
  have hl : lv_has ls 4 [(0, .ref (kp_ad X 0)), (1, kp_iv a1), (2, .ref (kp_sK X a2))] := hl
  refine kp_aload_n C dX10_much_0 rfl (lv_at hl 0 rfl) ?_
  refine kp_aload_n C dX10_much_1 rfl (lv_at hl 2 rfl) ?_
  obtain ⟨r_0, σ_1, hc, hF⟩ := kp_bd_s hF
  refine kp_cv h (kp_rV (k := 0) (As := [.ref (kp_sK X a2)]) (rest := []) C G h (kc_X10_spells h2 hc) q4_154 q4_156 q0_3_2 q1_11 q4_157 ⟨rfl, hd_X10_spells⟩ (by decide) kp_lM0 rfl rfl hl.1 rfl (Nat.le_of_ble_eq_true rfl) dX10_much_2) (fun H locs h => ?_)
  refine kp_aload_n C dX10_much_5 rfl (lv_at hl 0 rfl) ?_
  obtain ⟨r_1, σ_2, hc, hF⟩ := kp_bd_s hF
  refine kp_ci h (kp_rV (k := 0) (As := []) (rest := []) C G h (kc_X10_figures  hc) q4_164 q4_166 q0_3_4 q1_11 q4_167 ⟨rfl, hd_X10_figures⟩ (by decide) kp_lM0 rfl rfl hl.1 rfl (Nat.le_of_ble_eq_true rfl) dX10_much_6) (fun H locs h => ?_)
  refine kp_istore_n (lv' := fun x3_0 => [(3, kp_iv x3_0), (0, .ref (kp_ad X 0)), (1, kp_iv a1), (2, .ref (kp_sK X a2))]) C dX10_much_9 rfl hl (by decide) (fun _ => rfl) hF (fun x3_0 ls hl hF => ?_)
  refine kp_aload_n C dX10_much_10 rfl (lv_at hl 1 rfl) ?_
  refine kp_bipush C dX10_much_11 rfl ?_
  obtain ⟨r_2, σ_3, hc, hF⟩ := kp_bd_s hF
  refine kp_cv h (kp_rV (k := 0) (As := [kp_iv 32]) (rest := []) C G h (kc_X10_must  hc) q4_160 q4_162 q0_3_3 q1_11 q4_163 ⟨rfl, hd_X10_must⟩ (by decide) kp_lM0 rfl rfl hl.1 rfl (Nat.le_of_ble_eq_true rfl) dX10_much_13) (fun H locs h => ?_)
  refine kp_aload_n C dX10_much_16 rfl (lv_at hl 1 rfl) ?_
  obtain ⟨r_3, σ_4, hc, hF⟩ := kp_bd_s hF
  refine kp_cv h (kp_rV (k := 0) (As := []) (rest := []) C G h (kt_X10_some_c 10 hc) q4_168 q4_170 q0_3_5 q1_11 q4_171 ⟨rfl, hd_X10_some⟩ ⟨by decide, by decide⟩ kp_lM0 rfl rfl hl.1 rfl (Nat.le_of_ble_eq_true rfl) dX10_much_17) (fun H locs h => ?_)
  refine kp_aload_n C dX10_much_20 rfl (lv_at hl 1 rfl) ?_
  refine kp_iload_n C dX10_much_21 rfl (lv_at hl 2 rfl) ?_
  refine kp_iload_n C dX10_much_22 rfl (lv_at hl 0 rfl) ?_
  refine kp_isub C dX10_much_23 ?_
  obtain ⟨r_4, σ_5, hc, hF⟩ := kp_bd_s hF
  refine kp_cv h (kp_rV (k := 0) (As := [kp_iv (a1 - x3_0)]) (rest := []) C G h (kc_X10_emits  hc) q4_180 q4_182 q0_3_8 q1_11 q4_183 ⟨rfl, hd_X10_emits⟩ (by decide) kp_lM0 rfl rfl hl.1 rfl (Nat.le_of_ble_eq_true rfl) dX10_much_24) (fun H locs h => ?_)
  exact kp_retv (v := 0) C hr hlk G h dX10_much_27 hF
def kf_X10_tellsHere  (a1 : Int) (a2 : Nat) (σ_0 : kp_W) : kp_R :=
  kp_bd (kf_X10_spells a2 σ_0) (fun r_0 σ_1 => kp_bd (kf_X10_figures σ_1) (fun r_1 σ_2 => kp_lt (r_1 : Int) (fun x3_0 => kp_eq (σ_2 0 7) 0 (kp_ck (0 ≤ (a1 + (σ_2 0 4)) ∧ (a1 + (σ_2 0 4)) < 1066) (kp_lt (kp_up σ_2 1 (Int.toNat (a1 + (σ_2 0 4))) x3_0) (fun σ_3 => some (0, σ_3)))) (some (0, σ_2)))))
set_option maxRecDepth 100000 in
set_option maxHeartbeats 4000000 in
theorem kc_X10_tellsHere {l : Launch} {X : kp_X} {a1 : Int} {a2 : Nat}  {σ_0 σ' : kp_W} {r : Int} (h2 : a2 < 10)  (hF : (kf_X10_tellsHere a1 a2 σ_0) = some (r, σ')) : kp_Met l yX10_tellsHere cX10_tellsHere 4 none 6 X kp_lM 10 σ_0 [.ref (kp_ad X 0), kp_iv a1, .ref (kp_sK X a2)] (kp_Qv X kp_lM 10 σ') := by
  refine kp_body pnX10 (Nat.le_of_ble_eq_true rfl) ?_
  intro p e s m args below meth c ls C hr hlk G h hl
  unfold kf_X10_tellsHere at hF
  have hl : lv_has ls 4 [(0, .ref (kp_ad X 0)), (1, kp_iv a1), (2, .ref (kp_sK X a2))] := hl
  refine kp_aload_n C dX10_tellsHere_0 rfl (lv_at hl 0 rfl) ?_
  refine kp_aload_n C dX10_tellsHere_1 rfl (lv_at hl 2 rfl) ?_
  obtain ⟨r_0, σ_1, hc, hF⟩ := kp_bd_s hF
  refine kp_cv h (kp_rV (k := 0) (As := [.ref (kp_sK X a2)]) (rest := []) C G h (kc_X10_spells h2 hc) q4_154 q4_156 q0_3_2 q1_11 q4_157 ⟨rfl, hd_X10_spells⟩ (by decide) kp_lM0 rfl rfl hl.1 rfl (Nat.le_of_ble_eq_true rfl) dX10_tellsHere_2) (fun H locs h => ?_)
  refine kp_aload_n C dX10_tellsHere_5 rfl (lv_at hl 0 rfl) ?_
  obtain ⟨r_1, σ_2, hc, hF⟩ := kp_bd_s hF
  refine kp_ci h (kp_rV (k := 0) (As := []) (rest := []) C G h (kc_X10_figures  hc) q4_164 q4_166 q0_3_4 q1_11 q4_167 ⟨rfl, hd_X10_figures⟩ (by decide) kp_lM0 rfl rfl hl.1 rfl (Nat.le_of_ble_eq_true rfl) dX10_tellsHere_6) (fun H locs h => ?_)
  refine kp_istore_n (lv' := fun x3_0 => [(3, kp_iv x3_0), (0, .ref (kp_ad X 0)), (1, kp_iv a1), (2, .ref (kp_sK X a2))]) C dX10_tellsHere_9 rfl hl (by decide) (fun _ => rfl) hF (fun x3_0 ls hl hF => ?_)
  refine kp_aload_n C dX10_tellsHere_10 rfl (lv_at hl 1 rfl) ?_
  refine kp_geti C G h kp_lM0 rfl inWX10 (j := 7) (by decide) q4_51 rfl dX10_tellsHere_11 ?_
  refine kp_if_ne (tgt := 29) C dX10_tellsHere_14 (by decide) hF (fun hF => ?_) (fun hF => ?_)
  · exact kp_retv (v := 0) C hr hlk G h dX10_tellsHere_29 hF
  · refine kp_aload_n C dX10_tellsHere_17 rfl (lv_at hl 1 rfl) ?_
    refine kp_getr C G h kp_lM0 rfl inWX10 (j := 1) (by decide) q4_45 rfl dX10_tellsHere_18 ?_
    refine kp_iload_n C dX10_tellsHere_21 rfl (lv_at hl 2 rfl) ?_
    refine kp_aload_n C dX10_tellsHere_22 rfl (lv_at hl 1 rfl) ?_
    refine kp_geti C G h kp_lM0 rfl inWX10 (j := 4) (by decide) q4_48 rfl dX10_tellsHere_23 ?_
    refine kp_iadd C dX10_tellsHere_26 ?_
    refine kp_iload_n C dX10_tellsHere_27 rfl (lv_at hl 0 rfl) ?_
    refine kp_iast C G h (n := 1066) kp_lM1 (by decide) dX10_tellsHere_28 hF (fun σ_3 H locs h hF => ?_)
    exact kp_retv (v := 0) C hr hlk G h dX10_tellsHere_29 hF
def kf_X10_clauseOfH   (σ_0 : kp_W) : kp_R :=
  kp_bd (kf_X10_must 104 σ_0) (fun r_0 σ_1 => kp_bd (kf_X10_here σ_1) (fun r_1 σ_2 => kp_eq r_1 111 (kp_bd (kf_X10_much (-200) 3 σ_2) (fun r_3 σ_4 => some (0, σ_4))) (kp_bd (kf_X10_tellsHere 356 4 σ_2) (fun r_2 σ_3 => some (0, σ_3)))))
set_option maxRecDepth 100000 in
set_option maxHeartbeats 4000000 in
theorem kc_X10_clauseOfH {l : Launch} {X : kp_X}  {σ_0 σ' : kp_W} {r : Int}   (hF : (kf_X10_clauseOfH σ_0) = some (r, σ')) : kp_Met l yX10_clauseOfH cX10_clauseOfH 1 none 51 X kp_lM 10 σ_0 [.ref (kp_ad X 0)] (kp_Qv X kp_lM 10 σ') := by
  refine kp_body pnX10 (Nat.le_of_ble_eq_true rfl) ?_
  intro p e s m args below meth c ls C hr hlk G h hl
  unfold kf_X10_clauseOfH at hF
  have hl : lv_has ls 1 [(0, .ref (kp_ad X 0))] := hl
  refine kp_aload_n C dX10_clauseOfH_0 rfl (lv_at hl 0 rfl) ?_
  refine kp_bipush C dX10_clauseOfH_1 rfl ?_
  obtain ⟨r_0, σ_1, hc, hF⟩ := kp_bd_s hF
  refine kp_cv h (kp_rV (k := 0) (As := [kp_iv 104]) (rest := []) C G h (kc_X10_must  hc) q4_160 q4_162 q0_3_3 q1_11 q4_163 ⟨rfl, hd_X10_must⟩ (by decide) kp_lM0 rfl rfl hl.1 rfl (Nat.le_of_ble_eq_true rfl) dX10_clauseOfH_3) (fun H locs h => ?_)
  refine kp_aload_n C dX10_clauseOfH_6 rfl (lv_at hl 0 rfl) ?_
  obtain ⟨r_1, σ_2, hc, hF⟩ := kp_bd_s hF
  refine kp_ci h (kp_rV (k := 0) (As := []) (rest := []) C G h (kc_X10_here  hc) q4_145 q4_147 q0_3_0 q1_11 q4_148 ⟨rfl, hd_X10_here⟩ (by decide) kp_lM0 rfl rfl hl.1 rfl (Nat.le_of_ble_eq_true rfl) dX10_clauseOfH_7) (fun H locs h => ?_)
  refine kp_bipush C dX10_clauseOfH_10 rfl ?_
  refine kp_icmp_ne (tgt := 27) C dX10_clauseOfH_12 (by decide) hF (fun hF => ?_) (fun hF => ?_)
  · refine kp_aload_n C dX10_clauseOfH_27 rfl (lv_at hl 0 rfl) ?_
    refine kp_sipush C dX10_clauseOfH_28 rfl ?_
    refine kp_ldcS (tx := "ear ") (i := 4) C G (by decide +kernel) dX10_clauseOfH_31 ?_
    obtain ⟨r_2, σ_3, hc, hF⟩ := kp_bd_s hF
    refine kp_cv h (kp_rV (k := 0) (As := [kp_iv 356, .ref (kp_sK X 4)]) (rest := []) C G h (kc_X10_tellsHere (by decide) hc) q4_196 q4_198 q0_3_11 q1_11 q4_199 ⟨rfl, hd_X10_tellsHere⟩ (by decide) kp_lM0 rfl rfl hl.1 rfl (Nat.le_of_ble_eq_true rfl) dX10_clauseOfH_33) (fun H locs h => ?_)
    exact kp_retv (v := 0) C hr hlk G h dX10_clauseOfH_36 hF
  · refine kp_aload_n C dX10_clauseOfH_15 rfl (lv_at hl 0 rfl) ?_
    refine kp_sipush C dX10_clauseOfH_16 rfl ?_
    refine kp_ldcS (tx := "old ") (i := 3) C G (by decide +kernel) dX10_clauseOfH_19 ?_
    obtain ⟨r_3, σ_4, hc, hF⟩ := kp_bd_s hF
    refine kp_cv h (kp_rV (k := 0) (As := [kp_iv (-200), .ref (kp_sK X 3)]) (rest := []) C G h (kc_X10_much (by decide) hc) q4_150 q4_152 q0_3_1 q1_11 q4_153 ⟨rfl, hd_X10_much⟩ (by decide) kp_lM0 rfl rfl hl.1 rfl (Nat.le_of_ble_eq_true rfl) dX10_clauseOfH_21) (fun H locs h => ?_)
    refine kp_goto (tgt := 36) C dX10_clauseOfH_24 (by decide) ?_
    exact kp_retv (v := 0) C hr hlk G h dX10_clauseOfH_36 hF
def kf_X10_clauseHere   (σ_0 : kp_W) : kp_R :=
  kp_bd (kf_X10_here σ_0) (fun r_0 σ_1 => kp_eq r_0 97 (kp_bd (kf_X10_tellsHere 351 9 σ_1) (fun r_1 σ_2 => some (0, σ_2))) (kp_eq r_0 99 (kp_bd (kf_X10_tellsHere 341 7 σ_1) (fun r_2 σ_3 => some (0, σ_3))) (kp_eq r_0 103 (kp_bd (kf_X10_much (-10) 5 σ_1) (fun r_3 σ_4 => some (0, σ_4))) (kp_eq r_0 104 (kp_bd (kf_X10_clauseOfH σ_1) (fun r_4 σ_5 => some (0, σ_5))) (kp_eq r_0 105 (kp_bd (kf_X10_tellsHere 346 8 σ_1) (fun r_5 σ_6 => some (0, σ_6))) (kp_eq r_0 119 (kp_bd (kf_X10_tellsHere 336 6 σ_1) (fun r_6 σ_7 => some (0, σ_7))) (kp_lt (kp_up σ_1 0 7 1) (fun σ_8 => some (0, σ_8)))))))))
set_option maxRecDepth 100000 in
set_option maxHeartbeats 4000000 in
theorem kc_X10_clauseHere {l : Launch} {X : kp_X}  {σ_0 σ' : kp_W} {r : Int}   (hF : (kf_X10_clauseHere σ_0) = some (r, σ')) : kp_Met l yX10_clauseHere cX10_clauseHere 1 none 52 X kp_lM 10 σ_0 [.ref (kp_ad X 0)] (kp_Qv X kp_lM 10 σ') := by
  refine kp_body pnX10 (Nat.le_of_ble_eq_true rfl) ?_
  intro p e s m args below meth c ls C hr hlk G h hl
  unfold kf_X10_clauseHere at hF
  have hl : lv_has ls 1 [(0, .ref (kp_ad X 0))] := hl
  refine kp_aload_n C dX10_clauseHere_0 rfl (lv_at hl 0 rfl) ?_
  obtain ⟨r_0, σ_1, hc, hF⟩ := kp_bd_s hF
  refine kp_ci h (kp_rV (k := 0) (As := []) (rest := []) C G h (kc_X10_here  hc) q4_145 q4_147 q0_3_0 q1_11 q4_148 ⟨rfl, hd_X10_here⟩ (by decide) kp_lM0 rfl rfl hl.1 rfl (Nat.le_of_ble_eq_true rfl) dX10_clauseHere_1) (fun H locs h => ?_)
  obtain ⟨hx, -, ha, hb⟩ := kp_eq_s hF
  by_cases q0 : r_0 = 97
  · have hF := ha q0
    clear ha hb
    refine kp_look (tgt := 118) C dX10_clauseHere_4 (by decide) hx (by rw [q0]) (by decide) ?_
    refine kp_aload_n C dX10_clauseHere_118 rfl (lv_at hl 0 rfl) ?_
    refine kp_sipush C dX10_clauseHere_119 rfl ?_
    refine kp_ldcS (tx := "air ") (i := 9) C G (by decide +kernel) dX10_clauseHere_122 ?_
    obtain ⟨r_1, σ_2, hc, hF⟩ := kp_bd_s hF
    refine kp_cv h (kp_rV (k := 0) (As := [kp_iv 351, .ref (kp_sK X 9)]) (rest := []) C G h (kc_X10_tellsHere (by decide) hc) q4_196 q4_198 q0_3_11 q1_11 q4_199 ⟨rfl, hd_X10_tellsHere⟩ (by decide) kp_lM0 rfl rfl hl.1 rfl (Nat.le_of_ble_eq_true rfl) dX10_clauseHere_124) (fun H locs h => ?_)
    refine kp_goto (tgt := 135) C dX10_clauseHere_127 (by decide) ?_
    exact kp_retv (v := 0) C hr hlk G h dX10_clauseHere_135 hF
  · have hF := hb q0
    clear ha hb
    obtain ⟨hx, -, ha, hb⟩ := kp_eq_s hF
    by_cases q1 : r_0 = 99
    · have hF := ha q1
      clear ha hb
      refine kp_look (tgt := 94) C dX10_clauseHere_4 (by decide) hx (by rw [q1]) (by decide) ?_
      refine kp_aload_n C dX10_clauseHere_94 rfl (lv_at hl 0 rfl) ?_
      refine kp_sipush C dX10_clauseHere_95 rfl ?_
      refine kp_ldcS (tx := "cool ") (i := 7) C G (by decide +kernel) dX10_clauseHere_98 ?_
      obtain ⟨r_2, σ_3, hc, hF⟩ := kp_bd_s hF
      refine kp_cv h (kp_rV (k := 0) (As := [kp_iv 341, .ref (kp_sK X 7)]) (rest := []) C G h (kc_X10_tellsHere (by decide) hc) q4_196 q4_198 q0_3_11 q1_11 q4_199 ⟨rfl, hd_X10_tellsHere⟩ (by decide) kp_lM0 rfl rfl hl.1 rfl (Nat.le_of_ble_eq_true rfl) dX10_clauseHere_100) (fun H locs h => ?_)
      refine kp_goto (tgt := 135) C dX10_clauseHere_103 (by decide) ?_
      exact kp_retv (v := 0) C hr hlk G h dX10_clauseHere_135 hF
    · have hF := hb q1
      clear ha hb
      obtain ⟨hx, -, ha, hb⟩ := kp_eq_s hF
      by_cases q2 : r_0 = 103
      · have hF := ha q2
        clear ha hb
        refine kp_look (tgt := 64) C dX10_clauseHere_4 (by decide) hx (by rw [q2]) (by decide) ?_
        refine kp_aload_n C dX10_clauseHere_64 rfl (lv_at hl 0 rfl) ?_
        refine kp_bipush C dX10_clauseHere_65 rfl ?_
        refine kp_ldcS (tx := "grow ") (i := 5) C G (by decide +kernel) dX10_clauseHere_67 ?_
        obtain ⟨r_3, σ_4, hc, hF⟩ := kp_bd_s hF
        refine kp_cv h (kp_rV (k := 0) (As := [kp_iv (-10), .ref (kp_sK X 5)]) (rest := []) C G h (kc_X10_much (by decide) hc) q4_150 q4_152 q0_3_1 q1_11 q4_153 ⟨rfl, hd_X10_much⟩ (by decide) kp_lM0 rfl rfl hl.1 rfl (Nat.le_of_ble_eq_true rfl) dX10_clauseHere_69) (fun H locs h => ?_)
        refine kp_goto (tgt := 135) C dX10_clauseHere_72 (by decide) ?_
        exact kp_retv (v := 0) C hr hlk G h dX10_clauseHere_135 hF
      · have hF := hb q2
        clear ha hb
        obtain ⟨hx, -, ha, hb⟩ := kp_eq_s hF
        by_cases q3 : r_0 = 104
        · have hF := ha q3
          clear ha hb
          refine kp_look (tgt := 75) C dX10_clauseHere_4 (by decide) hx (by rw [q3]) (by decide) ?_
          refine kp_aload_n C dX10_clauseHere_75 rfl (lv_at hl 0 rfl) ?_
          obtain ⟨r_4, σ_5, hc, hF⟩ := kp_bd_s hF
          refine kp_cv h (kp_rV (k := 0) (As := []) (rest := []) C G h (kc_X10_clauseOfH  hc) q4_190 q4_192 q0_3_10 q1_11 q4_193 ⟨rfl, hd_X10_clauseOfH⟩ (by decide) kp_lM0 rfl rfl hl.1 rfl (Nat.le_of_ble_eq_true rfl) dX10_clauseHere_76) (fun H locs h => ?_)
          refine kp_goto (tgt := 135) C dX10_clauseHere_79 (by decide) ?_
          exact kp_retv (v := 0) C hr hlk G h dX10_clauseHere_135 hF
        · have hF := hb q3
          clear ha hb
          obtain ⟨hx, -, ha, hb⟩ := kp_eq_s hF
          by_cases q4 : r_0 = 105
          · have hF := ha q4
            clear ha hb
            refine kp_look (tgt := 106) C dX10_clauseHere_4 (by decide) hx (by rw [q4]) (by decide) ?_
            refine kp_aload_n C dX10_clauseHere_106 rfl (lv_at hl 0 rfl) ?_
            refine kp_sipush C dX10_clauseHere_107 rfl ?_
            refine kp_ldcS (tx := "iron ") (i := 8) C G (by decide +kernel) dX10_clauseHere_110 ?_
            obtain ⟨r_5, σ_6, hc, hF⟩ := kp_bd_s hF
            refine kp_cv h (kp_rV (k := 0) (As := [kp_iv 346, .ref (kp_sK X 8)]) (rest := []) C G h (kc_X10_tellsHere (by decide) hc) q4_196 q4_198 q0_3_11 q1_11 q4_199 ⟨rfl, hd_X10_tellsHere⟩ (by decide) kp_lM0 rfl rfl hl.1 rfl (Nat.le_of_ble_eq_true rfl) dX10_clauseHere_112) (fun H locs h => ?_)
            refine kp_goto (tgt := 135) C dX10_clauseHere_115 (by decide) ?_
            exact kp_retv (v := 0) C hr hlk G h dX10_clauseHere_135 hF
          · have hF := hb q4
            clear ha hb
            obtain ⟨hx, -, ha, hb⟩ := kp_eq_s hF
            by_cases q5 : r_0 = 119
            · have hF := ha q5
              clear ha hb
              refine kp_look (tgt := 82) C dX10_clauseHere_4 (by decide) hx (by rw [q5]) (by decide) ?_
              refine kp_aload_n C dX10_clauseHere_82 rfl (lv_at hl 0 rfl) ?_
              refine kp_sipush C dX10_clauseHere_83 rfl ?_
              refine kp_ldcS (tx := "warm ") (i := 6) C G (by decide +kernel) dX10_clauseHere_86 ?_
              obtain ⟨r_6, σ_7, hc, hF⟩ := kp_bd_s hF
              refine kp_cv h (kp_rV (k := 0) (As := [kp_iv 336, .ref (kp_sK X 6)]) (rest := []) C G h (kc_X10_tellsHere (by decide) hc) q4_196 q4_198 q0_3_11 q1_11 q4_199 ⟨rfl, hd_X10_tellsHere⟩ (by decide) kp_lM0 rfl rfl hl.1 rfl (Nat.le_of_ble_eq_true rfl) dX10_clauseHere_88) (fun H locs h => ?_)
              refine kp_goto (tgt := 135) C dX10_clauseHere_91 (by decide) ?_
              exact kp_retv (v := 0) C hr hlk G h dX10_clauseHere_135 hF
            · have hF := hb q5
              clear ha hb
              refine kp_look (off := 126) (tgt := 130) C dX10_clauseHere_4 (by decide) hx (by simp only [Op.lookupswitch.offset]; repeat rw [if_neg (by omega)]) (by decide) ?_
              refine kp_aload_n C dX10_clauseHere_130 rfl (lv_at hl 0 rfl) ?_
              refine kp_iconst C dX10_clauseHere_131 ?_
              have hF := kp_ck_i (c := (1 : Int) = 0 ∨ (1 : Int) = 1) (by decide) hF
              refine kp_putz C G h kp_lM0 rfl inWX10 tyX10 tyX10_ok nmX10 (j := 7) (by decide) q4_51 rfl rfl (by decide +kernel) dX10_clauseHere_132 hF (fun σ_8 H locs h hF => ?_)
              exact kp_retv (v := 0) C hr hlk G h dX10_clauseHere_135 hF
def kl_X10_house_145  : Nat → Int → kp_W → (kp_W → kp_R) → kp_R
  | 0, _, _, _ => none
  | n + 1, x1_1, σ_14, k => kp_eq (σ_14 0 7) 0 (kp_ls x1_1 10 (kp_bd (kf_X10_here σ_14) (fun r_1 σ_18 => kp_eq r_1 59 (kp_lt (kp_up σ_18 0 5 ((σ_18 0 5) + 1)) (fun σ_19 => kp_bd (kf_X10_clauseHere σ_19) (fun r_2 σ_20 => kp_lt (x1_1 + 1) (fun x1_2 => kl_X10_house_145 n x1_2 σ_20 k)))) (k σ_18))) (k σ_14)) (k σ_14)
def kf_X10_house   (σ_0 : kp_W) : kp_R :=
  kp_eq (σ_0 1 1) 5 (some ((-4), σ_0)) (kp_lt (kp_up σ_0 0 4 (σ_0 1 1)) (fun σ_1 => kp_lt (kp_up σ_1 0 6 (σ_1 1 3)) (fun σ_2 => kp_lt (kp_up σ_2 1 3 0) (fun σ_3 => kp_ck (0 ≤ (336 + (σ_3 0 4)) ∧ (336 + (σ_3 0 4)) < 1066) (kp_lt (kp_up σ_3 1 (Int.toNat (336 + (σ_3 0 4))) 3) (fun σ_4 => kp_ck (0 ≤ (341 + (σ_4 0 4)) ∧ (341 + (σ_4 0 4)) < 1066) (kp_lt (kp_up σ_4 1 (Int.toNat (341 + (σ_4 0 4))) 1) (fun σ_5 => kp_ck (0 ≤ (346 + (σ_5 0 4)) ∧ (346 + (σ_5 0 4)) < 1066) (kp_lt (kp_up σ_5 1 (Int.toNat (346 + (σ_5 0 4))) 1) (fun σ_6 => kp_ck (0 ≤ (351 + (σ_6 0 4)) ∧ (351 + (σ_6 0 4)) < 1066) (kp_lt (kp_up σ_6 1 (Int.toNat (351 + (σ_6 0 4))) 4) (fun σ_7 => kp_ck (0 ≤ (356 + (σ_7 0 4)) ∧ (356 + (σ_7 0 4)) < 1066) (kp_lt (kp_up σ_7 1 (Int.toNat (356 + (σ_7 0 4))) 1) (fun σ_8 => kp_ck (0 ≤ (361 + (σ_8 0 4)) ∧ (361 + (σ_8 0 4)) < 1066) (kp_lt (kp_up σ_8 1 (Int.toNat (361 + (σ_8 0 4))) 0) (fun σ_9 => kp_lt (kp_up σ_9 0 5 0) (fun σ_10 => kp_lt (kp_up σ_10 0 7 0) (fun σ_11 => kp_lt (kp_up σ_11 0 8 0) (fun σ_12 => kp_lt (1 : Int) (fun x1_0 => kp_bd (kf_X10_clauseHere σ_12) (fun r_0 σ_13 => kl_X10_house_145 kp_fu x1_0 σ_13 (fun (σ_15 : kp_W) => kp_eq (σ_15 0 7) 0 (kp_eq (σ_15 0 5) (σ_15 0 6) (kp_lt (kp_up σ_15 1 1 ((σ_15 1 1) + 1)) (fun σ_16 => kp_lt (kp_up σ_16 1 4 (σ_16 0 4)) (fun σ_17 => some ((σ_17 0 4), σ_17)))) (some (((-10) - (σ_15 0 5)), σ_15))) (some (((-10) - (σ_15 0 5)), σ_15))))))))))))))))))))))))
set_option maxRecDepth 100000 in
set_option maxHeartbeats 4000000 in
theorem kc_X10_house {l : Launch} {X : kp_X}  {σ_0 σ' : kp_W} {r : Int}   (hF : (kf_X10_house σ_0) = some (r, σ')) : kp_Met l yX10_house cX10_house 2 (some .int) 53 X kp_lM 10 σ_0 [.ref (kp_ad X 0)] (kp_Qi X kp_lM 10 σ' r) := by
  refine kp_body pnX10 (Nat.le_of_ble_eq_true rfl) ?_
  intro p e s m args below meth c ls C hr hlk G h hl
  unfold kf_X10_house at hF
  have hl : lv_has ls 2 [(0, .ref (kp_ad X 0))] := hl
  refine kp_aload_n C dX10_house_0 rfl (lv_at hl 0 rfl) ?_
  refine kp_getr C G h kp_lM0 rfl inWX10 (j := 1) (by decide) q4_45 rfl dX10_house_1 ?_
  refine kp_iconst C dX10_house_4 ?_
  refine kp_iald0 C G h (i := 1) (n := 1066) kp_lM1 (by decide) (by decide) dX10_house_5 ?_
  refine kp_iconst C dX10_house_6 ?_
  refine kp_icmp_ne (tgt := 13) C dX10_house_7 (by decide) hF (fun hF => ?_) (fun hF => ?_)
  · refine kp_aload_n C dX10_house_13 rfl (lv_at hl 0 rfl) ?_
    refine kp_aload_n C dX10_house_14 rfl (lv_at hl 0 rfl) ?_
    refine kp_getr C G h kp_lM0 rfl inWX10 (j := 1) (by decide) q4_45 rfl dX10_house_15 ?_
    refine kp_iconst C dX10_house_18 ?_
    refine kp_iald0 C G h (i := 1) (n := 1066) kp_lM1 (by decide) (by decide) dX10_house_19 ?_
    refine kp_puti C G h kp_lM0 rfl inWX10 tyX10 tyX10_ok nmX10 (j := 4) (by decide) q4_48 rfl rfl (by decide +kernel) dX10_house_20 hF (fun σ_1 H locs h hF => ?_)
    refine kp_aload_n C dX10_house_23 rfl (lv_at hl 0 rfl) ?_
    refine kp_aload_n C dX10_house_24 rfl (lv_at hl 0 rfl) ?_
    refine kp_getr C G h kp_lM0 rfl inWX10 (j := 1) (by decide) q4_45 rfl dX10_house_25 ?_
    refine kp_iconst C dX10_house_28 ?_
    refine kp_iald0 C G h (i := 3) (n := 1066) kp_lM1 (by decide) (by decide) dX10_house_29 ?_
    refine kp_puti C G h kp_lM0 rfl inWX10 tyX10 tyX10_ok nmX10 (j := 6) (by decide) q4_50 rfl rfl (by decide +kernel) dX10_house_30 hF (fun σ_2 H locs h hF => ?_)
    refine kp_aload_n C dX10_house_33 rfl (lv_at hl 0 rfl) ?_
    refine kp_getr C G h kp_lM0 rfl inWX10 (j := 1) (by decide) q4_45 rfl dX10_house_34 ?_
    refine kp_iconst C dX10_house_37 ?_
    refine kp_iconst C dX10_house_38 ?_
    have hF := kp_ck_i (c := 0 ≤ (3 : Int) ∧ (3 : Int) < 1066) (by decide) hF
    refine kp_iast C G h (n := 1066) kp_lM1 (by decide) dX10_house_39 hF (fun σ_3 H locs h hF => ?_)
    refine kp_aload_n C dX10_house_40 rfl (lv_at hl 0 rfl) ?_
    refine kp_getr C G h kp_lM0 rfl inWX10 (j := 1) (by decide) q4_45 rfl dX10_house_41 ?_
    refine kp_sipush C dX10_house_44 rfl ?_
    refine kp_aload_n C dX10_house_47 rfl (lv_at hl 0 rfl) ?_
    refine kp_geti C G h kp_lM0 rfl inWX10 (j := 4) (by decide) q4_48 rfl dX10_house_48 ?_
    refine kp_iadd C dX10_house_51 ?_
    refine kp_iconst C dX10_house_52 ?_
    refine kp_iast C G h (n := 1066) kp_lM1 (by decide) dX10_house_53 hF (fun σ_4 H locs h hF => ?_)
    refine kp_aload_n C dX10_house_54 rfl (lv_at hl 0 rfl) ?_
    refine kp_getr C G h kp_lM0 rfl inWX10 (j := 1) (by decide) q4_45 rfl dX10_house_55 ?_
    refine kp_sipush C dX10_house_58 rfl ?_
    refine kp_aload_n C dX10_house_61 rfl (lv_at hl 0 rfl) ?_
    refine kp_geti C G h kp_lM0 rfl inWX10 (j := 4) (by decide) q4_48 rfl dX10_house_62 ?_
    refine kp_iadd C dX10_house_65 ?_
    refine kp_iconst C dX10_house_66 ?_
    refine kp_iast C G h (n := 1066) kp_lM1 (by decide) dX10_house_67 hF (fun σ_5 H locs h hF => ?_)
    refine kp_aload_n C dX10_house_68 rfl (lv_at hl 0 rfl) ?_
    refine kp_getr C G h kp_lM0 rfl inWX10 (j := 1) (by decide) q4_45 rfl dX10_house_69 ?_
    refine kp_sipush C dX10_house_72 rfl ?_
    refine kp_aload_n C dX10_house_75 rfl (lv_at hl 0 rfl) ?_
    refine kp_geti C G h kp_lM0 rfl inWX10 (j := 4) (by decide) q4_48 rfl dX10_house_76 ?_
    refine kp_iadd C dX10_house_79 ?_
    refine kp_iconst C dX10_house_80 ?_
    refine kp_iast C G h (n := 1066) kp_lM1 (by decide) dX10_house_81 hF (fun σ_6 H locs h hF => ?_)
    refine kp_aload_n C dX10_house_82 rfl (lv_at hl 0 rfl) ?_
    refine kp_getr C G h kp_lM0 rfl inWX10 (j := 1) (by decide) q4_45 rfl dX10_house_83 ?_
    refine kp_sipush C dX10_house_86 rfl ?_
    refine kp_aload_n C dX10_house_89 rfl (lv_at hl 0 rfl) ?_
    refine kp_geti C G h kp_lM0 rfl inWX10 (j := 4) (by decide) q4_48 rfl dX10_house_90 ?_
    refine kp_iadd C dX10_house_93 ?_
    refine kp_iconst C dX10_house_94 ?_
    refine kp_iast C G h (n := 1066) kp_lM1 (by decide) dX10_house_95 hF (fun σ_7 H locs h hF => ?_)
    refine kp_aload_n C dX10_house_96 rfl (lv_at hl 0 rfl) ?_
    refine kp_getr C G h kp_lM0 rfl inWX10 (j := 1) (by decide) q4_45 rfl dX10_house_97 ?_
    refine kp_sipush C dX10_house_100 rfl ?_
    refine kp_aload_n C dX10_house_103 rfl (lv_at hl 0 rfl) ?_
    refine kp_geti C G h kp_lM0 rfl inWX10 (j := 4) (by decide) q4_48 rfl dX10_house_104 ?_
    refine kp_iadd C dX10_house_107 ?_
    refine kp_iconst C dX10_house_108 ?_
    refine kp_iast C G h (n := 1066) kp_lM1 (by decide) dX10_house_109 hF (fun σ_8 H locs h hF => ?_)
    refine kp_aload_n C dX10_house_110 rfl (lv_at hl 0 rfl) ?_
    refine kp_getr C G h kp_lM0 rfl inWX10 (j := 1) (by decide) q4_45 rfl dX10_house_111 ?_
    refine kp_sipush C dX10_house_114 rfl ?_
    refine kp_aload_n C dX10_house_117 rfl (lv_at hl 0 rfl) ?_
    refine kp_geti C G h kp_lM0 rfl inWX10 (j := 4) (by decide) q4_48 rfl dX10_house_118 ?_
    refine kp_iadd C dX10_house_121 ?_
    refine kp_iconst C dX10_house_122 ?_
    refine kp_iast C G h (n := 1066) kp_lM1 (by decide) dX10_house_123 hF (fun σ_9 H locs h hF => ?_)
    refine kp_aload_n C dX10_house_124 rfl (lv_at hl 0 rfl) ?_
    refine kp_iconst C dX10_house_125 ?_
    refine kp_puti C G h kp_lM0 rfl inWX10 tyX10 tyX10_ok nmX10 (j := 5) (by decide) q4_49 rfl rfl (by decide +kernel) dX10_house_126 hF (fun σ_10 H locs h hF => ?_)
    refine kp_aload_n C dX10_house_129 rfl (lv_at hl 0 rfl) ?_
    refine kp_iconst C dX10_house_130 ?_
    have hF := kp_ck_i (c := (0 : Int) = 0 ∨ (0 : Int) = 1) (by decide) hF
    refine kp_putz C G h kp_lM0 rfl inWX10 tyX10 tyX10_ok nmX10 (j := 7) (by decide) q4_51 rfl rfl (by decide +kernel) dX10_house_131 hF (fun σ_11 H locs h hF => ?_)
    refine kp_aload_n C dX10_house_134 rfl (lv_at hl 0 rfl) ?_
    refine kp_iconst C dX10_house_135 ?_
    refine kp_puti C G h kp_lM0 rfl inWX10 tyX10 tyX10_ok nmX10 (j := 8) (by decide) q4_52 rfl rfl (by decide +kernel) dX10_house_136 hF (fun σ_12 H locs h hF => ?_)
    refine kp_iconst C dX10_house_139 ?_
    refine kp_istore_n (lv' := fun x1_0 => [(1, kp_iv x1_0), (0, .ref (kp_ad X 0))]) C dX10_house_140 rfl hl (by decide) (fun _ => rfl) hF (fun x1_0 ls hl hF => ?_)
    refine kp_aload_n C dX10_house_141 rfl (lv_at hl 1 rfl) ?_
    obtain ⟨r_0, σ_13, hc, hF⟩ := kp_bd_s hF
    refine kp_cv h (kp_rV (k := 0) (As := []) (rest := []) C G h (kc_X10_clauseHere  hc) q4_141 q4_143 q0_2_15 q1_11 q4_144 ⟨rfl, hd_X10_clauseHere⟩ (by decide) kp_lM0 rfl rfl hl.1 rfl (Nat.le_of_ble_eq_true rfl) dX10_house_142) (fun H locs h => ?_)
    have L145 : ∀ (n : Nat) (x1_1 : Int) (σ_14 : kp_W) (k : kp_W → kp_R) (H : Heap) (locs : List Loc) (ls : Array Slot), kp_H X kp_lM 10 s σ_14 H locs → lv_has ls 2 [(0, .ref (kp_ad X 0)), (1, kp_iv x1_1)] → (∀ (σ_15 : kp_W) (H : Heap) (locs : List Loc) (ls : Array Slot), kp_H X kp_lM 10 s σ_15 H locs → lv_has ls 2 [(0, .ref (kp_ad X 0))] → k σ_15 = some (r, σ') → W p l e (kp_rm 53) s m args below meth c H locs 0 0 (MQ below (kp_Qi X kp_lM 10 σ' r) args s 0 0 (kp_A X 10)) (F0 m 187 ls [])) → kl_X10_house_145 n x1_1 σ_14 k = some (r, σ') → W p l e (kp_rm 53) s m args below meth c H locs 0 0 (MQ below (kp_Qi X kp_lM 10 σ' r) args s 0 0 (kp_A X 10)) (F0 m 145 ls []) := by
      intro n
      induction n with
      | zero =>
        intro x1_1 σ_14 k H locs ls h hl K hF
        rw [kl_X10_house_145] at hF
        cases hF
      | succ n ih =>
        intro x1_1 σ_14 k H locs ls h hl K hF
        rw [kl_X10_house_145] at hF
        refine kp_aload_n C dX10_house_145 rfl (lv_at hl 0 rfl) ?_
        refine kp_geti C G h kp_lM0 rfl inWX10 (j := 7) (by decide) q4_51 rfl dX10_house_146 ?_
        refine kp_if_ne (tgt := 187) C dX10_house_149 (by decide) hF (fun hF => ?_) (fun hF => ?_)
        · exact K _ _ _ _ h (lv_sub hl [0] rfl) hF
        · refine kp_iload_n C dX10_house_152 rfl (lv_at hl 1 rfl) ?_
          refine kp_bipush C dX10_house_153 rfl ?_
          refine kp_icmp_ge (tgt := 187) C dX10_house_155 (by decide) hF (fun hF => ?_) (fun hF => ?_)
          · exact K _ _ _ _ h (lv_sub hl [0] rfl) hF
          · refine kp_aload_n C dX10_house_158 rfl (lv_at hl 0 rfl) ?_
            obtain ⟨r_1, σ_18, hc, hF⟩ := kp_bd_s hF
            refine kp_ci h (kp_rV (k := 0) (As := []) (rest := []) C G h (kc_X10_here  hc) q4_145 q4_147 q0_3_0 q1_11 q4_148 ⟨rfl, hd_X10_here⟩ (by decide) kp_lM0 rfl rfl hl.1 rfl (Nat.le_of_ble_eq_true rfl) dX10_house_159) (fun H locs h => ?_)
            refine kp_bipush C dX10_house_162 rfl ?_
            refine kp_icmp_ne (tgt := 187) C dX10_house_164 (by decide) hF (fun hF => ?_) (fun hF => ?_)
            · exact K _ _ _ _ h (lv_sub hl [0] rfl) hF
            · refine kp_aload_n C dX10_house_167 rfl (lv_at hl 0 rfl) ?_
              refine kp_dup C dX10_house_168 rfl ?_
              refine kp_geti C G h kp_lM0 rfl inWX10 (j := 5) (by decide) q4_49 rfl dX10_house_169 ?_
              refine kp_iconst C dX10_house_172 ?_
              refine kp_iadd C dX10_house_173 ?_
              refine kp_puti C G h kp_lM0 rfl inWX10 tyX10 tyX10_ok nmX10 (j := 5) (by decide) q4_49 rfl rfl (by decide +kernel) dX10_house_174 hF (fun σ_19 H locs h hF => ?_)
              refine kp_aload_n C dX10_house_177 rfl (lv_at hl 0 rfl) ?_
              obtain ⟨r_2, σ_20, hc, hF⟩ := kp_bd_s hF
              refine kp_cv h (kp_rV (k := 0) (As := []) (rest := []) C G h (kc_X10_clauseHere  hc) q4_141 q4_143 q0_2_15 q1_11 q4_144 ⟨rfl, hd_X10_clauseHere⟩ (by decide) kp_lM0 rfl rfl hl.1 rfl (Nat.le_of_ble_eq_true rfl) dX10_house_178) (fun H locs h => ?_)
              refine kp_iinc (k := 1) (lv' := fun x1_2 => [(1, kp_iv x1_2), (0, .ref (kp_ad X 0))]) C dX10_house_181 hl rfl (by decide) (fun _ => rfl) hF (fun x1_2 ls hl hF => ?_)
              refine kp_goto (tgt := 145) C dX10_house_184 (by decide) ?_
              exact ih _ _ k _ _ _ h (lv_sub hl [1, 0] rfl) K hF
    refine L145 kp_fu _ _ _ _ _ _ h (lv_sub hl [1, 0] rfl) (fun σ_15 H locs ls h hl hF => ?_) hF
    clear L145
    refine kp_aload_n C dX10_house_187 rfl (lv_at hl 0 rfl) ?_
    refine kp_geti C G h kp_lM0 rfl inWX10 (j := 7) (by decide) q4_51 rfl dX10_house_188 ?_
    refine kp_if_ne (tgt := 205) C dX10_house_191 (by decide) hF (fun hF => ?_) (fun hF => ?_)
    · refine kp_bipush C dX10_house_205 rfl ?_
      refine kp_aload_n C dX10_house_207 rfl (lv_at hl 0 rfl) ?_
      refine kp_geti C G h kp_lM0 rfl inWX10 (j := 5) (by decide) q4_49 rfl dX10_house_208 ?_
      refine kp_isub C dX10_house_211 ?_
      exact kp_reti C hr hlk G h dX10_house_212 hF
    · refine kp_aload_n C dX10_house_194 rfl (lv_at hl 0 rfl) ?_
      refine kp_geti C G h kp_lM0 rfl inWX10 (j := 5) (by decide) q4_49 rfl dX10_house_195 ?_
      refine kp_aload_n C dX10_house_198 rfl (lv_at hl 0 rfl) ?_
      refine kp_geti C G h kp_lM0 rfl inWX10 (j := 6) (by decide) q4_50 rfl dX10_house_199 ?_
      refine kp_icmp_eq (tgt := 213) C dX10_house_202 (by decide) hF (fun hF => ?_) (fun hF => ?_)
      · refine kp_aload_n C dX10_house_213 rfl (lv_at hl 0 rfl) ?_
        refine kp_getr C G h kp_lM0 rfl inWX10 (j := 1) (by decide) q4_45 rfl dX10_house_214 ?_
        refine kp_iconst C dX10_house_217 ?_
        refine kp_dup2 C dX10_house_218 rfl rfl ?_
        refine kp_iald0 C G h (i := 1) (n := 1066) kp_lM1 (by decide) (by decide) dX10_house_219 ?_
        refine kp_iconst C dX10_house_220 ?_
        refine kp_iadd C dX10_house_221 ?_
        have hF := kp_ck_i (c := 0 ≤ (1 : Int) ∧ (1 : Int) < 1066) (by decide) hF
        refine kp_iast C G h (n := 1066) kp_lM1 (by decide) dX10_house_222 hF (fun σ_16 H locs h hF => ?_)
        refine kp_aload_n C dX10_house_223 rfl (lv_at hl 0 rfl) ?_
        refine kp_getr C G h kp_lM0 rfl inWX10 (j := 1) (by decide) q4_45 rfl dX10_house_224 ?_
        refine kp_iconst C dX10_house_227 ?_
        refine kp_aload_n C dX10_house_228 rfl (lv_at hl 0 rfl) ?_
        refine kp_geti C G h kp_lM0 rfl inWX10 (j := 4) (by decide) q4_48 rfl dX10_house_229 ?_
        have hF := kp_ck_i (c := 0 ≤ (4 : Int) ∧ (4 : Int) < 1066) (by decide) hF
        refine kp_iast C G h (n := 1066) kp_lM1 (by decide) dX10_house_232 hF (fun σ_17 H locs h hF => ?_)
        refine kp_aload_n C dX10_house_233 rfl (lv_at hl 0 rfl) ?_
        refine kp_geti C G h kp_lM0 rfl inWX10 (j := 4) (by decide) q4_48 rfl dX10_house_234 ?_
        exact kp_reti C hr hlk G h dX10_house_237 hF
      · refine kp_bipush C dX10_house_205 rfl ?_
        refine kp_aload_n C dX10_house_207 rfl (lv_at hl 0 rfl) ?_
        refine kp_geti C G h kp_lM0 rfl inWX10 (j := 5) (by decide) q4_49 rfl dX10_house_208 ?_
        refine kp_isub C dX10_house_211 ?_
        exact kp_reti C hr hlk G h dX10_house_212 hF
  · refine kp_bipush C dX10_house_10 rfl ?_
    exact kp_reti C hr hlk G h dX10_house_12 hF
def kf_X10_tellsOf  (a1 : Int) (a2 : Int) (σ_0 : kp_W) : kp_R :=
  kp_eq (σ_0 1 4) (-1) (some (a2, σ_0)) (kp_ck (0 ≤ (a1 + (σ_0 1 4)) ∧ (a1 + (σ_0 1 4)) < 1066) (some ((σ_0 1 (Int.toNat (a1 + (σ_0 1 4)))), σ_0)))
set_option maxRecDepth 100000 in
set_option maxHeartbeats 4000000 in
theorem kc_X10_tellsOf {l : Launch} {X : kp_X} {a1 : Int} {a2 : Int}  {σ_0 σ' : kp_W} {r : Int}   (hF : (kf_X10_tellsOf a1 a2 σ_0) = some (r, σ')) : kp_Met l yX10_tellsOf cX10_tellsOf 3 (some .int) 0 X kp_lM 10 σ_0 [.ref (kp_ad X 0), kp_iv a1, kp_iv a2] (kp_Qi X kp_lM 10 σ' r) := by
  refine kp_body pnX10 (Nat.le_of_ble_eq_true rfl) ?_
  intro p e s m args below meth c ls C hr hlk G h hl
  unfold kf_X10_tellsOf at hF
  have hl : lv_has ls 3 [(0, .ref (kp_ad X 0)), (1, kp_iv a1), (2, kp_iv a2)] := hl
  refine kp_aload_n C dX10_tellsOf_0 rfl (lv_at hl 0 rfl) ?_
  refine kp_getr C G h kp_lM0 rfl inWX10 (j := 1) (by decide) q4_45 rfl dX10_tellsOf_1 ?_
  refine kp_iconst C dX10_tellsOf_4 ?_
  refine kp_iald0 C G h (i := 4) (n := 1066) kp_lM1 (by decide) (by decide) dX10_tellsOf_5 ?_
  refine kp_iconst C dX10_tellsOf_6 ?_
  refine kp_icmp_ne (tgt := 14) C dX10_tellsOf_7 (by decide) hF (fun hF => ?_) (fun hF => ?_)
  · refine kp_aload_n C dX10_tellsOf_14 rfl (lv_at hl 0 rfl) ?_
    refine kp_getr C G h kp_lM0 rfl inWX10 (j := 1) (by decide) q4_45 rfl dX10_tellsOf_15 ?_
    refine kp_iload_n C dX10_tellsOf_18 rfl (lv_at hl 1 rfl) ?_
    refine kp_aload_n C dX10_tellsOf_19 rfl (lv_at hl 0 rfl) ?_
    refine kp_getr C G h kp_lM0 rfl inWX10 (j := 1) (by decide) q4_45 rfl dX10_tellsOf_20 ?_
    refine kp_iconst C dX10_tellsOf_23 ?_
    refine kp_iald0 C G h (i := 4) (n := 1066) kp_lM1 (by decide) (by decide) dX10_tellsOf_24 ?_
    refine kp_iadd C dX10_tellsOf_25 ?_
    refine kp_iald C G h (n := 1066) kp_lM1 (by decide) dX10_tellsOf_26 hF (fun hF => ?_)
    exact kp_reti C hr hlk G h dX10_tellsOf_27 hF
  · refine kp_iload_n C dX10_tellsOf_10 rfl (lv_at hl 2 rfl) ?_
    refine kp_goto (tgt := 27) C dX10_tellsOf_11 (by decide) ?_
    exact kp_reti C hr hlk G h dX10_tellsOf_27 hF
def kf_X10_told  (a1 : Int) (σ_0 : kp_W) : kp_R :=
  kp_eq a1 0 (kp_bd (kf_X10_tellsOf 336 3 σ_0) (fun r_0 σ_1 => some (r_0, σ_1))) (kp_eq a1 1 (kp_bd (kf_X10_tellsOf 341 1 σ_0) (fun r_1 σ_2 => some (r_1, σ_2))) (kp_eq a1 2 (kp_bd (kf_X10_tellsOf 346 1 σ_0) (fun r_2 σ_3 => some (r_2, σ_3))) (kp_eq a1 3 (kp_bd (kf_X10_tellsOf 351 4 σ_0) (fun r_3 σ_4 => some (r_3, σ_4))) (kp_eq a1 4 (kp_bd (kf_X10_tellsOf 356 1 σ_0) (fun r_4 σ_5 => some (r_4, σ_5))) (some ((-1), σ_0))))))
set_option maxRecDepth 100000 in
set_option maxHeartbeats 4000000 in
theorem kc_X10_told {l : Launch} {X : kp_X} {a1 : Int}  {σ_0 σ' : kp_W} {r : Int}   (hF : (kf_X10_told a1 σ_0) = some (r, σ')) : kp_Met l yX10_told cX10_told 2 (some .int) 1 X kp_lM 10 σ_0 [.ref (kp_ad X 0), kp_iv a1] (kp_Qi X kp_lM 10 σ' r) := by
  refine kp_body pnX10 (Nat.le_of_ble_eq_true rfl) ?_
  intro p e s m args below meth c ls C hr hlk G h hl
  unfold kf_X10_told at hF
  have hl : lv_has ls 2 [(0, .ref (kp_ad X 0)), (1, kp_iv a1)] := hl
  refine kp_iload_n C dX10_told_0 rfl (lv_at hl 1 rfl) ?_
  obtain ⟨hx, -, ha, hb⟩ := kp_eq_s hF
  by_cases q0 : a1 = 0
  · have hF := ha q0
    clear ha hb
    refine kp_tabIn (v := 0) (tgt := 36) C dX10_told_1 q0 (by decide) rfl (by decide) ?_
    refine kp_aload_n C dX10_told_36 rfl (lv_at hl 0 rfl) ?_
    refine kp_sipush C dX10_told_37 rfl ?_
    refine kp_iconst C dX10_told_40 ?_
    obtain ⟨r_0, σ_1, hc, hF⟩ := kp_bd_s hF
    refine kp_ci h (kp_rV (k := 0) (As := [kp_iv 336, kp_iv 3]) (rest := []) C G h (kc_X10_tellsOf  hc) q4_208 q4_210 q0_3_12 q1_11 q4_211 ⟨rfl, hd_X10_tellsOf⟩ (by decide) kp_lM0 rfl rfl hl.1 rfl (Nat.le_of_ble_eq_true rfl) dX10_told_41) (fun H locs h => ?_)
    exact kp_reti C hr hlk G h dX10_told_44 hF
  · have hF := hb q0
    clear ha hb
    obtain ⟨hx, -, ha, hb⟩ := kp_eq_s hF
    by_cases q1 : a1 = 1
    · have hF := ha q1
      clear ha hb
      refine kp_tabIn (v := 1) (tgt := 45) C dX10_told_1 q1 (by decide) rfl (by decide) ?_
      refine kp_aload_n C dX10_told_45 rfl (lv_at hl 0 rfl) ?_
      refine kp_sipush C dX10_told_46 rfl ?_
      refine kp_iconst C dX10_told_49 ?_
      obtain ⟨r_1, σ_2, hc, hF⟩ := kp_bd_s hF
      refine kp_ci h (kp_rV (k := 0) (As := [kp_iv 341, kp_iv 1]) (rest := []) C G h (kc_X10_tellsOf  hc) q4_208 q4_210 q0_3_12 q1_11 q4_211 ⟨rfl, hd_X10_tellsOf⟩ (by decide) kp_lM0 rfl rfl hl.1 rfl (Nat.le_of_ble_eq_true rfl) dX10_told_50) (fun H locs h => ?_)
      exact kp_reti C hr hlk G h dX10_told_53 hF
    · have hF := hb q1
      clear ha hb
      obtain ⟨hx, -, ha, hb⟩ := kp_eq_s hF
      by_cases q2 : a1 = 2
      · have hF := ha q2
        clear ha hb
        refine kp_tabIn (v := 2) (tgt := 54) C dX10_told_1 q2 (by decide) rfl (by decide) ?_
        refine kp_aload_n C dX10_told_54 rfl (lv_at hl 0 rfl) ?_
        refine kp_sipush C dX10_told_55 rfl ?_
        refine kp_iconst C dX10_told_58 ?_
        obtain ⟨r_2, σ_3, hc, hF⟩ := kp_bd_s hF
        refine kp_ci h (kp_rV (k := 0) (As := [kp_iv 346, kp_iv 1]) (rest := []) C G h (kc_X10_tellsOf  hc) q4_208 q4_210 q0_3_12 q1_11 q4_211 ⟨rfl, hd_X10_tellsOf⟩ (by decide) kp_lM0 rfl rfl hl.1 rfl (Nat.le_of_ble_eq_true rfl) dX10_told_59) (fun H locs h => ?_)
        exact kp_reti C hr hlk G h dX10_told_62 hF
      · have hF := hb q2
        clear ha hb
        obtain ⟨hx, -, ha, hb⟩ := kp_eq_s hF
        by_cases q3 : a1 = 3
        · have hF := ha q3
          clear ha hb
          refine kp_tabIn (v := 3) (tgt := 63) C dX10_told_1 q3 (by decide) rfl (by decide) ?_
          refine kp_aload_n C dX10_told_63 rfl (lv_at hl 0 rfl) ?_
          refine kp_sipush C dX10_told_64 rfl ?_
          refine kp_iconst C dX10_told_67 ?_
          obtain ⟨r_3, σ_4, hc, hF⟩ := kp_bd_s hF
          refine kp_ci h (kp_rV (k := 0) (As := [kp_iv 351, kp_iv 4]) (rest := []) C G h (kc_X10_tellsOf  hc) q4_208 q4_210 q0_3_12 q1_11 q4_211 ⟨rfl, hd_X10_tellsOf⟩ (by decide) kp_lM0 rfl rfl hl.1 rfl (Nat.le_of_ble_eq_true rfl) dX10_told_68) (fun H locs h => ?_)
          exact kp_reti C hr hlk G h dX10_told_71 hF
        · have hF := hb q3
          clear ha hb
          obtain ⟨hx, -, ha, hb⟩ := kp_eq_s hF
          by_cases q4 : a1 = 4
          · have hF := ha q4
            clear ha hb
            refine kp_tabIn (v := 4) (tgt := 72) C dX10_told_1 q4 (by decide) rfl (by decide) ?_
            refine kp_aload_n C dX10_told_72 rfl (lv_at hl 0 rfl) ?_
            refine kp_sipush C dX10_told_73 rfl ?_
            refine kp_iconst C dX10_told_76 ?_
            obtain ⟨r_4, σ_5, hc, hF⟩ := kp_bd_s hF
            refine kp_ci h (kp_rV (k := 0) (As := [kp_iv 356, kp_iv 1]) (rest := []) C G h (kc_X10_tellsOf  hc) q4_208 q4_210 q0_3_12 q1_11 q4_211 ⟨rfl, hd_X10_tellsOf⟩ (by decide) kp_lM0 rfl rfl hl.1 rfl (Nat.le_of_ble_eq_true rfl) dX10_told_77) (fun H locs h => ?_)
            exact kp_reti C hr hlk G h dX10_told_80 hF
          · have hF := hb q4
            clear ha hb
            refine kp_tabOut (tgt := 81) C dX10_told_1 hx (by omega) (by decide) ?_
            refine kp_iconst C dX10_told_81 ?_
            exact kp_reti C hr hlk G h dX10_told_82 hF
def kl_X10_looksAt_109 (x3_0 : Int) (x4_0 : Int) : Nat → Int → Int → kp_W → (kp_W → kp_R) → kp_R
  | 0, _, _, _, _ => none
  | n + 1, x5_1, x6_1, σ_10, k => kp_ls x6_1 (x4_0 + x3_0) (kp_ck (0 ≤ x6_1 ∧ x6_1 < 1066) (kp_lt ((σ_10 1 (Int.toNat x6_1)) : Int) (fun x7_0 => kp_ls x7_0 0 (kp_eq x7_0 (-1) (kp_ck (0 ≤ (x5_1 - 1) ∧ (x5_1 - 1) < 64) (kp_eq (σ_10 4 (Int.toNat (x5_1 - 1))) 0 (kp_ck (0 ≤ (x5_1 - 1) ∧ (x5_1 - 1) < 64) (kp_lt (kp_up σ_10 4 (Int.toNat (x5_1 - 1)) 1) (fun σ_26 => kp_lt (x6_1 + 1) (fun x6_12 => kl_X10_looksAt_109 x3_0 x4_0 n x5_1 x6_12 σ_26 k)))) (kp_ck (0 ≤ (x5_1 - 1) ∧ (x5_1 - 1) < 64) (kp_lt (kp_up σ_10 4 (Int.toNat (x5_1 - 1)) 0) (fun σ_25 => kp_lt (x6_1 + 1) (fun x6_11 => kl_X10_looksAt_109 x3_0 x4_0 n x5_1 x6_11 σ_25 k)))))) (kp_ls (-10) x7_0 (kp_lt (x5_1 + (-1)) (fun x5_3 => kp_eq x7_0 (-2) (kp_ck (0 ≤ (x5_3 - 1) ∧ (x5_3 - 1) < 64) (kp_jn (fun (x6_8 : Int) (σ_22 : kp_W) => kp_ck (0 ≤ (x5_3 - 1) ∧ (x5_3 - 1) < 64) (kp_lt (kp_up σ_22 4 (Int.toNat (x5_3 - 1)) 0) (fun σ_23 => kp_lt (x6_8 + 1) (fun x6_9 => kl_X10_looksAt_109 x3_0 x4_0 n x5_3 x6_9 σ_23 k)))) (fun j312 => kp_eq (σ_10 4 (Int.toNat (x5_3 - 1))) 0 (j312 x6_1 σ_10) (kp_ck (0 ≤ x5_3 ∧ x5_3 < 64) (kp_eq (σ_10 4 (Int.toNat x5_3)) 0 (j312 x6_1 σ_10) (kp_ck (0 ≤ (x5_3 - 1) ∧ (x5_3 - 1) < 64) (kp_lt (kp_up σ_10 4 (Int.toNat (x5_3 - 1)) 1) (fun σ_24 => kp_lt (x6_1 + 1) (fun x6_10 => kl_X10_looksAt_109 x3_0 x4_0 n x5_3 x6_10 σ_24 k))))))))) (kp_ck (0 ≤ (x5_3 - 1) ∧ (x5_3 - 1) < 64) (kp_jn (fun (x6_5 : Int) (σ_19 : kp_W) => kp_ck (0 ≤ (x5_3 - 1) ∧ (x5_3 - 1) < 64) (kp_lt (kp_up σ_19 4 (Int.toNat (x5_3 - 1)) 1) (fun σ_20 => kp_lt (x6_5 + 1) (fun x6_6 => kl_X10_looksAt_109 x3_0 x4_0 n x5_3 x6_6 σ_20 k)))) (fun j338 => kp_eq (σ_10 4 (Int.toNat (x5_3 - 1))) 0 (kp_ck (0 ≤ x5_3 ∧ x5_3 < 64) (kp_eq (σ_10 4 (Int.toNat x5_3)) 0 (kp_ck (0 ≤ (x5_3 - 1) ∧ (x5_3 - 1) < 64) (kp_lt (kp_up σ_10 4 (Int.toNat (x5_3 - 1)) 0) (fun σ_21 => kp_lt (x6_1 + 1) (fun x6_7 => kl_X10_looksAt_109 x3_0 x4_0 n x5_3 x6_7 σ_21 k)))) (j338 x6_1 σ_10))) (j338 x6_1 σ_10)))))) (kp_lt (0 : Int) (fun x5_2 => kp_jn (fun (v_0 : Int) => kp_ck (v_0 = 0 ∨ v_0 = 1) (kp_lt (kp_up σ_10 0 13 v_0) (fun σ_14 => kp_jn (fun (v_1 : Int) => kp_lt (kp_up σ_14 0 11 ((σ_14 0 11) + v_1)) (fun σ_15 => kp_eq (σ_15 4 0) 0 (kp_lt (kp_up σ_15 0 12 ((σ_15 0 12) + 0)) (fun σ_16 => kp_lt (x6_1 + 1) (fun x6_2 => kl_X10_looksAt_109 x3_0 x4_0 n x5_2 x6_2 σ_16 k))) (kp_ls (-200) x7_0 (kp_lt (kp_up σ_15 0 12 ((σ_15 0 12) + 0)) (fun σ_17 => kp_lt (x6_1 + 1) (fun x6_3 => kl_X10_looksAt_109 x3_0 x4_0 n x5_2 x6_3 σ_17 k))) (kp_lt (kp_up σ_15 0 12 ((σ_15 0 12) + ((-200) - x7_0))) (fun σ_18 => kp_lt (x6_1 + 1) (fun x6_4 => kl_X10_looksAt_109 x3_0 x4_0 n x5_2 x6_4 σ_18 k)))))) (fun j406 => kp_jn (fun (_ : Unit) => j406 0) (fun j405 => kp_eq (σ_14 4 0) 0 (j405 ()) (kp_ls (-200) x7_0 (j406 ((-10) - x7_0)) (j405 ()))))))) (fun j372 => kp_jn (fun (_ : Unit) => j372 1) (fun j367 => kp_eq (σ_10 0 13) 0 (kp_eq (σ_10 4 0) 0 (j372 0) (j367 ())) (j367 ()))))))) (kp_ck (0 ≤ x7_0 ∧ x7_0 ≤ 2147483647 ∧ 0 < (8 : Int) ∧ (8 : Int) ≤ 2147483647) (kp_ck (0 ≤ (x7_0 % 8) ∧ (x7_0 % 8) < 5) (kp_lt ((σ_10 3 (Int.toNat (x7_0 % 8))) : Int) (fun x8_0 => kp_ck (0 ≤ x7_0 ∧ x7_0 ≤ 2147483647 ∧ 0 < (8 : Int) ∧ (8 : Int) ≤ 2147483647) (kp_ck (0 ≤ (x7_0 / 8) ∧ (x7_0 / 8) ≤ 2147483647 ∧ 0 < (4 : Int) ∧ (4 : Int) ≤ 2147483647) (kp_lt (((x7_0 / 8) % 4) : Int) (fun x9_0 => kp_ck (0 ≤ x7_0 ∧ x7_0 ≤ 2147483647 ∧ 0 < (32 : Int) ∧ (32 : Int) ≤ 2147483647) (kp_lt ((x7_0 / 32) : Int) (fun x10_0 => kp_eq x9_0 0 (kp_ls x8_0 x10_0 (kp_ck (0 ≤ x5_1 ∧ x5_1 < 64) (kp_lt (kp_up σ_10 4 (Int.toNat x5_1) 1) (fun σ_32 => kp_lt (x5_1 + 1) (fun x5_9 => kp_lt (x6_1 + 1) (fun x6_18 => kl_X10_looksAt_109 x3_0 x4_0 n x5_9 x6_18 σ_32 k))))) (kp_ck (0 ≤ x5_1 ∧ x5_1 < 64) (kp_lt (kp_up σ_10 4 (Int.toNat x5_1) 0) (fun σ_31 => kp_lt (x5_1 + 1) (fun x5_8 => kp_lt (x6_1 + 1) (fun x6_17 => kl_X10_looksAt_109 x3_0 x4_0 n x5_8 x6_17 σ_31 k)))))) (kp_eq x9_0 1 (kp_eq x8_0 x10_0 (kp_ck (0 ≤ x5_1 ∧ x5_1 < 64) (kp_lt (kp_up σ_10 4 (Int.toNat x5_1) 1) (fun σ_30 => kp_lt (x5_1 + 1) (fun x5_7 => kp_lt (x6_1 + 1) (fun x6_16 => kl_X10_looksAt_109 x3_0 x4_0 n x5_7 x6_16 σ_30 k))))) (kp_ck (0 ≤ x5_1 ∧ x5_1 < 64) (kp_lt (kp_up σ_10 4 (Int.toNat x5_1) 0) (fun σ_29 => kp_lt (x5_1 + 1) (fun x5_6 => kp_lt (x6_1 + 1) (fun x6_15 => kl_X10_looksAt_109 x3_0 x4_0 n x5_6 x6_15 σ_29 k)))))) (kp_ls x10_0 x8_0 (kp_ck (0 ≤ x5_1 ∧ x5_1 < 64) (kp_lt (kp_up σ_10 4 (Int.toNat x5_1) 1) (fun σ_28 => kp_lt (x5_1 + 1) (fun x5_5 => kp_lt (x6_1 + 1) (fun x6_14 => kl_X10_looksAt_109 x3_0 x4_0 n x5_5 x6_14 σ_28 k))))) (kp_ck (0 ≤ x5_1 ∧ x5_1 < 64) (kp_lt (kp_up σ_10 4 (Int.toNat x5_1) 0) (fun σ_27 => kp_lt (x5_1 + 1) (fun x5_4 => kp_lt (x6_1 + 1) (fun x6_13 => kl_X10_looksAt_109 x3_0 x4_0 n x5_4 x6_13 σ_27 k))))))))))))))))))) (k σ_10)
def kf_X10_looksAt  (a1 : Int) (a2 : Int) (σ_0 : kp_W) : kp_R :=
  kp_lt (kp_up σ_0 3 0 a1) (fun σ_1 => kp_ck (0 ≤ (260 + a1) ∧ (260 + a1) < 1066) (kp_lt (kp_up σ_1 3 1 (σ_1 1 (Int.toNat (260 + a1)))) (fun σ_2 => kp_ck (0 ≤ (250 + a1) ∧ (250 + a1) < 1066) (kp_lt (kp_up σ_2 3 2 (σ_2 1 (Int.toNat (250 + a1)))) (fun σ_3 => kp_ck (0 ≤ (270 + a1) ∧ (270 + a1) < 1066) (kp_lt (kp_up σ_3 3 3 (σ_3 1 (Int.toNat (270 + a1)))) (fun σ_4 => kp_lt (kp_up σ_4 3 4 a2) (fun σ_5 => kp_lt (kp_up σ_5 0 11 0) (fun σ_6 => kp_lt (kp_up σ_6 0 12 0) (fun σ_7 => kp_lt (kp_up σ_7 0 13 0) (fun σ_8 => kp_bd (kf_X10_tellsOf 361 0 σ_8) (fun r_0 σ_9 => kp_lt (r_0 : Int) (fun x3_0 => kp_lt ((366 + (140 * (σ_9 1 4))) : Int) (fun x4_0 => kp_lt (0 : Int) (fun x5_0 => kp_lt (x4_0 : Int) (fun x6_0 => kl_X10_looksAt_109 x3_0 x4_0 kp_fu x5_0 x6_0 σ_9 (fun (σ_11 : kp_W) => kp_ls (σ_11 0 12) 1 (kp_lt (kp_up σ_11 0 12 1) (fun σ_13 => some (0, σ_13))) (kp_lt (kp_up σ_11 0 12 (σ_11 0 12)) (fun σ_12 => some (0, σ_12))))))))))))))))))))
set_option maxRecDepth 100000 in
set_option maxHeartbeats 4000000 in
theorem kc_X10_looksAt {l : Launch} {X : kp_X} {a1 : Int} {a2 : Int}  {σ_0 σ' : kp_W} {r : Int}   (hF : (kf_X10_looksAt a1 a2 σ_0) = some (r, σ')) : kp_Met l yX10_looksAt cX10_looksAt 11 none 1 X kp_lM 10 σ_0 [.ref (kp_ad X 0), kp_iv a1, kp_iv a2] (kp_Qv X kp_lM 10 σ') := by
  refine kp_body pnX10 (Nat.le_of_ble_eq_true rfl) ?_
  intro p e s m args below meth c ls C hr hlk G h hl
  unfold kf_X10_looksAt at hF
  have hl : lv_has ls 11 [(0, .ref (kp_ad X 0)), (1, kp_iv a1), (2, kp_iv a2)] := hl
  refine kp_aload_n C dX10_looksAt_0 rfl (lv_at hl 0 rfl) ?_
  refine kp_getr C G h kp_lM0 rfl inWX10 (j := 9) (by decide) q4_53 rfl dX10_looksAt_1 ?_
  refine kp_iconst C dX10_looksAt_4 ?_
  refine kp_iload_n C dX10_looksAt_5 rfl (lv_at hl 1 rfl) ?_
  have hF := kp_ck_i (c := 0 ≤ (0 : Int) ∧ (0 : Int) < 5) (by decide) hF
  refine kp_iast C G h (n := 5) kp_lM3 (by decide) dX10_looksAt_6 hF (fun σ_1 H locs h hF => ?_)
  refine kp_aload_n C dX10_looksAt_7 rfl (lv_at hl 0 rfl) ?_
  refine kp_getr C G h kp_lM0 rfl inWX10 (j := 9) (by decide) q4_53 rfl dX10_looksAt_8 ?_
  refine kp_iconst C dX10_looksAt_11 ?_
  refine kp_aload_n C dX10_looksAt_12 rfl (lv_at hl 0 rfl) ?_
  refine kp_getr C G h kp_lM0 rfl inWX10 (j := 1) (by decide) q4_45 rfl dX10_looksAt_13 ?_
  refine kp_sipush C dX10_looksAt_16 rfl ?_
  refine kp_iload_n C dX10_looksAt_19 rfl (lv_at hl 1 rfl) ?_
  refine kp_iadd C dX10_looksAt_20 ?_
  refine kp_iald C G h (n := 1066) kp_lM1 (by decide) dX10_looksAt_21 hF (fun hF => ?_)
  have hF := kp_ck_i (c := 0 ≤ (1 : Int) ∧ (1 : Int) < 5) (by decide) hF
  refine kp_iast C G h (n := 5) kp_lM3 (by decide) dX10_looksAt_22 hF (fun σ_2 H locs h hF => ?_)
  refine kp_aload_n C dX10_looksAt_23 rfl (lv_at hl 0 rfl) ?_
  refine kp_getr C G h kp_lM0 rfl inWX10 (j := 9) (by decide) q4_53 rfl dX10_looksAt_24 ?_
  refine kp_iconst C dX10_looksAt_27 ?_
  refine kp_aload_n C dX10_looksAt_28 rfl (lv_at hl 0 rfl) ?_
  refine kp_getr C G h kp_lM0 rfl inWX10 (j := 1) (by decide) q4_45 rfl dX10_looksAt_29 ?_
  refine kp_sipush C dX10_looksAt_32 rfl ?_
  refine kp_iload_n C dX10_looksAt_35 rfl (lv_at hl 1 rfl) ?_
  refine kp_iadd C dX10_looksAt_36 ?_
  refine kp_iald C G h (n := 1066) kp_lM1 (by decide) dX10_looksAt_37 hF (fun hF => ?_)
  have hF := kp_ck_i (c := 0 ≤ (2 : Int) ∧ (2 : Int) < 5) (by decide) hF
  refine kp_iast C G h (n := 5) kp_lM3 (by decide) dX10_looksAt_38 hF (fun σ_3 H locs h hF => ?_)
  refine kp_aload_n C dX10_looksAt_39 rfl (lv_at hl 0 rfl) ?_
  refine kp_getr C G h kp_lM0 rfl inWX10 (j := 9) (by decide) q4_53 rfl dX10_looksAt_40 ?_
  refine kp_iconst C dX10_looksAt_43 ?_
  refine kp_aload_n C dX10_looksAt_44 rfl (lv_at hl 0 rfl) ?_
  refine kp_getr C G h kp_lM0 rfl inWX10 (j := 1) (by decide) q4_45 rfl dX10_looksAt_45 ?_
  refine kp_sipush C dX10_looksAt_48 rfl ?_
  refine kp_iload_n C dX10_looksAt_51 rfl (lv_at hl 1 rfl) ?_
  refine kp_iadd C dX10_looksAt_52 ?_
  refine kp_iald C G h (n := 1066) kp_lM1 (by decide) dX10_looksAt_53 hF (fun hF => ?_)
  have hF := kp_ck_i (c := 0 ≤ (3 : Int) ∧ (3 : Int) < 5) (by decide) hF
  refine kp_iast C G h (n := 5) kp_lM3 (by decide) dX10_looksAt_54 hF (fun σ_4 H locs h hF => ?_)
  refine kp_aload_n C dX10_looksAt_55 rfl (lv_at hl 0 rfl) ?_
  refine kp_getr C G h kp_lM0 rfl inWX10 (j := 9) (by decide) q4_53 rfl dX10_looksAt_56 ?_
  refine kp_iconst C dX10_looksAt_59 ?_
  refine kp_iload_n C dX10_looksAt_60 rfl (lv_at hl 2 rfl) ?_
  have hF := kp_ck_i (c := 0 ≤ (4 : Int) ∧ (4 : Int) < 5) (by decide) hF
  refine kp_iast C G h (n := 5) kp_lM3 (by decide) dX10_looksAt_61 hF (fun σ_5 H locs h hF => ?_)
  refine kp_aload_n C dX10_looksAt_62 rfl (lv_at hl 0 rfl) ?_
  refine kp_iconst C dX10_looksAt_63 ?_
  refine kp_puti C G h kp_lM0 rfl inWX10 tyX10 tyX10_ok nmX10 (j := 11) (by decide) q4_55 rfl rfl (by decide +kernel) dX10_looksAt_64 hF (fun σ_6 H locs h hF => ?_)
  refine kp_aload_n C dX10_looksAt_67 rfl (lv_at hl 0 rfl) ?_
  refine kp_iconst C dX10_looksAt_68 ?_
  refine kp_puti C G h kp_lM0 rfl inWX10 tyX10 tyX10_ok nmX10 (j := 12) (by decide) q4_56 rfl rfl (by decide +kernel) dX10_looksAt_69 hF (fun σ_7 H locs h hF => ?_)
  refine kp_aload_n C dX10_looksAt_72 rfl (lv_at hl 0 rfl) ?_
  refine kp_iconst C dX10_looksAt_73 ?_
  have hF := kp_ck_i (c := (0 : Int) = 0 ∨ (0 : Int) = 1) (by decide) hF
  refine kp_putz C G h kp_lM0 rfl inWX10 tyX10 tyX10_ok nmX10 (j := 13) (by decide) q4_57 rfl rfl (by decide +kernel) dX10_looksAt_74 hF (fun σ_8 H locs h hF => ?_)
  refine kp_aload_n C dX10_looksAt_77 rfl (lv_at hl 0 rfl) ?_
  refine kp_sipush C dX10_looksAt_78 rfl ?_
  refine kp_iconst C dX10_looksAt_81 ?_
  obtain ⟨r_0, σ_9, hc, hF⟩ := kp_bd_s hF
  refine kp_ci h (kp_rV (k := 0) (As := [kp_iv 361, kp_iv 0]) (rest := []) C G h (kc_X10_tellsOf  hc) q4_208 q4_210 q0_3_12 q1_11 q4_211 ⟨rfl, hd_X10_tellsOf⟩ (by decide) kp_lM0 rfl rfl hl.1 rfl (Nat.le_of_ble_eq_true rfl) dX10_looksAt_82) (fun H locs h => ?_)
  refine kp_istore_n (lv' := fun x3_0 => [(3, kp_iv x3_0), (0, .ref (kp_ad X 0)), (1, kp_iv a1), (2, kp_iv a2)]) C dX10_looksAt_85 rfl hl (by decide) (fun _ => rfl) hF (fun x3_0 ls hl hF => ?_)
  refine kp_sipush C dX10_looksAt_86 rfl ?_
  refine kp_sipush C dX10_looksAt_89 rfl ?_
  refine kp_aload_n C dX10_looksAt_92 rfl (lv_at hl 1 rfl) ?_
  refine kp_getr C G h kp_lM0 rfl inWX10 (j := 1) (by decide) q4_45 rfl dX10_looksAt_93 ?_
  refine kp_iconst C dX10_looksAt_96 ?_
  refine kp_iald0 C G h (i := 4) (n := 1066) kp_lM1 (by decide) (by decide) dX10_looksAt_97 ?_
  refine kp_imul C dX10_looksAt_98 ?_
  refine kp_iadd C dX10_looksAt_99 ?_
  refine kp_istore (lv' := fun x4_0 => [(4, kp_iv x4_0), (3, kp_iv x3_0), (0, .ref (kp_ad X 0)), (1, kp_iv a1), (2, kp_iv a2)]) C dX10_looksAt_100 hl (by decide) (fun _ => rfl) hF (fun x4_0 ls hl hF => ?_)
  refine kp_iconst C dX10_looksAt_102 ?_
  refine kp_istore (lv' := fun x5_0 => [(5, kp_iv x5_0), (4, kp_iv x4_0), (3, kp_iv x3_0), (0, .ref (kp_ad X 0)), (1, kp_iv a1), (2, kp_iv a2)]) C dX10_looksAt_103 hl (by decide) (fun _ => rfl) hF (fun x5_0 ls hl hF => ?_)
  refine kp_iload C dX10_looksAt_105 (lv_at hl 1 rfl) ?_
  refine kp_istore (lv' := fun x6_0 => [(6, kp_iv x6_0), (5, kp_iv x5_0), (4, kp_iv x4_0), (3, kp_iv x3_0), (0, .ref (kp_ad X 0)), (1, kp_iv a1), (2, kp_iv a2)]) C dX10_looksAt_107 hl (by decide) (fun _ => rfl) hF (fun x6_0 ls hl hF => ?_)
  have L109 : ∀ (n : Nat) (x5_1 : Int) (x6_1 : Int) (σ_10 : kp_W) (k : kp_W → kp_R) (H : Heap) (locs : List Loc) (ls : Array Slot), kp_H X kp_lM 10 s σ_10 H locs → lv_has ls 11 [(0, .ref (kp_ad X 0)), (3, kp_iv x3_0), (4, kp_iv x4_0), (5, kp_iv x5_1), (6, kp_iv x6_1)] → (∀ (σ_11 : kp_W) (H : Heap) (locs : List Loc) (ls : Array Slot), kp_H X kp_lM 10 s σ_11 H locs → lv_has ls 11 [(0, .ref (kp_ad X 0))] → k σ_11 = some (r, σ') → W p l e (kp_rm 1) s m args below meth c H locs 0 0 (MQ below (kp_Qv X kp_lM 10 σ') args s 0 0 (kp_A X 10)) (F0 m 452 ls [])) → kl_X10_looksAt_109 x3_0 x4_0 n x5_1 x6_1 σ_10 k = some (r, σ') → W p l e (kp_rm 1) s m args below meth c H locs 0 0 (MQ below (kp_Qv X kp_lM 10 σ') args s 0 0 (kp_A X 10)) (F0 m 109 ls []) := by
    intro n
    induction n with
    | zero =>
      intro x5_1 x6_1 σ_10 k H locs ls h hl K hF
      rw [kl_X10_looksAt_109] at hF
      cases hF
    | succ n ih =>
      intro x5_1 x6_1 σ_10 k H locs ls h hl K hF
      rw [kl_X10_looksAt_109] at hF
      refine kp_iload C dX10_looksAt_109 (lv_at hl 4 rfl) ?_
      refine kp_iload C dX10_looksAt_111 (lv_at hl 2 rfl) ?_
      refine kp_iload_n C dX10_looksAt_113 rfl (lv_at hl 1 rfl) ?_
      refine kp_iadd C dX10_looksAt_114 ?_
      refine kp_icmp_ge (tgt := 452) C dX10_looksAt_115 (by decide) hF (fun hF => ?_) (fun hF => ?_)
      · exact K _ _ _ _ h (lv_sub hl [0] rfl) hF
      · refine kp_aload_n C dX10_looksAt_118 rfl (lv_at hl 0 rfl) ?_
        refine kp_getr C G h kp_lM0 rfl inWX10 (j := 1) (by decide) q4_45 rfl dX10_looksAt_119 ?_
        refine kp_iload C dX10_looksAt_122 (lv_at hl 4 rfl) ?_
        refine kp_iald C G h (n := 1066) kp_lM1 (by decide) dX10_looksAt_124 hF (fun hF => ?_)
        refine kp_istore (lv' := fun x7_0 => [(7, kp_iv x7_0), (0, .ref (kp_ad X 0)), (3, kp_iv x3_0), (4, kp_iv x4_0), (5, kp_iv x5_1), (6, kp_iv x6_1)]) C dX10_looksAt_125 hl (by decide) (fun _ => rfl) hF (fun x7_0 ls hl hF => ?_)
        refine kp_iload C dX10_looksAt_127 (lv_at hl 0 rfl) ?_
        refine kp_if_lt (tgt := 226) C dX10_looksAt_129 (by decide) hF (fun hF => ?_) (fun hF => ?_)
        · refine kp_iload C dX10_looksAt_226 (lv_at hl 0 rfl) ?_
          refine kp_iconst C dX10_looksAt_228 ?_
          refine kp_icmp_ne (tgt := 261) C dX10_looksAt_229 (by decide) hF (fun hF => ?_) (fun hF => ?_)
          · refine kp_iload C dX10_looksAt_261 (lv_at hl 0 rfl) ?_
            refine kp_bipush C dX10_looksAt_263 rfl ?_
            refine kp_icmp_le (tgt := 347) C dX10_looksAt_265 (by decide) hF (fun hF => ?_) (fun hF => ?_)
            · refine kp_iconst C dX10_looksAt_347 ?_
              refine kp_istore (lv' := fun x5_2 => [(5, kp_iv x5_2), (7, kp_iv x7_0), (0, .ref (kp_ad X 0)), (3, kp_iv x3_0), (4, kp_iv x4_0), (6, kp_iv x6_1)]) C dX10_looksAt_348 hl (by decide) (fun _ => rfl) hF (fun x5_2 ls hl hF => ?_)
              refine kp_aload_n C dX10_looksAt_350 rfl (lv_at hl 2 rfl) ?_
              refine kp_aload_n C dX10_looksAt_351 rfl (lv_at hl 2 rfl) ?_
              refine kp_geti C G h kp_lM0 rfl inWX10 (j := 13) (by decide) q4_57 rfl dX10_looksAt_352 ?_
              obtain ⟨j372, ej372, hF⟩ := kp_jn_s hF
              have J372 : ∀ (v_0 : Int), ∀ (H : Heap) (locs : List Loc) (ls : Array Slot), kp_H X kp_lM 10 s σ_10 H locs → lv_has ls 11 [(0, .ref (kp_ad X 0)), (3, kp_iv x3_0), (4, kp_iv x4_0), (5, kp_iv x5_2), (6, kp_iv x6_1), (7, kp_iv x7_0)] → j372 v_0 = some (r, σ') → W p l e (kp_rm 1) s m args below meth c H locs 0 0 (MQ below (kp_Qv X kp_lM 10 σ') args s 0 0 (kp_A X 10)) (F0 m 372 ls [kp_iv v_0, .ref (kp_ad X 0)]) := by
                intro v_0 H locs ls h hl hF
                rw [ej372] at hF
                refine kp_putz C G h kp_lM0 rfl inWX10 tyX10 tyX10_ok nmX10 (j := 13) (by decide) q4_57 rfl rfl (by decide +kernel) dX10_looksAt_372 hF (fun σ_14 H locs h hF => ?_)
                refine kp_aload_n C dX10_looksAt_375 rfl (lv_at hl 0 rfl) ?_
                refine kp_dup C dX10_looksAt_376 rfl ?_
                refine kp_geti C G h kp_lM0 rfl inWX10 (j := 11) (by decide) q4_55 rfl dX10_looksAt_377 ?_
                refine kp_aload_n C dX10_looksAt_380 rfl (lv_at hl 0 rfl) ?_
                refine kp_getr C G h kp_lM0 rfl inWX10 (j := 10) (by decide) q4_54 rfl dX10_looksAt_381 ?_
                refine kp_iconst C dX10_looksAt_384 ?_
                refine kp_zald0 C G h (i := 0) (n := 64) kp_lM4 (by decide) (by decide) dX10_looksAt_385 ?_
                obtain ⟨j406, ej406, hF⟩ := kp_jn_s hF
                have J406 : ∀ (v_1 : Int), ∀ (H : Heap) (locs : List Loc) (ls : Array Slot), kp_H X kp_lM 10 s σ_14 H locs → lv_has ls 11 [(0, .ref (kp_ad X 0)), (3, kp_iv x3_0), (4, kp_iv x4_0), (5, kp_iv x5_2), (6, kp_iv x6_1), (7, kp_iv x7_0)] → j406 v_1 = some (r, σ') → W p l e (kp_rm 1) s m args below meth c H locs 0 0 (MQ below (kp_Qv X kp_lM 10 σ') args s 0 0 (kp_A X 10)) (F0 m 406 ls [kp_iv v_1, kp_iv (σ_14 0 11), .ref (kp_ad X 0)]) := by
                  intro v_1 H locs ls h hl hF
                  rw [ej406] at hF
                  refine kp_iadd C dX10_looksAt_406 ?_
                  refine kp_puti C G h kp_lM0 rfl inWX10 tyX10 tyX10_ok nmX10 (j := 11) (by decide) q4_55 rfl rfl (by decide +kernel) dX10_looksAt_407 hF (fun σ_15 H locs h hF => ?_)
                  refine kp_aload_n C dX10_looksAt_410 rfl (lv_at hl 0 rfl) ?_
                  refine kp_dup C dX10_looksAt_411 rfl ?_
                  refine kp_geti C G h kp_lM0 rfl inWX10 (j := 12) (by decide) q4_56 rfl dX10_looksAt_412 ?_
                  refine kp_aload_n C dX10_looksAt_415 rfl (lv_at hl 0 rfl) ?_
                  refine kp_getr C G h kp_lM0 rfl inWX10 (j := 10) (by decide) q4_54 rfl dX10_looksAt_416 ?_
                  refine kp_iconst C dX10_looksAt_419 ?_
                  refine kp_zald0 C G h (i := 0) (n := 64) kp_lM4 (by decide) (by decide) dX10_looksAt_420 ?_
                  refine kp_if_eq (tgt := 441) C dX10_looksAt_421 (by decide) hF (fun hF => ?_) (fun hF => ?_)
                  · refine kp_iconst C dX10_looksAt_441 ?_
                    refine kp_iadd C dX10_looksAt_442 ?_
                    refine kp_puti C G h kp_lM0 rfl inWX10 tyX10 tyX10_ok nmX10 (j := 12) (by decide) q4_56 rfl rfl (by decide +kernel) dX10_looksAt_443 hF (fun σ_16 H locs h hF => ?_)
                    refine kp_iinc (k := 4) (lv' := fun x6_2 => [(6, kp_iv x6_2), (0, .ref (kp_ad X 0)), (3, kp_iv x3_0), (4, kp_iv x4_0), (5, kp_iv x5_2), (7, kp_iv x7_0)]) C dX10_looksAt_446 hl rfl (by decide) (fun _ => rfl) hF (fun x6_2 ls hl hF => ?_)
                    refine kp_goto (tgt := 109) C dX10_looksAt_449 (by decide) ?_
                    exact ih _ _ _ k _ _ _ h (lv_sub hl [1, 2, 3, 4, 0] rfl) K hF
                  · refine kp_iload C dX10_looksAt_424 (lv_at hl 5 rfl) ?_
                    refine kp_sipush C dX10_looksAt_426 rfl ?_
                    refine kp_icmp_gt (tgt := 441) C dX10_looksAt_429 (by decide) hF (fun hF => ?_) (fun hF => ?_)
                    · refine kp_iconst C dX10_looksAt_441 ?_
                      refine kp_iadd C dX10_looksAt_442 ?_
                      refine kp_puti C G h kp_lM0 rfl inWX10 tyX10 tyX10_ok nmX10 (j := 12) (by decide) q4_56 rfl rfl (by decide +kernel) dX10_looksAt_443 hF (fun σ_17 H locs h hF => ?_)
                      refine kp_iinc (k := 4) (lv' := fun x6_3 => [(6, kp_iv x6_3), (0, .ref (kp_ad X 0)), (3, kp_iv x3_0), (4, kp_iv x4_0), (5, kp_iv x5_2), (7, kp_iv x7_0)]) C dX10_looksAt_446 hl rfl (by decide) (fun _ => rfl) hF (fun x6_3 ls hl hF => ?_)
                      refine kp_goto (tgt := 109) C dX10_looksAt_449 (by decide) ?_
                      exact ih _ _ _ k _ _ _ h (lv_sub hl [1, 2, 3, 4, 0] rfl) K hF
                    · refine kp_sipush C dX10_looksAt_432 rfl ?_
                      refine kp_iload C dX10_looksAt_435 (lv_at hl 5 rfl) ?_
                      refine kp_isub C dX10_looksAt_437 ?_
                      refine kp_goto (tgt := 442) C dX10_looksAt_438 (by decide) ?_
                      refine kp_iadd C dX10_looksAt_442 ?_
                      refine kp_puti C G h kp_lM0 rfl inWX10 tyX10 tyX10_ok nmX10 (j := 12) (by decide) q4_56 rfl rfl (by decide +kernel) dX10_looksAt_443 hF (fun σ_18 H locs h hF => ?_)
                      refine kp_iinc (k := 4) (lv' := fun x6_4 => [(6, kp_iv x6_4), (0, .ref (kp_ad X 0)), (3, kp_iv x3_0), (4, kp_iv x4_0), (5, kp_iv x5_2), (7, kp_iv x7_0)]) C dX10_looksAt_446 hl rfl (by decide) (fun _ => rfl) hF (fun x6_4 ls hl hF => ?_)
                      refine kp_goto (tgt := 109) C dX10_looksAt_449 (by decide) ?_
                      exact ih _ _ _ k _ _ _ h (lv_sub hl [1, 2, 3, 4, 0] rfl) K hF
                clear ej406
                obtain ⟨j405, ej405, hF⟩ := kp_jn_s hF
                have J405 : ∀ _ : Unit, ∀ (H : Heap) (locs : List Loc) (ls : Array Slot), kp_H X kp_lM 10 s σ_14 H locs → lv_has ls 11 [(0, .ref (kp_ad X 0)), (3, kp_iv x3_0), (4, kp_iv x4_0), (5, kp_iv x5_2), (6, kp_iv x6_1), (7, kp_iv x7_0)] → j405 () = some (r, σ') → W p l e (kp_rm 1) s m args below meth c H locs 0 0 (MQ below (kp_Qv X kp_lM 10 σ') args s 0 0 (kp_A X 10)) (F0 m 405 ls [kp_iv (σ_14 0 11), .ref (kp_ad X 0)]) := by
                  intro _ H locs ls h hl hF
                  rw [ej405] at hF
                  refine kp_iconst C dX10_looksAt_405 ?_
                  exact J406 _ _ _ _ h (lv_sub hl [0, 1, 2, 3, 4, 5] rfl) hF
                clear ej405
                refine kp_if_eq (tgt := 405) C dX10_looksAt_386 (by decide) hF (fun hF => ?_) (fun hF => ?_)
                · exact J405 () _ _ _ h (lv_sub hl [0, 1, 2, 3, 4, 5] rfl) hF
                · refine kp_iload C dX10_looksAt_389 (lv_at hl 5 rfl) ?_
                  refine kp_sipush C dX10_looksAt_391 rfl ?_
                  refine kp_icmp_le (tgt := 405) C dX10_looksAt_394 (by decide) hF (fun hF => ?_) (fun hF => ?_)
                  · exact J405 () _ _ _ h (lv_sub hl [0, 1, 2, 3, 4, 5] rfl) hF
                  · refine kp_bipush C dX10_looksAt_397 rfl ?_
                    refine kp_iload C dX10_looksAt_399 (lv_at hl 5 rfl) ?_
                    refine kp_isub C dX10_looksAt_401 ?_
                    refine kp_goto (tgt := 406) C dX10_looksAt_402 (by decide) ?_
                    exact J406 _ _ _ _ h (lv_sub hl [0, 1, 2, 3, 4, 5] rfl) hF
              clear ej372
              obtain ⟨j367, ej367, hF⟩ := kp_jn_s hF
              have J367 : ∀ _ : Unit, ∀ (H : Heap) (locs : List Loc) (ls : Array Slot), kp_H X kp_lM 10 s σ_10 H locs → lv_has ls 11 [(0, .ref (kp_ad X 0)), (3, kp_iv x3_0), (4, kp_iv x4_0), (5, kp_iv x5_2), (6, kp_iv x6_1), (7, kp_iv x7_0)] → j367 () = some (r, σ') → W p l e (kp_rm 1) s m args below meth c H locs 0 0 (MQ below (kp_Qv X kp_lM 10 σ') args s 0 0 (kp_A X 10)) (F0 m 367 ls [.ref (kp_ad X 0)]) := by
                intro _ H locs ls h hl hF
                rw [ej367] at hF
                refine kp_iconst C dX10_looksAt_367 ?_
                refine kp_goto (tgt := 372) C dX10_looksAt_368 (by decide) ?_
                exact J372 _ _ _ _ h (lv_sub hl [0, 1, 2, 3, 4, 5] rfl) hF
              clear ej367
              refine kp_if_ne (tgt := 367) C dX10_looksAt_355 (by decide) hF (fun hF => ?_) (fun hF => ?_)
              · exact J367 () _ _ _ h (lv_sub hl [2, 3, 4, 0, 5, 1] rfl) hF
              · refine kp_aload_n C dX10_looksAt_358 rfl (lv_at hl 2 rfl) ?_
                refine kp_getr C G h kp_lM0 rfl inWX10 (j := 10) (by decide) q4_54 rfl dX10_looksAt_359 ?_
                refine kp_iconst C dX10_looksAt_362 ?_
                refine kp_zald0 C G h (i := 0) (n := 64) kp_lM4 (by decide) (by decide) dX10_looksAt_363 ?_
                refine kp_if_eq (tgt := 371) C dX10_looksAt_364 (by decide) hF (fun hF => ?_) (fun hF => ?_)
                · refine kp_iconst C dX10_looksAt_371 ?_
                  exact J372 _ _ _ _ h (lv_sub hl [2, 3, 4, 0, 5, 1] rfl) hF
                · exact J367 () _ _ _ h (lv_sub hl [2, 3, 4, 0, 5, 1] rfl) hF
            · refine kp_iinc (k := 4) (lv' := fun x5_3 => [(5, kp_iv x5_3), (7, kp_iv x7_0), (0, .ref (kp_ad X 0)), (3, kp_iv x3_0), (4, kp_iv x4_0), (6, kp_iv x6_1)]) C dX10_looksAt_268 hl rfl (by decide) (fun _ => rfl) hF (fun x5_3 ls hl hF => ?_)
              refine kp_aload_n C dX10_looksAt_271 rfl (lv_at hl 2 rfl) ?_
              refine kp_getr C G h kp_lM0 rfl inWX10 (j := 10) (by decide) q4_54 rfl dX10_looksAt_272 ?_
              refine kp_iload C dX10_looksAt_275 (lv_at hl 0 rfl) ?_
              refine kp_iconst C dX10_looksAt_277 ?_
              refine kp_isub C dX10_looksAt_278 ?_
              refine kp_iload C dX10_looksAt_279 (lv_at hl 1 rfl) ?_
              refine kp_bipush C dX10_looksAt_281 rfl ?_
              refine kp_icmp_ne (tgt := 316) C dX10_looksAt_283 (by decide) hF (fun hF => ?_) (fun hF => ?_)
              · refine kp_aload_n C dX10_looksAt_316 rfl (lv_at hl 2 rfl) ?_
                refine kp_getr C G h kp_lM0 rfl inWX10 (j := 10) (by decide) q4_54 rfl dX10_looksAt_317 ?_
                refine kp_iload C dX10_looksAt_320 (lv_at hl 0 rfl) ?_
                refine kp_iconst C dX10_looksAt_322 ?_
                refine kp_isub C dX10_looksAt_323 ?_
                refine kp_zald C G h (n := 64) kp_lM4 (by decide) dX10_looksAt_324 hF (fun hF => ?_)
                obtain ⟨j338, ej338, hF⟩ := kp_jn_s hF
                have J338 : ∀ (x6_5 : Int), ∀ (σ_19 : kp_W), ∀ (H : Heap) (locs : List Loc) (ls : Array Slot), kp_H X kp_lM 10 s σ_19 H locs → lv_has ls 11 [(0, .ref (kp_ad X 0)), (3, kp_iv x3_0), (4, kp_iv x4_0), (5, kp_iv x5_3), (6, kp_iv x6_5)] → j338 x6_5 σ_19 = some (r, σ') → W p l e (kp_rm 1) s m args below meth c H locs 0 0 (MQ below (kp_Qv X kp_lM 10 σ') args s 0 0 (kp_A X 10)) (F0 m 338 ls [kp_iv (x5_3 - 1), .ref (kp_ad X 4)]) := by
                  intro x6_5 σ_19 H locs ls h hl hF
                  rw [ej338] at hF
                  refine kp_iconst C dX10_looksAt_338 ?_
                  refine kp_goto (tgt := 343) C dX10_looksAt_339 (by decide) ?_
                  have hF := kp_ck_i (c := (1 : Int) = 0 ∨ (1 : Int) = 1) (by decide) hF
                  refine kp_zast C G h (n := 64) kp_lM4 (by decide) dX10_looksAt_343 hF (fun σ_20 H locs h hF => ?_)
                  refine kp_goto (tgt := 446) C dX10_looksAt_344 (by decide) ?_
                  refine kp_iinc (k := 4) (lv' := fun x6_6 => [(6, kp_iv x6_6), (0, .ref (kp_ad X 0)), (3, kp_iv x3_0), (4, kp_iv x4_0), (5, kp_iv x5_3)]) C dX10_looksAt_446 hl rfl (by decide) (fun _ => rfl) hF (fun x6_6 ls hl hF => ?_)
                  refine kp_goto (tgt := 109) C dX10_looksAt_449 (by decide) ?_
                  exact ih _ _ _ k _ _ _ h (lv_sub hl [1, 2, 3, 4, 0] rfl) K hF
                clear ej338
                refine kp_if_ne (tgt := 338) C dX10_looksAt_325 (by decide) hF (fun hF => ?_) (fun hF => ?_)
                · exact J338 _ _ _ _ _ h (lv_sub hl [2, 3, 4, 0, 5] rfl) hF
                · refine kp_aload_n C dX10_looksAt_328 rfl (lv_at hl 2 rfl) ?_
                  refine kp_getr C G h kp_lM0 rfl inWX10 (j := 10) (by decide) q4_54 rfl dX10_looksAt_329 ?_
                  refine kp_iload C dX10_looksAt_332 (lv_at hl 0 rfl) ?_
                  refine kp_zald C G h (n := 64) kp_lM4 (by decide) dX10_looksAt_334 hF (fun hF => ?_)
                  refine kp_if_eq (tgt := 342) C dX10_looksAt_335 (by decide) hF (fun hF => ?_) (fun hF => ?_)
                  · refine kp_iconst C dX10_looksAt_342 ?_
                    have hF := kp_ck_i (c := (0 : Int) = 0 ∨ (0 : Int) = 1) (by decide) hF
                    refine kp_zast C G h (n := 64) kp_lM4 (by decide) dX10_looksAt_343 hF (fun σ_21 H locs h hF => ?_)
                    refine kp_goto (tgt := 446) C dX10_looksAt_344 (by decide) ?_
                    refine kp_iinc (k := 5) (lv' := fun x6_7 => [(6, kp_iv x6_7), (5, kp_iv x5_3), (7, kp_iv x7_0), (0, .ref (kp_ad X 0)), (3, kp_iv x3_0), (4, kp_iv x4_0)]) C dX10_looksAt_446 hl rfl (by decide) (fun _ => rfl) hF (fun x6_7 ls hl hF => ?_)
                    refine kp_goto (tgt := 109) C dX10_looksAt_449 (by decide) ?_
                    exact ih _ _ _ k _ _ _ h (lv_sub hl [3, 4, 5, 1, 0] rfl) K hF
                  · exact J338 _ _ _ _ _ h (lv_sub hl [2, 3, 4, 0, 5] rfl) hF
              · refine kp_aload_n C dX10_looksAt_286 rfl (lv_at hl 2 rfl) ?_
                refine kp_getr C G h kp_lM0 rfl inWX10 (j := 10) (by decide) q4_54 rfl dX10_looksAt_287 ?_
                refine kp_iload C dX10_looksAt_290 (lv_at hl 0 rfl) ?_
                refine kp_iconst C dX10_looksAt_292 ?_
                refine kp_isub C dX10_looksAt_293 ?_
                refine kp_zald C G h (n := 64) kp_lM4 (by decide) dX10_looksAt_294 hF (fun hF => ?_)
                obtain ⟨j312, ej312, hF⟩ := kp_jn_s hF
                have J312 : ∀ (x6_8 : Int), ∀ (σ_22 : kp_W), ∀ (H : Heap) (locs : List Loc) (ls : Array Slot), kp_H X kp_lM 10 s σ_22 H locs → lv_has ls 11 [(0, .ref (kp_ad X 0)), (3, kp_iv x3_0), (4, kp_iv x4_0), (5, kp_iv x5_3), (6, kp_iv x6_8)] → j312 x6_8 σ_22 = some (r, σ') → W p l e (kp_rm 1) s m args below meth c H locs 0 0 (MQ below (kp_Qv X kp_lM 10 σ') args s 0 0 (kp_A X 10)) (F0 m 312 ls [kp_iv (x5_3 - 1), .ref (kp_ad X 4)]) := by
                  intro x6_8 σ_22 H locs ls h hl hF
                  rw [ej312] at hF
                  refine kp_iconst C dX10_looksAt_312 ?_
                  refine kp_goto (tgt := 343) C dX10_looksAt_313 (by decide) ?_
                  have hF := kp_ck_i (c := (0 : Int) = 0 ∨ (0 : Int) = 1) (by decide) hF
                  refine kp_zast C G h (n := 64) kp_lM4 (by decide) dX10_looksAt_343 hF (fun σ_23 H locs h hF => ?_)
                  refine kp_goto (tgt := 446) C dX10_looksAt_344 (by decide) ?_
                  refine kp_iinc (k := 4) (lv' := fun x6_9 => [(6, kp_iv x6_9), (0, .ref (kp_ad X 0)), (3, kp_iv x3_0), (4, kp_iv x4_0), (5, kp_iv x5_3)]) C dX10_looksAt_446 hl rfl (by decide) (fun _ => rfl) hF (fun x6_9 ls hl hF => ?_)
                  refine kp_goto (tgt := 109) C dX10_looksAt_449 (by decide) ?_
                  exact ih _ _ _ k _ _ _ h (lv_sub hl [1, 2, 3, 4, 0] rfl) K hF
                clear ej312
                refine kp_if_eq (tgt := 312) C dX10_looksAt_295 (by decide) hF (fun hF => ?_) (fun hF => ?_)
                · exact J312 _ _ _ _ _ h (lv_sub hl [2, 3, 4, 0, 5] rfl) hF
                · refine kp_aload_n C dX10_looksAt_298 rfl (lv_at hl 2 rfl) ?_
                  refine kp_getr C G h kp_lM0 rfl inWX10 (j := 10) (by decide) q4_54 rfl dX10_looksAt_299 ?_
                  refine kp_iload C dX10_looksAt_302 (lv_at hl 0 rfl) ?_
                  refine kp_zald C G h (n := 64) kp_lM4 (by decide) dX10_looksAt_304 hF (fun hF => ?_)
                  refine kp_if_eq (tgt := 312) C dX10_looksAt_305 (by decide) hF (fun hF => ?_) (fun hF => ?_)
                  · exact J312 _ _ _ _ _ h (lv_sub hl [2, 3, 4, 0, 5] rfl) hF
                  · refine kp_iconst C dX10_looksAt_308 ?_
                    refine kp_goto (tgt := 343) C dX10_looksAt_309 (by decide) ?_
                    have hF := kp_ck_i (c := (1 : Int) = 0 ∨ (1 : Int) = 1) (by decide) hF
                    refine kp_zast C G h (n := 64) kp_lM4 (by decide) dX10_looksAt_343 hF (fun σ_24 H locs h hF => ?_)
                    refine kp_goto (tgt := 446) C dX10_looksAt_344 (by decide) ?_
                    refine kp_iinc (k := 5) (lv' := fun x6_10 => [(6, kp_iv x6_10), (5, kp_iv x5_3), (7, kp_iv x7_0), (0, .ref (kp_ad X 0)), (3, kp_iv x3_0), (4, kp_iv x4_0)]) C dX10_looksAt_446 hl rfl (by decide) (fun _ => rfl) hF (fun x6_10 ls hl hF => ?_)
                    refine kp_goto (tgt := 109) C dX10_looksAt_449 (by decide) ?_
                    exact ih _ _ _ k _ _ _ h (lv_sub hl [3, 4, 5, 1, 0] rfl) K hF
          · refine kp_aload_n C dX10_looksAt_232 rfl (lv_at hl 1 rfl) ?_
            refine kp_getr C G h kp_lM0 rfl inWX10 (j := 10) (by decide) q4_54 rfl dX10_looksAt_233 ?_
            refine kp_iload C dX10_looksAt_236 (lv_at hl 4 rfl) ?_
            refine kp_iconst C dX10_looksAt_238 ?_
            refine kp_isub C dX10_looksAt_239 ?_
            refine kp_aload_n C dX10_looksAt_240 rfl (lv_at hl 1 rfl) ?_
            refine kp_getr C G h kp_lM0 rfl inWX10 (j := 10) (by decide) q4_54 rfl dX10_looksAt_241 ?_
            refine kp_iload C dX10_looksAt_244 (lv_at hl 4 rfl) ?_
            refine kp_iconst C dX10_looksAt_246 ?_
            refine kp_isub C dX10_looksAt_247 ?_
            refine kp_zald C G h (n := 64) kp_lM4 (by decide) dX10_looksAt_248 hF (fun hF => ?_)
            refine kp_if_ne (tgt := 256) C dX10_looksAt_249 (by decide) hF (fun hF => ?_) (fun hF => ?_)
            · refine kp_iconst C dX10_looksAt_256 ?_
              have hF := kp_ck_i (c := (0 : Int) = 0 ∨ (0 : Int) = 1) (by decide) hF
              refine kp_zast C G h (n := 64) kp_lM4 (by decide) dX10_looksAt_257 hF (fun σ_25 H locs h hF => ?_)
              refine kp_goto (tgt := 446) C dX10_looksAt_258 (by decide) ?_
              refine kp_iinc (k := 5) (lv' := fun x6_11 => [(6, kp_iv x6_11), (7, kp_iv x7_0), (0, .ref (kp_ad X 0)), (3, kp_iv x3_0), (4, kp_iv x4_0), (5, kp_iv x5_1)]) C dX10_looksAt_446 hl rfl (by decide) (fun _ => rfl) hF (fun x6_11 ls hl hF => ?_)
              refine kp_goto (tgt := 109) C dX10_looksAt_449 (by decide) ?_
              exact ih _ _ _ k _ _ _ h (lv_sub hl [2, 3, 4, 5, 0] rfl) K hF
            · refine kp_iconst C dX10_looksAt_252 ?_
              refine kp_goto (tgt := 257) C dX10_looksAt_253 (by decide) ?_
              have hF := kp_ck_i (c := (1 : Int) = 0 ∨ (1 : Int) = 1) (by decide) hF
              refine kp_zast C G h (n := 64) kp_lM4 (by decide) dX10_looksAt_257 hF (fun σ_26 H locs h hF => ?_)
              refine kp_goto (tgt := 446) C dX10_looksAt_258 (by decide) ?_
              refine kp_iinc (k := 5) (lv' := fun x6_12 => [(6, kp_iv x6_12), (7, kp_iv x7_0), (0, .ref (kp_ad X 0)), (3, kp_iv x3_0), (4, kp_iv x4_0), (5, kp_iv x5_1)]) C dX10_looksAt_446 hl rfl (by decide) (fun _ => rfl) hF (fun x6_12 ls hl hF => ?_)
              refine kp_goto (tgt := 109) C dX10_looksAt_449 (by decide) ?_
              exact ih _ _ _ k _ _ _ h (lv_sub hl [2, 3, 4, 5, 0] rfl) K hF
        · refine kp_aload_n C dX10_looksAt_132 rfl (lv_at hl 1 rfl) ?_
          refine kp_getr C G h kp_lM0 rfl inWX10 (j := 9) (by decide) q4_53 rfl dX10_looksAt_133 ?_
          refine kp_iload C dX10_looksAt_136 (lv_at hl 0 rfl) ?_
          refine kp_bipush C dX10_looksAt_138 rfl ?_
          refine kp_irem C dX10_looksAt_140 hF (fun hF => ?_)
          refine kp_iald C G h (n := 5) kp_lM3 (by decide) dX10_looksAt_141 hF (fun hF => ?_)
          refine kp_istore (lv' := fun x8_0 => [(8, kp_iv x8_0), (7, kp_iv x7_0), (0, .ref (kp_ad X 0)), (3, kp_iv x3_0), (4, kp_iv x4_0), (5, kp_iv x5_1), (6, kp_iv x6_1)]) C dX10_looksAt_142 hl (by decide) (fun _ => rfl) hF (fun x8_0 ls hl hF => ?_)
          refine kp_iload C dX10_looksAt_144 (lv_at hl 1 rfl) ?_
          refine kp_bipush C dX10_looksAt_146 rfl ?_
          refine kp_idiv C dX10_looksAt_148 hF (fun hF => ?_)
          refine kp_iconst C dX10_looksAt_149 ?_
          refine kp_irem C dX10_looksAt_150 hF (fun hF => ?_)
          refine kp_istore (lv' := fun x9_0 => [(9, kp_iv x9_0), (8, kp_iv x8_0), (7, kp_iv x7_0), (0, .ref (kp_ad X 0)), (3, kp_iv x3_0), (4, kp_iv x4_0), (5, kp_iv x5_1), (6, kp_iv x6_1)]) C dX10_looksAt_151 hl (by decide) (fun _ => rfl) hF (fun x9_0 ls hl hF => ?_)
          refine kp_iload C dX10_looksAt_153 (lv_at hl 2 rfl) ?_
          refine kp_bipush C dX10_looksAt_155 rfl ?_
          refine kp_idiv C dX10_looksAt_157 hF (fun hF => ?_)
          refine kp_istore (lv' := fun x10_0 => [(10, kp_iv x10_0), (9, kp_iv x9_0), (8, kp_iv x8_0), (7, kp_iv x7_0), (0, .ref (kp_ad X 0)), (3, kp_iv x3_0), (4, kp_iv x4_0), (5, kp_iv x5_1), (6, kp_iv x6_1)]) C dX10_looksAt_158 hl (by decide) (fun _ => rfl) hF (fun x10_0 ls hl hF => ?_)
          refine kp_aload_n C dX10_looksAt_160 rfl (lv_at hl 4 rfl) ?_
          refine kp_getr C G h kp_lM0 rfl inWX10 (j := 10) (by decide) q4_54 rfl dX10_looksAt_161 ?_
          refine kp_iload C dX10_looksAt_164 (lv_at hl 7 rfl) ?_
          refine kp_iload C dX10_looksAt_166 (lv_at hl 1 rfl) ?_
          refine kp_if_ne (tgt := 186) C dX10_looksAt_168 (by decide) hF (fun hF => ?_) (fun hF => ?_)
          · refine kp_iload C dX10_looksAt_186 (lv_at hl 1 rfl) ?_
            refine kp_iconst C dX10_looksAt_188 ?_
            refine kp_icmp_ne (tgt := 207) C dX10_looksAt_189 (by decide) hF (fun hF => ?_) (fun hF => ?_)
            · refine kp_iload C dX10_looksAt_207 (lv_at hl 2 rfl) ?_
              refine kp_iload C dX10_looksAt_209 (lv_at hl 0 rfl) ?_
              refine kp_icmp_le (tgt := 218) C dX10_looksAt_211 (by decide) hF (fun hF => ?_) (fun hF => ?_)
              · refine kp_iconst C dX10_looksAt_218 ?_
                have hF := kp_ck_i (c := (0 : Int) = 0 ∨ (0 : Int) = 1) (by decide) hF
                refine kp_zast C G h (n := 64) kp_lM4 (by decide) dX10_looksAt_219 hF (fun σ_27 H locs h hF => ?_)
                refine kp_iinc (k := 7) (lv' := fun x5_4 => [(5, kp_iv x5_4), (10, kp_iv x10_0), (9, kp_iv x9_0), (8, kp_iv x8_0), (7, kp_iv x7_0), (0, .ref (kp_ad X 0)), (3, kp_iv x3_0), (4, kp_iv x4_0), (6, kp_iv x6_1)]) C dX10_looksAt_220 hl rfl (by decide) (fun _ => rfl) hF (fun x5_4 ls hl hF => ?_)
                refine kp_goto (tgt := 446) C dX10_looksAt_223 (by decide) ?_
                refine kp_iinc (k := 8) (lv' := fun x6_13 => [(6, kp_iv x6_13), (5, kp_iv x5_4), (10, kp_iv x10_0), (9, kp_iv x9_0), (8, kp_iv x8_0), (7, kp_iv x7_0), (0, .ref (kp_ad X 0)), (3, kp_iv x3_0), (4, kp_iv x4_0)]) C dX10_looksAt_446 hl rfl (by decide) (fun _ => rfl) hF (fun x6_13 ls hl hF => ?_)
                refine kp_goto (tgt := 109) C dX10_looksAt_449 (by decide) ?_
                exact ih _ _ _ k _ _ _ h (lv_sub hl [6, 7, 8, 1, 0] rfl) K hF
              · refine kp_iconst C dX10_looksAt_214 ?_
                refine kp_goto (tgt := 219) C dX10_looksAt_215 (by decide) ?_
                have hF := kp_ck_i (c := (1 : Int) = 0 ∨ (1 : Int) = 1) (by decide) hF
                refine kp_zast C G h (n := 64) kp_lM4 (by decide) dX10_looksAt_219 hF (fun σ_28 H locs h hF => ?_)
                refine kp_iinc (k := 7) (lv' := fun x5_5 => [(5, kp_iv x5_5), (10, kp_iv x10_0), (9, kp_iv x9_0), (8, kp_iv x8_0), (7, kp_iv x7_0), (0, .ref (kp_ad X 0)), (3, kp_iv x3_0), (4, kp_iv x4_0), (6, kp_iv x6_1)]) C dX10_looksAt_220 hl rfl (by decide) (fun _ => rfl) hF (fun x5_5 ls hl hF => ?_)
                refine kp_goto (tgt := 446) C dX10_looksAt_223 (by decide) ?_
                refine kp_iinc (k := 8) (lv' := fun x6_14 => [(6, kp_iv x6_14), (5, kp_iv x5_5), (10, kp_iv x10_0), (9, kp_iv x9_0), (8, kp_iv x8_0), (7, kp_iv x7_0), (0, .ref (kp_ad X 0)), (3, kp_iv x3_0), (4, kp_iv x4_0)]) C dX10_looksAt_446 hl rfl (by decide) (fun _ => rfl) hF (fun x6_14 ls hl hF => ?_)
                refine kp_goto (tgt := 109) C dX10_looksAt_449 (by decide) ?_
                exact ih _ _ _ k _ _ _ h (lv_sub hl [6, 7, 8, 1, 0] rfl) K hF
            · refine kp_iload C dX10_looksAt_192 (lv_at hl 2 rfl) ?_
              refine kp_iload C dX10_looksAt_194 (lv_at hl 0 rfl) ?_
              refine kp_icmp_ne (tgt := 203) C dX10_looksAt_196 (by decide) hF (fun hF => ?_) (fun hF => ?_)
              · refine kp_iconst C dX10_looksAt_203 ?_
                refine kp_goto (tgt := 219) C dX10_looksAt_204 (by decide) ?_
                have hF := kp_ck_i (c := (0 : Int) = 0 ∨ (0 : Int) = 1) (by decide) hF
                refine kp_zast C G h (n := 64) kp_lM4 (by decide) dX10_looksAt_219 hF (fun σ_29 H locs h hF => ?_)
                refine kp_iinc (k := 7) (lv' := fun x5_6 => [(5, kp_iv x5_6), (10, kp_iv x10_0), (9, kp_iv x9_0), (8, kp_iv x8_0), (7, kp_iv x7_0), (0, .ref (kp_ad X 0)), (3, kp_iv x3_0), (4, kp_iv x4_0), (6, kp_iv x6_1)]) C dX10_looksAt_220 hl rfl (by decide) (fun _ => rfl) hF (fun x5_6 ls hl hF => ?_)
                refine kp_goto (tgt := 446) C dX10_looksAt_223 (by decide) ?_
                refine kp_iinc (k := 8) (lv' := fun x6_15 => [(6, kp_iv x6_15), (5, kp_iv x5_6), (10, kp_iv x10_0), (9, kp_iv x9_0), (8, kp_iv x8_0), (7, kp_iv x7_0), (0, .ref (kp_ad X 0)), (3, kp_iv x3_0), (4, kp_iv x4_0)]) C dX10_looksAt_446 hl rfl (by decide) (fun _ => rfl) hF (fun x6_15 ls hl hF => ?_)
                refine kp_goto (tgt := 109) C dX10_looksAt_449 (by decide) ?_
                exact ih _ _ _ k _ _ _ h (lv_sub hl [6, 7, 8, 1, 0] rfl) K hF
              · refine kp_iconst C dX10_looksAt_199 ?_
                refine kp_goto (tgt := 219) C dX10_looksAt_200 (by decide) ?_
                have hF := kp_ck_i (c := (1 : Int) = 0 ∨ (1 : Int) = 1) (by decide) hF
                refine kp_zast C G h (n := 64) kp_lM4 (by decide) dX10_looksAt_219 hF (fun σ_30 H locs h hF => ?_)
                refine kp_iinc (k := 7) (lv' := fun x5_7 => [(5, kp_iv x5_7), (10, kp_iv x10_0), (9, kp_iv x9_0), (8, kp_iv x8_0), (7, kp_iv x7_0), (0, .ref (kp_ad X 0)), (3, kp_iv x3_0), (4, kp_iv x4_0), (6, kp_iv x6_1)]) C dX10_looksAt_220 hl rfl (by decide) (fun _ => rfl) hF (fun x5_7 ls hl hF => ?_)
                refine kp_goto (tgt := 446) C dX10_looksAt_223 (by decide) ?_
                refine kp_iinc (k := 8) (lv' := fun x6_16 => [(6, kp_iv x6_16), (5, kp_iv x5_7), (10, kp_iv x10_0), (9, kp_iv x9_0), (8, kp_iv x8_0), (7, kp_iv x7_0), (0, .ref (kp_ad X 0)), (3, kp_iv x3_0), (4, kp_iv x4_0)]) C dX10_looksAt_446 hl rfl (by decide) (fun _ => rfl) hF (fun x6_16 ls hl hF => ?_)
                refine kp_goto (tgt := 109) C dX10_looksAt_449 (by decide) ?_
                exact ih _ _ _ k _ _ _ h (lv_sub hl [6, 7, 8, 1, 0] rfl) K hF
          · refine kp_iload C dX10_looksAt_171 (lv_at hl 2 rfl) ?_
            refine kp_iload C dX10_looksAt_173 (lv_at hl 0 rfl) ?_
            refine kp_icmp_ge (tgt := 182) C dX10_looksAt_175 (by decide) hF (fun hF => ?_) (fun hF => ?_)
            · refine kp_iconst C dX10_looksAt_182 ?_
              refine kp_goto (tgt := 219) C dX10_looksAt_183 (by decide) ?_
              have hF := kp_ck_i (c := (0 : Int) = 0 ∨ (0 : Int) = 1) (by decide) hF
              refine kp_zast C G h (n := 64) kp_lM4 (by decide) dX10_looksAt_219 hF (fun σ_31 H locs h hF => ?_)
              refine kp_iinc (k := 7) (lv' := fun x5_8 => [(5, kp_iv x5_8), (10, kp_iv x10_0), (9, kp_iv x9_0), (8, kp_iv x8_0), (7, kp_iv x7_0), (0, .ref (kp_ad X 0)), (3, kp_iv x3_0), (4, kp_iv x4_0), (6, kp_iv x6_1)]) C dX10_looksAt_220 hl rfl (by decide) (fun _ => rfl) hF (fun x5_8 ls hl hF => ?_)
              refine kp_goto (tgt := 446) C dX10_looksAt_223 (by decide) ?_
              refine kp_iinc (k := 8) (lv' := fun x6_17 => [(6, kp_iv x6_17), (5, kp_iv x5_8), (10, kp_iv x10_0), (9, kp_iv x9_0), (8, kp_iv x8_0), (7, kp_iv x7_0), (0, .ref (kp_ad X 0)), (3, kp_iv x3_0), (4, kp_iv x4_0)]) C dX10_looksAt_446 hl rfl (by decide) (fun _ => rfl) hF (fun x6_17 ls hl hF => ?_)
              refine kp_goto (tgt := 109) C dX10_looksAt_449 (by decide) ?_
              exact ih _ _ _ k _ _ _ h (lv_sub hl [6, 7, 8, 1, 0] rfl) K hF
            · refine kp_iconst C dX10_looksAt_178 ?_
              refine kp_goto (tgt := 219) C dX10_looksAt_179 (by decide) ?_
              have hF := kp_ck_i (c := (1 : Int) = 0 ∨ (1 : Int) = 1) (by decide) hF
              refine kp_zast C G h (n := 64) kp_lM4 (by decide) dX10_looksAt_219 hF (fun σ_32 H locs h hF => ?_)
              refine kp_iinc (k := 7) (lv' := fun x5_9 => [(5, kp_iv x5_9), (10, kp_iv x10_0), (9, kp_iv x9_0), (8, kp_iv x8_0), (7, kp_iv x7_0), (0, .ref (kp_ad X 0)), (3, kp_iv x3_0), (4, kp_iv x4_0), (6, kp_iv x6_1)]) C dX10_looksAt_220 hl rfl (by decide) (fun _ => rfl) hF (fun x5_9 ls hl hF => ?_)
              refine kp_goto (tgt := 446) C dX10_looksAt_223 (by decide) ?_
              refine kp_iinc (k := 8) (lv' := fun x6_18 => [(6, kp_iv x6_18), (5, kp_iv x5_9), (10, kp_iv x10_0), (9, kp_iv x9_0), (8, kp_iv x8_0), (7, kp_iv x7_0), (0, .ref (kp_ad X 0)), (3, kp_iv x3_0), (4, kp_iv x4_0)]) C dX10_looksAt_446 hl rfl (by decide) (fun _ => rfl) hF (fun x6_18 ls hl hF => ?_)
              refine kp_goto (tgt := 109) C dX10_looksAt_449 (by decide) ?_
              exact ih _ _ _ k _ _ _ h (lv_sub hl [6, 7, 8, 1, 0] rfl) K hF
  refine L109 kp_fu _ _ _ _ _ _ _ h (lv_sub hl [4, 3, 2, 1, 0] rfl) (fun σ_11 H locs ls h hl hF => ?_) hF
  clear L109
  refine kp_aload_n C dX10_looksAt_452 rfl (lv_at hl 0 rfl) ?_
  refine kp_aload_n C dX10_looksAt_453 rfl (lv_at hl 0 rfl) ?_
  refine kp_geti C G h kp_lM0 rfl inWX10 (j := 12) (by decide) q4_56 rfl dX10_looksAt_454 ?_
  refine kp_iconst C dX10_looksAt_457 ?_
  refine kp_icmp_ge (tgt := 465) C dX10_looksAt_458 (by decide) hF (fun hF => ?_) (fun hF => ?_)
  · refine kp_aload_n C dX10_looksAt_465 rfl (lv_at hl 0 rfl) ?_
    refine kp_geti C G h kp_lM0 rfl inWX10 (j := 12) (by decide) q4_56 rfl dX10_looksAt_466 ?_
    refine kp_puti C G h kp_lM0 rfl inWX10 tyX10 tyX10_ok nmX10 (j := 12) (by decide) q4_56 rfl rfl (by decide +kernel) dX10_looksAt_469 hF (fun σ_12 H locs h hF => ?_)
    exact kp_retv (v := 0) C hr hlk G h dX10_looksAt_472 hF
  · refine kp_iconst C dX10_looksAt_461 ?_
    refine kp_goto (tgt := 469) C dX10_looksAt_462 (by decide) ?_
    refine kp_puti C G h kp_lM0 rfl inWX10 tyX10 tyX10_ok nmX10 (j := 12) (by decide) q4_56 rfl rfl (by decide +kernel) dX10_looksAt_469 hF (fun σ_13 H locs h hF => ?_)
    exact kp_retv (v := 0) C hr hlk G h dX10_looksAt_472 hF
