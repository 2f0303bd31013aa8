-- by program (wip/whole/gen/drive.py)
def kf_X9_isKind  (a1 : Int) (σ_0 : kp_W) : kp_R :=
  kp_ls a1 0 (some (0, σ_0)) (kp_ls a1 7 (some (1, σ_0)) (some (0, σ_0)))
set_option maxRecDepth 100000 in
set_option maxHeartbeats 4000000 in
theorem kc_X9_isKind {l : Launch} {X : kp_X} {a1 : Int}  {σ_0 σ' : kp_W} {r : Int}   (hF : (kf_X9_isKind a1 σ_0) = some (r, σ')) : kp_Met l yX9_isKind cX9_isKind 1 (some .boolean) 0 X kp_lK 55 σ_0 [kp_iv a1] (kp_Qi X kp_lK 55 σ' r) := by
  refine kp_body pnX9 (Nat.le_of_ble_eq_true rfl) ?_
  intro p e s m args below meth c ls C hr hlk G h hl
  unfold kf_X9_isKind at hF
  have hl : lv_has ls 1 [(0, kp_iv a1)] := hl
  refine kp_iload_n C dX9_isKind_0 rfl (lv_at hl 0 rfl) ?_
  refine kp_if_lt (tgt := 14) C dX9_isKind_1 (by decide) hF (fun hF => ?_) (fun hF => ?_)
  · refine kp_iconst C dX9_isKind_14 ?_
    exact kp_retz C hr hlk G h dX9_isKind_15 (kp_ck_i (by decide) hF)
  · refine kp_iload_n C dX9_isKind_4 rfl (lv_at hl 0 rfl) ?_
    refine kp_bipush C dX9_isKind_5 rfl ?_
    refine kp_icmp_ge (tgt := 14) C dX9_isKind_7 (by decide) hF (fun hF => ?_) (fun hF => ?_)
    · refine kp_iconst C dX9_isKind_14 ?_
      exact kp_retz C hr hlk G h dX9_isKind_15 (kp_ck_i (by decide) hF)
    · refine kp_iconst C dX9_isKind_10 ?_
      refine kp_goto (tgt := 15) C dX9_isKind_11 (by decide) ?_
      exact kp_retz C hr hlk G h dX9_isKind_15 (kp_ck_i (by decide) hF)
def kf_X0_bodyOf  (a1 : Int) (a2 : Int) (σ_0 : kp_W) : kp_R :=
  kp_eq a1 0 (some ((a2 + 1), σ_0)) (kp_eq a1 1 (kp_eq a2 0 (some (11, σ_0)) (some (0, σ_0))) (kp_eq a1 2 (kp_eq a2 1 (some (21, σ_0)) (some (0, σ_0))) (kp_eq a1 3 (kp_eq a2 2 (some (31, σ_0)) (some (0, σ_0))) (kp_eq a1 4 (kp_eq a2 2 (some (41, σ_0)) (some (0, σ_0))) (kp_eq a1 5 (kp_eq a2 0 (some (51, σ_0)) (some (0, σ_0))) (kp_eq a1 6 (kp_eq a2 1 (some (61, σ_0)) (some (0, σ_0))) (some (0, σ_0))))))))
set_option maxRecDepth 100000 in
set_option maxHeartbeats 4000000 in
theorem kc_X0_bodyOf {l : Launch} {X : kp_X} {a1 : Int} {a2 : Int}  {σ_0 σ' : kp_W} {r : Int}   (hF : (kf_X0_bodyOf a1 a2 σ_0) = some (r, σ')) : kp_Met l yX0_bodyOf cX0_bodyOf 2 (some .int) 0 X kp_lK 55 σ_0 [kp_iv a1, kp_iv a2] (kp_Qi X kp_lK 55 σ' r) := by
  refine kp_body pnX0 (Nat.le_of_ble_eq_true rfl) ?_
  intro p e s m args below meth c ls C hr hlk G h hl
  unfold kf_X0_bodyOf at hF
  have hl : lv_has ls 2 [(0, kp_iv a1), (1, kp_iv a2)] := hl
  refine kp_iload_n C dX0_bodyOf_0 rfl (lv_at hl 0 rfl) ?_
  obtain ⟨hx, -, ha, hb⟩ := kp_eq_s hF
  by_cases q0 : a1 = 0
  · have hF := ha q0
    clear ha hb
    refine kp_tabIn (v := 0) (tgt := 44) C dX0_bodyOf_1 q0 (by decide) rfl (by decide) ?_
    refine kp_iload_n C dX0_bodyOf_44 rfl (lv_at hl 1 rfl) ?_
    refine kp_iconst C dX0_bodyOf_45 ?_
    refine kp_iadd C dX0_bodyOf_46 ?_
    exact kp_reti C hr hlk G h dX0_bodyOf_47 hF
  · have hF := hb q0
    clear ha hb
    obtain ⟨hx, -, ha, hb⟩ := kp_eq_s hF
    by_cases q1 : a1 = 1
    · have hF := ha q1
      clear ha hb
      refine kp_tabIn (v := 1) (tgt := 48) C dX0_bodyOf_1 q1 (by decide) rfl (by decide) ?_
      refine kp_iload_n C dX0_bodyOf_48 rfl (lv_at hl 1 rfl) ?_
      refine kp_if_ne (tgt := 57) C dX0_bodyOf_49 (by decide) hF (fun hF => ?_) (fun hF => ?_)
      · refine kp_iconst C dX0_bodyOf_57 ?_
        exact kp_reti C hr hlk G h dX0_bodyOf_58 hF
      · refine kp_bipush C dX0_bodyOf_52 rfl ?_
        refine kp_goto (tgt := 58) C dX0_bodyOf_54 (by decide) ?_
        exact kp_reti C hr hlk G h dX0_bodyOf_58 hF
    · have hF := hb q1
      clear ha hb
      obtain ⟨hx, -, ha, hb⟩ := kp_eq_s hF
      by_cases q2 : a1 = 2
      · have hF := ha q2
        clear ha hb
        refine kp_tabIn (v := 2) (tgt := 59) C dX0_bodyOf_1 q2 (by decide) rfl (by decide) ?_
        refine kp_iload_n C dX0_bodyOf_59 rfl (lv_at hl 1 rfl) ?_
        refine kp_iconst C dX0_bodyOf_60 ?_
        refine kp_icmp_ne (tgt := 69) C dX0_bodyOf_61 (by decide) hF (fun hF => ?_) (fun hF => ?_)
        · refine kp_iconst C dX0_bodyOf_69 ?_
          exact kp_reti C hr hlk G h dX0_bodyOf_70 hF
        · refine kp_bipush C dX0_bodyOf_64 rfl ?_
          refine kp_goto (tgt := 70) C dX0_bodyOf_66 (by decide) ?_
          exact kp_reti C hr hlk G h dX0_bodyOf_70 hF
      · have hF := hb q2
        clear ha hb
        obtain ⟨hx, -, ha, hb⟩ := kp_eq_s hF
        by_cases q3 : a1 = 3
        · have hF := ha q3
          clear ha hb
          refine kp_tabIn (v := 3) (tgt := 71) C dX0_bodyOf_1 q3 (by decide) rfl (by decide) ?_
          refine kp_iload_n C dX0_bodyOf_71 rfl (lv_at hl 1 rfl) ?_
          refine kp_iconst C dX0_bodyOf_72 ?_
          refine kp_icmp_ne (tgt := 81) C dX0_bodyOf_73 (by decide) hF (fun hF => ?_) (fun hF => ?_)
          · refine kp_iconst C dX0_bodyOf_81 ?_
            exact kp_reti C hr hlk G h dX0_bodyOf_82 hF
          · refine kp_bipush C dX0_bodyOf_76 rfl ?_
            refine kp_goto (tgt := 82) C dX0_bodyOf_78 (by decide) ?_
            exact kp_reti C hr hlk G h dX0_bodyOf_82 hF
        · have hF := hb q3
          clear ha hb
          obtain ⟨hx, -, ha, hb⟩ := kp_eq_s hF
          by_cases q4 : a1 = 4
          · have hF := ha q4
            clear ha hb
            refine kp_tabIn (v := 4) (tgt := 83) C dX0_bodyOf_1 q4 (by decide) rfl (by decide) ?_
            refine kp_iload_n C dX0_bodyOf_83 rfl (lv_at hl 1 rfl) ?_
            refine kp_iconst C dX0_bodyOf_84 ?_
            refine kp_icmp_ne (tgt := 93) C dX0_bodyOf_85 (by decide) hF (fun hF => ?_) (fun hF => ?_)
            · refine kp_iconst C dX0_bodyOf_93 ?_
              exact kp_reti C hr hlk G h dX0_bodyOf_94 hF
            · refine kp_bipush C dX0_bodyOf_88 rfl ?_
              refine kp_goto (tgt := 94) C dX0_bodyOf_90 (by decide) ?_
              exact kp_reti C hr hlk G h dX0_bodyOf_94 hF
          · have hF := hb q4
            clear ha hb
            obtain ⟨hx, -, ha, hb⟩ := kp_eq_s hF
            by_cases q5 : a1 = 5
            · have hF := ha q5
              clear ha hb
              refine kp_tabIn (v := 5) (tgt := 95) C dX0_bodyOf_1 q5 (by decide) rfl (by decide) ?_
              refine kp_iload_n C dX0_bodyOf_95 rfl (lv_at hl 1 rfl) ?_
              refine kp_if_ne (tgt := 104) C dX0_bodyOf_96 (by decide) hF (fun hF => ?_) (fun hF => ?_)
              · refine kp_iconst C dX0_bodyOf_104 ?_
                exact kp_reti C hr hlk G h dX0_bodyOf_105 hF
              · refine kp_bipush C dX0_bodyOf_99 rfl ?_
                refine kp_goto (tgt := 105) C dX0_bodyOf_101 (by decide) ?_
                exact kp_reti C hr hlk G h dX0_bodyOf_105 hF
            · have hF := hb q5
              clear ha hb
              obtain ⟨hx, -, ha, hb⟩ := kp_eq_s hF
              by_cases q6 : a1 = 6
              · have hF := ha q6
                clear ha hb
                refine kp_tabIn (v := 6) (tgt := 106) C dX0_bodyOf_1 q6 (by decide) rfl (by decide) ?_
                refine kp_iload_n C dX0_bodyOf_106 rfl (lv_at hl 1 rfl) ?_
                refine kp_iconst C dX0_bodyOf_107 ?_
                refine kp_icmp_ne (tgt := 116) C dX0_bodyOf_108 (by decide) hF (fun hF => ?_) (fun hF => ?_)
                · refine kp_iconst C dX0_bodyOf_116 ?_
                  exact kp_reti C hr hlk G h dX0_bodyOf_117 hF
                · refine kp_bipush C dX0_bodyOf_111 rfl ?_
                  refine kp_goto (tgt := 117) C dX0_bodyOf_113 (by decide) ?_
                  exact kp_reti C hr hlk G h dX0_bodyOf_117 hF
              · have hF := hb q6
                clear ha hb
                refine kp_tabOut (tgt := 118) C dX0_bodyOf_1 hx (by omega) (by decide) ?_
                refine kp_iconst C dX0_bodyOf_118 ?_
                exact kp_reti C hr hlk G h dX0_bodyOf_119 hF
def kf_X9_above  (a1 : Int) (σ_0 : kp_W) : kp_R :=
  kp_eq a1 1 (some (0, σ_0)) (kp_eq a1 2 (some (0, σ_0)) (kp_eq a1 3 (some (0, σ_0)) (kp_eq a1 4 (some (1, σ_0)) (kp_eq a1 5 (some (2, σ_0)) (kp_eq a1 6 (some (3, σ_0)) (some ((-1), σ_0)))))))
set_option maxRecDepth 100000 in
set_option maxHeartbeats 4000000 in
theorem kc_X9_above {l : Launch} {X : kp_X} {a1 : Int}  {σ_0 σ' : kp_W} {r : Int}   (hF : (kf_X9_above a1 σ_0) = some (r, σ')) : kp_Met l yX9_above cX9_above 1 (some .int) 0 X kp_lK 55 σ_0 [kp_iv a1] (kp_Qi X kp_lK 55 σ' r) := by
  refine kp_body pnX9 (Nat.le_of_ble_eq_true rfl) ?_
  intro p e s m args below meth c ls C hr hlk G h hl
  unfold kf_X9_above at hF
  have hl : lv_has ls 1 [(0, kp_iv a1)] := hl
  refine kp_iload_n C dX9_above_0 rfl (lv_at hl 0 rfl) ?_
  obtain ⟨hx, -, ha, hb⟩ := kp_eq_s hF
  by_cases q0 : a1 = 1
  · have hF := ha q0
    clear ha hb
    refine kp_tabIn (v := 1) (tgt := 40) C dX9_above_1 q0 (by decide) rfl (by decide) ?_
    refine kp_iconst C dX9_above_40 ?_
    exact kp_reti C hr hlk G h dX9_above_41 hF
  · have hF := hb q0
    clear ha hb
    obtain ⟨hx, -, ha, hb⟩ := kp_eq_s hF
    by_cases q1 : a1 = 2
    · have hF := ha q1
      clear ha hb
      refine kp_tabIn (v := 2) (tgt := 40) C dX9_above_1 q1 (by decide) rfl (by decide) ?_
      refine kp_iconst C dX9_above_40 ?_
      exact kp_reti C hr hlk G h dX9_above_41 hF
    · have hF := hb q1
      clear ha hb
      obtain ⟨hx, -, ha, hb⟩ := kp_eq_s hF
      by_cases q2 : a1 = 3
      · have hF := ha q2
        clear ha hb
        refine kp_tabIn (v := 3) (tgt := 40) C dX9_above_1 q2 (by decide) rfl (by decide) ?_
        refine kp_iconst C dX9_above_40 ?_
        exact kp_reti C hr hlk G h dX9_above_41 hF
      · have hF := hb q2
        clear ha hb
        obtain ⟨hx, -, ha, hb⟩ := kp_eq_s hF
        by_cases q3 : a1 = 4
        · have hF := ha q3
          clear ha hb
          refine kp_tabIn (v := 4) (tgt := 42) C dX9_above_1 q3 (by decide) rfl (by decide) ?_
          refine kp_iconst C dX9_above_42 ?_
          exact kp_reti C hr hlk G h dX9_above_43 hF
        · have hF := hb q3
          clear ha hb
          obtain ⟨hx, -, ha, hb⟩ := kp_eq_s hF
          by_cases q4 : a1 = 5
          · have hF := ha q4
            clear ha hb
            refine kp_tabIn (v := 5) (tgt := 44) C dX9_above_1 q4 (by decide) rfl (by decide) ?_
            refine kp_iconst C dX9_above_44 ?_
            exact kp_reti C hr hlk G h dX9_above_45 hF
          · have hF := hb q4
            clear ha hb
            obtain ⟨hx, -, ha, hb⟩ := kp_eq_s hF
            by_cases q5 : a1 = 6
            · have hF := ha q5
              clear ha hb
              refine kp_tabIn (v := 6) (tgt := 46) C dX9_above_1 q5 (by decide) rfl (by decide) ?_
              refine kp_iconst C dX9_above_46 ?_
              exact kp_reti C hr hlk G h dX9_above_47 hF
            · have hF := hb q5
              clear ha hb
              refine kp_tabOut (tgt := 48) C dX9_above_1 hx (by omega) (by decide) ?_
              refine kp_iconst C dX9_above_48 ?_
              exact kp_reti C hr hlk G h dX9_above_49 hF
def kl_X0_send_15 (a2 : Int) : Nat → Int → Int → kp_W → (Int → Int → kp_W → kp_R) → kp_R
  | 0, _, _, _, _ => none
  | n + 1, x5_1, x6_1, σ_1, k => kp_ls x6_1 7 (kp_bd (kf_X9_isKind x5_1 σ_1) (fun r_2 σ_5 => kp_eq r_2 0 (some (0, σ_5)) (kp_bd (kf_X0_bodyOf x5_1 a2 σ_5) (fun r_3 σ_6 => kp_lt (r_3 : Int) (fun x7_1 => kp_eq x7_1 0 (kp_bd (kf_X9_above x5_1 σ_6) (fun r_4 σ_7 => kp_lt (r_4 : Int) (fun x5_3 => kp_lt (x6_1 + 1) (fun x6_2 => kl_X0_send_15 a2 n x5_3 x6_2 σ_7 k)))) (k x5_1 x7_1 σ_6)))))) (some (0, σ_1))
def kf_X0_send (run : Int → Int → Int → Int → kp_W → kp_R) (a1 : Int) (a2 : Int) (a3 : Int) (a4 : Int) (σ_0 : kp_W) : kp_R :=
  kp_ls 20 a4 (some (0, σ_0)) (kp_lt (a1 : Int) (fun x5_0 => kp_lt (0 : Int) (fun x6_0 => kl_X0_send_15 a2 kp_fu x5_0 x6_0 σ_0 (fun (x5_2 : Int) (x7_0 : Int) (σ_2 : kp_W) => kp_bd (kf_X9_above x5_2 σ_2) (fun r_0 σ_3 => kp_bd (run x7_0 r_0 a3 (a4 + 1) σ_3) (fun r_1 σ_4 => some (r_1, σ_4)))))))
set_option maxRecDepth 100000 in
set_option maxHeartbeats 4000000 in
theorem kc_X0_send {l : Launch} {X : kp_X} {D : Nat} {a1 : Int} {a2 : Int} {a3 : Int} {a4 : Int} {run : Int → Int → Int → Int → kp_W → kp_R} {σ_0 σ' : kp_W} {r : Int}  (hD : 1 ≤ D) {D0 : Nat} (eD0 : D0 + 1 ≤ D) (hrun : ∀ (b0 : Int) (b1 : Int) (b2 : Int) (b3 : Int) (σ σ' : kp_W) (r : Int), run b0 b1 b2 b3 σ = some (r, σ') → kp_Met l yX0_run cX0_run 5 (some .int) D0 X kp_lK 55 σ [.ref (kp_ad X 8), kp_iv b0, kp_iv b1, kp_iv b2, kp_iv b3] (kp_Qi X kp_lK 55 σ' r)) (hF : (kf_X0_send run a1 a2 a3 a4 σ_0) = some (r, σ')) : kp_Met l yX0_send cX0_send 8 (some .int) D X kp_lK 55 σ_0 [.ref (kp_ad X 8), kp_iv a1, kp_iv a2, kp_iv a3, kp_iv a4] (kp_Qi X kp_lK 55 σ' r) := by
  refine kp_body pnX0 (Nat.le_of_ble_eq_true rfl) ?_
  intro p e s m args below meth c ls C hr hlk G h hl
  unfold kf_X0_send at hF
  have hl : lv_has ls 8 [(0, .ref (kp_ad X 8)), (1, kp_iv a1), (2, kp_iv a2), (3, kp_iv a3), (4, kp_iv a4)] := hl
  refine kp_iload C dX0_send_0 (lv_at hl 4 rfl) ?_
  refine kp_bipush C dX0_send_2 rfl ?_
  refine kp_icmp_le (tgt := 9) C dX0_send_4 (by decide) hF (fun hF => ?_) (fun hF => ?_)
  · refine kp_iload_n C dX0_send_9 rfl (lv_at hl 1 rfl) ?_
    refine kp_istore (lv' := fun x5_0 => [(5, kp_iv x5_0), (0, .ref (kp_ad X 8)), (1, kp_iv a1), (2, kp_iv a2), (3, kp_iv a3), (4, kp_iv a4)]) C dX0_send_10 hl (by decide) (fun _ => rfl) hF (fun x5_0 ls hl hF => ?_)
    refine kp_iconst C dX0_send_12 ?_
    refine kp_istore (lv' := fun x6_0 => [(6, kp_iv x6_0), (5, kp_iv x5_0), (0, .ref (kp_ad X 8)), (1, kp_iv a1), (2, kp_iv a2), (3, kp_iv a3), (4, kp_iv a4)]) C dX0_send_13 hl (by decide) (fun _ => rfl) hF (fun x6_0 ls hl hF => ?_)
    have L15 : ∀ (n : Nat) (x5_1 : Int) (x6_1 : Int) (σ_1 : kp_W) (k : Int → Int → kp_W → kp_R) (H : Heap) (locs : List Loc) (ls : Array Slot), kp_H X kp_lK 55 s σ_1 H locs → lv_has ls 8 [(0, .ref (kp_ad X 8)), (2, kp_iv a2), (3, kp_iv a3), (4, kp_iv a4), (5, kp_iv x5_1), (6, kp_iv x6_1)] → (∀ (x5_2 : Int) (x7_0 : Int) (σ_2 : kp_W) (H : Heap) (locs : List Loc) (ls : Array Slot), kp_H X kp_lK 55 s σ_2 H locs → lv_has ls 8 [(0, .ref (kp_ad X 8)), (3, kp_iv a3), (4, kp_iv a4), (5, kp_iv x5_2), (7, kp_iv x7_0)] → k x5_2 x7_0 σ_2 = some (r, σ') → W p l e (kp_rm D) s m args below meth c H locs 0 0 (MQ below (kp_Qi X kp_lK 55 σ' r) args s 0 0 (kp_A X 55)) (F0 m 43 ls [])) → kl_X0_send_15 a2 n x5_1 x6_1 σ_1 k = some (r, σ') → W p l e (kp_rm D) s m args below meth c H locs 0 0 (MQ below (kp_Qi X kp_lK 55 σ' r) args s 0 0 (kp_A X 55)) (F0 m 15 ls []) := by
      intro n
      induction n with
      | zero =>
        intro x5_1 x6_1 σ_1 k H locs ls h hl K hF
        rw [kl_X0_send_15] at hF
        cases hF
      | succ n ih =>
        intro x5_1 x6_1 σ_1 k H locs ls h hl K hF
        rw [kl_X0_send_15] at hF
        refine kp_iload C dX0_send_15 (lv_at hl 5 rfl) ?_
        refine kp_bipush C dX0_send_17 rfl ?_
        refine kp_icmp_ge (tgt := 73) C dX0_send_19 (by decide) hF (fun hF => ?_) (fun hF => ?_)
        · refine kp_iconst C dX0_send_73 ?_
          exact kp_reti C hr hlk G h dX0_send_74 hF
        · refine kp_iload C dX0_send_22 (lv_at hl 4 rfl) ?_
          obtain ⟨r_2, σ_5, hc, hF⟩ := kp_bd_s hF
          refine kp_ci h (kp_rSN (host := "KnockPipes") (As := [kp_iv x5_1]) (rest := []) C G h (kc_X9_isKind  hc) (by decide +kernel) q3_31 q1_1 q3_32 hd_X9_isKind ⟨by omega, by decide⟩ rfl hl.1 rfl (Nat.le_of_ble_eq_true rfl) dX0_send_24) (fun H locs h => ?_)
          refine kp_if_eq (tgt := 73) C dX0_send_27 (by decide) hF (fun hF => ?_) (fun hF => ?_)
          · refine kp_iconst C dX0_send_73 ?_
            exact kp_reti C hr hlk G h dX0_send_74 hF
          · refine kp_iload C dX0_send_30 (lv_at hl 4 rfl) ?_
            refine kp_iload_n C dX0_send_32 rfl (lv_at hl 1 rfl) ?_
            obtain ⟨r_3, σ_6, hc, hF⟩ := kp_bd_s hF
            refine kp_ci h (kp_rS (As := [kp_iv x5_1, kp_iv a2]) (rest := []) C G h (kc_X0_bodyOf  hc) q3_234 q3_235 q1_10 q3_236 hd_X0_bodyOf ⟨by omega, by decide⟩ rfl hl.1 rfl (Nat.le_of_ble_eq_true rfl) dX0_send_33) (fun H locs h => ?_)
            refine kp_istore (lv' := fun x7_1 => [(7, kp_iv x7_1), (0, .ref (kp_ad X 8)), (2, kp_iv a2), (3, kp_iv a3), (4, kp_iv a4), (5, kp_iv x5_1), (6, kp_iv x6_1)]) C dX0_send_36 hl (by decide) (fun _ => rfl) hF (fun x7_1 ls hl hF => ?_)
            refine kp_iload C dX0_send_38 (lv_at hl 0 rfl) ?_
            refine kp_if_eq (tgt := 60) C dX0_send_40 (by decide) hF (fun hF => ?_) (fun hF => ?_)
            · refine kp_iload C dX0_send_60 (lv_at hl 5 rfl) ?_
              obtain ⟨r_4, σ_7, hc, hF⟩ := kp_bd_s hF
              refine kp_ci h (kp_rSN (host := "KnockPipes") (As := [kp_iv x5_1]) (rest := []) C G h (kc_X9_above  hc) (by decide +kernel) q3_80 q1_1 q3_81 hd_X9_above ⟨by omega, by decide⟩ rfl hl.1 rfl (Nat.le_of_ble_eq_true rfl) dX0_send_62) (fun H locs h => ?_)
              refine kp_istore (lv' := fun x5_3 => [(5, kp_iv x5_3), (7, kp_iv x7_1), (0, .ref (kp_ad X 8)), (2, kp_iv a2), (3, kp_iv a3), (4, kp_iv a4), (6, kp_iv x6_1)]) C dX0_send_65 hl (by decide) (fun _ => rfl) hF (fun x5_3 ls hl hF => ?_)
              refine kp_iinc (k := 6) (lv' := fun x6_2 => [(6, kp_iv x6_2), (5, kp_iv x5_3), (7, kp_iv x7_1), (0, .ref (kp_ad X 8)), (2, kp_iv a2), (3, kp_iv a3), (4, kp_iv a4)]) C dX0_send_67 hl rfl (by decide) (fun _ => rfl) hF (fun x6_2 ls hl hF => ?_)
              refine kp_goto (tgt := 15) C dX0_send_70 (by decide) ?_
              exact ih _ _ _ k _ _ _ h (lv_sub hl [3, 4, 5, 6, 1, 0] rfl) K hF
            · exact K _ _ _ _ _ _ h (lv_sub hl [1, 3, 4, 5, 0] rfl) hF
    refine L15 kp_fu _ _ _ _ _ _ _ h (lv_sub hl [2, 4, 5, 6, 1, 0] rfl) (fun x5_2 x7_0 σ_2 H locs ls h hl hF => ?_) hF
    clear L15
    refine kp_aload_n C dX0_send_43 rfl (lv_at hl 0 rfl) ?_
    refine kp_iload C dX0_send_44 (lv_at hl 4 rfl) ?_
    refine kp_iload C dX0_send_46 (lv_at hl 3 rfl) ?_
    obtain ⟨r_0, σ_3, hc, hF⟩ := kp_bd_s hF
    refine kp_ci h (kp_rSN (host := "KnockPipes") (As := [kp_iv x5_2]) (rest := [kp_iv x7_0, .ref (kp_ad X 8)]) C G h (kc_X9_above  hc) (by decide +kernel) q3_80 q1_1 q3_81 hd_X9_above ⟨by omega, by decide⟩ rfl hl.1 rfl (Nat.le_of_ble_eq_true rfl) dX0_send_48) (fun H locs h => ?_)
    refine kp_iload_n C dX0_send_51 rfl (lv_at hl 1 rfl) ?_
    refine kp_iload C dX0_send_52 (lv_at hl 2 rfl) ?_
    refine kp_iconst C dX0_send_54 ?_
    refine kp_iadd C dX0_send_55 ?_
    obtain ⟨r_1, σ_4, hc, hF⟩ := kp_bd_s hF
    refine kp_ci h (kp_rV (k := 8) (As := [kp_iv x7_0, kp_iv r_0, kp_iv a3, kp_iv (a4 + 1)]) (rest := []) C G h (hrun _ _ _ _ _ _ _ hc) q3_238 q4_0 q0_2_14 q1_10 q4_1 ⟨rfl, hd_X0_run⟩ ⟨by omega, by decide⟩ kp_lK8 rfl rfl hl.1 rfl (Nat.le_of_ble_eq_true rfl) dX0_send_56) (fun H locs h => ?_)
    exact kp_reti C hr hlk G h dX0_send_59 hF
  · refine kp_iconst C dX0_send_7 ?_
    exact kp_reti C hr hlk G h dX0_send_8 hF
def kf_X0_run (snd : Int → Int → Int → Int → kp_W → kp_R) (a1 : Int) (a2 : Int) (a3 : Int) (a4 : Int) (σ_0 : kp_W) : kp_R :=
  kp_jn (fun (σ_1 : kp_W) => kp_lt (kp_up σ_1 8 1 ((σ_1 8 1) + 1)) (fun σ_2 => kp_eq a1 1 (some ((a3 + (σ_2 8 3)), σ_2)) (kp_eq a1 2 (kp_bd (snd (σ_2 8 2) 0 a3 a4 σ_2) (fun r_0 σ_3 => some ((r_0 - (σ_3 8 4)), σ_3))) (kp_eq a1 3 (kp_bd (snd (σ_2 8 2) 1 a3 a4 σ_2) (fun r_1 σ_4 => some ((r_1 * 2), σ_4))) (kp_eq a1 11 (kp_bd (snd a2 0 (a3 * 3) a4 σ_2) (fun r_2 σ_5 => some (r_2, σ_5))) (kp_eq a1 21 (kp_bd (snd a2 1 a3 a4 σ_2) (fun r_3 σ_6 => some ((-r_3), σ_6))) (kp_eq a1 31 (kp_bd (snd a2 2 a3 a4 σ_2) (fun r_4 σ_7 => some ((kp_xor r_4 7), σ_7))) (kp_eq a1 41 (kp_bd (snd a2 2 (a3 - 1) a4 σ_2) (fun r_5 σ_8 => kp_bd (snd (σ_8 8 2) 0 2 a4 σ_8) (fun r_6 σ_9 => some ((r_5 + r_6), σ_9)))) (kp_eq a1 51 (kp_bd (snd a2 0 a3 a4 σ_2) (fun r_7 σ_10 => some ((kp_xor r_7 (σ_10 8 3)), σ_10))) (kp_eq a1 61 (kp_bd (snd a2 1 a3 a4 σ_2) (fun r_8 σ_11 => some ((r_8 + (σ_11 8 4)), σ_11))) (some (0, σ_2)))))))))))) (fun j29 => kp_ls (σ_0 8 1) 0 (j29 σ_0) (kp_ls (σ_0 8 1) 20 (kp_ck (0 ≤ (σ_0 8 1) ∧ (σ_0 8 1) < 20) (kp_lt (kp_up σ_0 27 (Int.toNat (σ_0 8 1)) a1) (fun σ_12 => j29 σ_12))) (j29 σ_0)))
set_option maxRecDepth 100000 in
set_option maxHeartbeats 4000000 in
theorem kc_X0_run {l : Launch} {X : kp_X} {D : Nat} {a1 : Int} {a2 : Int} {a3 : Int} {a4 : Int} {snd : Int → Int → Int → Int → kp_W → kp_R} {σ_0 σ' : kp_W} {r : Int}  (hD : 1 ≤ D) {D0 : Nat} (eD0 : D0 + 1 ≤ D) (hsnd : ∀ (b0 : Int) (b1 : Int) (b2 : Int) (b3 : Int) (σ σ' : kp_W) (r : Int), snd b0 b1 b2 b3 σ = some (r, σ') → kp_Met l yX0_send cX0_send 8 (some .int) D0 X kp_lK 55 σ [.ref (kp_ad X 8), kp_iv b0, kp_iv b1, kp_iv b2, kp_iv b3] (kp_Qi X kp_lK 55 σ' r)) (hF : (kf_X0_run snd a1 a2 a3 a4 σ_0) = some (r, σ')) : kp_Met l yX0_run cX0_run 5 (some .int) D X kp_lK 55 σ_0 [.ref (kp_ad X 8), kp_iv a1, kp_iv a2, kp_iv a3, kp_iv a4] (kp_Qi X kp_lK 55 σ' r) := by
  refine kp_body pnX0 (Nat.le_of_ble_eq_true rfl) ?_
  intro p e s m args below meth c ls C hr hlk G h hl
  unfold kf_X0_run at hF
  have hl : lv_has ls 5 [(0, .ref (kp_ad X 8)), (1, kp_iv a1), (2, kp_iv a2), (3, kp_iv a3), (4, kp_iv a4)] := hl
  refine kp_aload_n C dX0_run_0 rfl (lv_at hl 0 rfl) ?_
  refine kp_geti C G h kp_lK8 rfl inWX0 (j := 1) (by decide) q1_236 rfl dX0_run_1 ?_
  obtain ⟨j29, ej29, hF⟩ := kp_jn_s hF
  have J29 : ∀ (σ_1 : kp_W), ∀ (H : Heap) (locs : List Loc) (ls : Array Slot), kp_H X kp_lK 55 s σ_1 H locs → lv_has ls 5 [(0, .ref (kp_ad X 8)), (1, kp_iv a1), (2, kp_iv a2), (3, kp_iv a3), (4, kp_iv a4)] → j29 σ_1 = some (r, σ') → W p l e (kp_rm D) s m args below meth c H locs 0 0 (MQ below (kp_Qi X kp_lK 55 σ' r) args s 0 0 (kp_A X 55)) (F0 m 29 ls []) := by
    intro σ_1 H locs ls h hl hF
    rw [ej29] at hF
    refine kp_aload_n C dX0_run_29 rfl (lv_at hl 0 rfl) ?_
    refine kp_dup C dX0_run_30 rfl ?_
    refine kp_geti C G h kp_lK8 rfl inWX0 (j := 1) (by decide) q1_236 rfl dX0_run_31 ?_
    refine kp_iconst C dX0_run_34 ?_
    refine kp_iadd C dX0_run_35 ?_
    refine kp_puti C G h kp_lK8 rfl inWX0 tyX0 tyX0_ok nmX0 (j := 1) (by decide) q1_236 rfl rfl (by decide +kernel) dX0_run_36 hF (fun σ_2 H locs h hF => ?_)
    refine kp_iload_n C dX0_run_39 rfl (lv_at hl 1 rfl) ?_
    obtain ⟨hx, -, ha, hb⟩ := kp_eq_s hF
    by_cases q0 : a1 = 1
    · have hF := ha q0
      clear ha hb
      refine kp_look (tgt := 124) C dX0_run_40 (by decide) hx (by rw [q0]) (by decide) ?_
      refine kp_iload_n C dX0_run_124 rfl (lv_at hl 3 rfl) ?_
      refine kp_aload_n C dX0_run_125 rfl (lv_at hl 0 rfl) ?_
      refine kp_geti C G h kp_lK8 rfl inWX0 (j := 3) (by decide) q1_239 rfl dX0_run_126 ?_
      refine kp_iadd C dX0_run_129 ?_
      exact kp_reti C hr hlk G h dX0_run_130 hF
    · have hF := hb q0
      clear ha hb
      obtain ⟨hx, -, ha, hb⟩ := kp_eq_s hF
      by_cases q1 : a1 = 2
      · have hF := ha q1
        clear ha hb
        refine kp_look (tgt := 131) C dX0_run_40 (by decide) hx (by rw [q1]) (by decide) ?_
        refine kp_aload_n C dX0_run_131 rfl (lv_at hl 0 rfl) ?_
        refine kp_aload_n C dX0_run_132 rfl (lv_at hl 0 rfl) ?_
        refine kp_geti C G h kp_lK8 rfl inWX0 (j := 2) (by decide) q1_238 rfl dX0_run_133 ?_
        refine kp_iconst C dX0_run_136 ?_
        refine kp_iload_n C dX0_run_137 rfl (lv_at hl 3 rfl) ?_
        refine kp_iload C dX0_run_138 (lv_at hl 4 rfl) ?_
        obtain ⟨r_0, σ_3, hc, hF⟩ := kp_bd_s hF
        refine kp_ci h (kp_rV (k := 8) (As := [kp_iv (σ_2 8 2), kp_iv 0, kp_iv a3, kp_iv a4]) (rest := []) C G h (hsnd _ _ _ _ _ _ _ hc) q3_229 q3_231 q0_2_13 q1_10 q3_232 ⟨rfl, hd_X0_send⟩ ⟨by omega, by decide⟩ kp_lK8 rfl rfl hl.1 rfl (Nat.le_of_ble_eq_true rfl) dX0_run_140) (fun H locs h => ?_)
        refine kp_aload_n C dX0_run_143 rfl (lv_at hl 0 rfl) ?_
        refine kp_geti C G h kp_lK8 rfl inWX0 (j := 4) (by decide) q2_0 rfl dX0_run_144 ?_
        refine kp_isub C dX0_run_147 ?_
        exact kp_reti C hr hlk G h dX0_run_148 hF
      · have hF := hb q1
        clear ha hb
        obtain ⟨hx, -, ha, hb⟩ := kp_eq_s hF
        by_cases q2 : a1 = 3
        · have hF := ha q2
          clear ha hb
          refine kp_look (tgt := 149) C dX0_run_40 (by decide) hx (by rw [q2]) (by decide) ?_
          refine kp_aload_n C dX0_run_149 rfl (lv_at hl 0 rfl) ?_
          refine kp_aload_n C dX0_run_150 rfl (lv_at hl 0 rfl) ?_
          refine kp_geti C G h kp_lK8 rfl inWX0 (j := 2) (by decide) q1_238 rfl dX0_run_151 ?_
          refine kp_iconst C dX0_run_154 ?_
          refine kp_iload_n C dX0_run_155 rfl (lv_at hl 3 rfl) ?_
          refine kp_iload C dX0_run_156 (lv_at hl 4 rfl) ?_
          obtain ⟨r_1, σ_4, hc, hF⟩ := kp_bd_s hF
          refine kp_ci h (kp_rV (k := 8) (As := [kp_iv (σ_2 8 2), kp_iv 1, kp_iv a3, kp_iv a4]) (rest := []) C G h (hsnd _ _ _ _ _ _ _ hc) q3_229 q3_231 q0_2_13 q1_10 q3_232 ⟨rfl, hd_X0_send⟩ ⟨by omega, by decide⟩ kp_lK8 rfl rfl hl.1 rfl (Nat.le_of_ble_eq_true rfl) dX0_run_158) (fun H locs h => ?_)
          refine kp_iconst C dX0_run_161 ?_
          refine kp_imul C dX0_run_162 ?_
          exact kp_reti C hr hlk G h dX0_run_163 hF
        · have hF := hb q2
          clear ha hb
          obtain ⟨hx, -, ha, hb⟩ := kp_eq_s hF
          by_cases q3 : a1 = 11
          · have hF := ha q3
            clear ha hb
            refine kp_look (tgt := 164) C dX0_run_40 (by decide) hx (by rw [q3]) (by decide) ?_
            refine kp_aload_n C dX0_run_164 rfl (lv_at hl 0 rfl) ?_
            refine kp_iload_n C dX0_run_165 rfl (lv_at hl 2 rfl) ?_
            refine kp_iconst C dX0_run_166 ?_
            refine kp_iload_n C dX0_run_167 rfl (lv_at hl 3 rfl) ?_
            refine kp_iconst C dX0_run_168 ?_
            refine kp_imul C dX0_run_169 ?_
            refine kp_iload C dX0_run_170 (lv_at hl 4 rfl) ?_
            obtain ⟨r_2, σ_5, hc, hF⟩ := kp_bd_s hF
            refine kp_ci h (kp_rV (k := 8) (As := [kp_iv a2, kp_iv 0, kp_iv (a3 * 3), kp_iv a4]) (rest := []) C G h (hsnd _ _ _ _ _ _ _ hc) q3_229 q3_231 q0_2_13 q1_10 q3_232 ⟨rfl, hd_X0_send⟩ ⟨by omega, by decide⟩ kp_lK8 rfl rfl hl.1 rfl (Nat.le_of_ble_eq_true rfl) dX0_run_172) (fun H locs h => ?_)
            exact kp_reti C hr hlk G h dX0_run_175 hF
          · have hF := hb q3
            clear ha hb
            obtain ⟨hx, -, ha, hb⟩ := kp_eq_s hF
            by_cases q4 : a1 = 21
            · have hF := ha q4
              clear ha hb
              refine kp_look (tgt := 176) C dX0_run_40 (by decide) hx (by rw [q4]) (by decide) ?_
              refine kp_aload_n C dX0_run_176 rfl (lv_at hl 0 rfl) ?_
              refine kp_iload_n C dX0_run_177 rfl (lv_at hl 2 rfl) ?_
              refine kp_iconst C dX0_run_178 ?_
              refine kp_iload_n C dX0_run_179 rfl (lv_at hl 3 rfl) ?_
              refine kp_iload C dX0_run_180 (lv_at hl 4 rfl) ?_
              obtain ⟨r_3, σ_6, hc, hF⟩ := kp_bd_s hF
              refine kp_ci h (kp_rV (k := 8) (As := [kp_iv a2, kp_iv 1, kp_iv a3, kp_iv a4]) (rest := []) C G h (hsnd _ _ _ _ _ _ _ hc) q3_229 q3_231 q0_2_13 q1_10 q3_232 ⟨rfl, hd_X0_send⟩ ⟨by omega, by decide⟩ kp_lK8 rfl rfl hl.1 rfl (Nat.le_of_ble_eq_true rfl) dX0_run_182) (fun H locs h => ?_)
              refine kp_ineg C dX0_run_185 ?_
              exact kp_reti C hr hlk G h dX0_run_186 hF
            · have hF := hb q4
              clear ha hb
              obtain ⟨hx, -, ha, hb⟩ := kp_eq_s hF
              by_cases q5 : a1 = 31
              · have hF := ha q5
                clear ha hb
                refine kp_look (tgt := 187) C dX0_run_40 (by decide) hx (by rw [q5]) (by decide) ?_
                refine kp_aload_n C dX0_run_187 rfl (lv_at hl 0 rfl) ?_
                refine kp_iload_n C dX0_run_188 rfl (lv_at hl 2 rfl) ?_
                refine kp_iconst C dX0_run_189 ?_
                refine kp_iload_n C dX0_run_190 rfl (lv_at hl 3 rfl) ?_
                refine kp_iload C dX0_run_191 (lv_at hl 4 rfl) ?_
                obtain ⟨r_4, σ_7, hc, hF⟩ := kp_bd_s hF
                refine kp_ci h (kp_rV (k := 8) (As := [kp_iv a2, kp_iv 2, kp_iv a3, kp_iv a4]) (rest := []) C G h (hsnd _ _ _ _ _ _ _ hc) q3_229 q3_231 q0_2_13 q1_10 q3_232 ⟨rfl, hd_X0_send⟩ ⟨by omega, by decide⟩ kp_lK8 rfl rfl hl.1 rfl (Nat.le_of_ble_eq_true rfl) dX0_run_193) (fun H locs h => ?_)
                refine kp_bipush C dX0_run_196 rfl ?_
                refine kp_xixor C dX0_run_198 ?_
                exact kp_reti C hr hlk G h dX0_run_199 hF
              · have hF := hb q5
                clear ha hb
                obtain ⟨hx, -, ha, hb⟩ := kp_eq_s hF
                by_cases q6 : a1 = 41
                · have hF := ha q6
                  clear ha hb
                  refine kp_look (tgt := 200) C dX0_run_40 (by decide) hx (by rw [q6]) (by decide) ?_
                  refine kp_aload_n C dX0_run_200 rfl (lv_at hl 0 rfl) ?_
                  refine kp_iload_n C dX0_run_201 rfl (lv_at hl 2 rfl) ?_
                  refine kp_iconst C dX0_run_202 ?_
                  refine kp_iload_n C dX0_run_203 rfl (lv_at hl 3 rfl) ?_
                  refine kp_iconst C dX0_run_204 ?_
                  refine kp_isub C dX0_run_205 ?_
                  refine kp_iload C dX0_run_206 (lv_at hl 4 rfl) ?_
                  obtain ⟨r_5, σ_8, hc, hF⟩ := kp_bd_s hF
                  refine kp_ci h (kp_rV (k := 8) (As := [kp_iv a2, kp_iv 2, kp_iv (a3 - 1), kp_iv a4]) (rest := []) C G h (hsnd _ _ _ _ _ _ _ hc) q3_229 q3_231 q0_2_13 q1_10 q3_232 ⟨rfl, hd_X0_send⟩ ⟨by omega, by decide⟩ kp_lK8 rfl rfl hl.1 rfl (Nat.le_of_ble_eq_true rfl) dX0_run_208) (fun H locs h => ?_)
                  refine kp_aload_n C dX0_run_211 rfl (lv_at hl 0 rfl) ?_
                  refine kp_aload_n C dX0_run_212 rfl (lv_at hl 0 rfl) ?_
                  refine kp_geti C G h kp_lK8 rfl inWX0 (j := 2) (by decide) q1_238 rfl dX0_run_213 ?_
                  refine kp_iconst C dX0_run_216 ?_
                  refine kp_iconst C dX0_run_217 ?_
                  refine kp_iload C dX0_run_218 (lv_at hl 4 rfl) ?_
                  obtain ⟨r_6, σ_9, hc, hF⟩ := kp_bd_s hF
                  refine kp_ci h (kp_rV (k := 8) (As := [kp_iv (σ_8 8 2), kp_iv 0, kp_iv 2, kp_iv a4]) (rest := [kp_iv r_5]) C G h (hsnd _ _ _ _ _ _ _ hc) q3_229 q3_231 q0_2_13 q1_10 q3_232 ⟨rfl, hd_X0_send⟩ ⟨by omega, by decide⟩ kp_lK8 rfl rfl hl.1 rfl (Nat.le_of_ble_eq_true rfl) dX0_run_220) (fun H locs h => ?_)
                  refine kp_iadd C dX0_run_223 ?_
                  exact kp_reti C hr hlk G h dX0_run_224 hF
                · have hF := hb q6
                  clear ha hb
                  obtain ⟨hx, -, ha, hb⟩ := kp_eq_s hF
                  by_cases q7 : a1 = 51
                  · have hF := ha q7
                    clear ha hb
                    refine kp_look (tgt := 225) C dX0_run_40 (by decide) hx (by rw [q7]) (by decide) ?_
                    refine kp_aload_n C dX0_run_225 rfl (lv_at hl 0 rfl) ?_
                    refine kp_iload_n C dX0_run_226 rfl (lv_at hl 2 rfl) ?_
                    refine kp_iconst C dX0_run_227 ?_
                    refine kp_iload_n C dX0_run_228 rfl (lv_at hl 3 rfl) ?_
                    refine kp_iload C dX0_run_229 (lv_at hl 4 rfl) ?_
                    obtain ⟨r_7, σ_10, hc, hF⟩ := kp_bd_s hF
                    refine kp_ci h (kp_rV (k := 8) (As := [kp_iv a2, kp_iv 0, kp_iv a3, kp_iv a4]) (rest := []) C G h (hsnd _ _ _ _ _ _ _ hc) q3_229 q3_231 q0_2_13 q1_10 q3_232 ⟨rfl, hd_X0_send⟩ ⟨by omega, by decide⟩ kp_lK8 rfl rfl hl.1 rfl (Nat.le_of_ble_eq_true rfl) dX0_run_231) (fun H locs h => ?_)
                    refine kp_aload_n C dX0_run_234 rfl (lv_at hl 0 rfl) ?_
                    refine kp_geti C G h kp_lK8 rfl inWX0 (j := 3) (by decide) q1_239 rfl dX0_run_235 ?_
                    refine kp_xixor C dX0_run_238 ?_
                    exact kp_reti C hr hlk G h dX0_run_239 hF
                  · have hF := hb q7
                    clear ha hb
                    obtain ⟨hx, -, ha, hb⟩ := kp_eq_s hF
                    by_cases q8 : a1 = 61
                    · have hF := ha q8
                      clear ha hb
                      refine kp_look (tgt := 240) C dX0_run_40 (by decide) hx (by rw [q8]) (by decide) ?_
                      refine kp_aload_n C dX0_run_240 rfl (lv_at hl 0 rfl) ?_
                      refine kp_iload_n C dX0_run_241 rfl (lv_at hl 2 rfl) ?_
                      refine kp_iconst C dX0_run_242 ?_
                      refine kp_iload_n C dX0_run_243 rfl (lv_at hl 3 rfl) ?_
                      refine kp_iload C dX0_run_244 (lv_at hl 4 rfl) ?_
                      obtain ⟨r_8, σ_11, hc, hF⟩ := kp_bd_s hF
                      refine kp_ci h (kp_rV (k := 8) (As := [kp_iv a2, kp_iv 1, kp_iv a3, kp_iv a4]) (rest := []) C G h (hsnd _ _ _ _ _ _ _ hc) q3_229 q3_231 q0_2_13 q1_10 q3_232 ⟨rfl, hd_X0_send⟩ ⟨by omega, by decide⟩ kp_lK8 rfl rfl hl.1 rfl (Nat.le_of_ble_eq_true rfl) dX0_run_246) (fun H locs h => ?_)
                      refine kp_aload_n C dX0_run_249 rfl (lv_at hl 0 rfl) ?_
                      refine kp_geti C G h kp_lK8 rfl inWX0 (j := 4) (by decide) q2_0 rfl dX0_run_250 ?_
                      refine kp_iadd C dX0_run_253 ?_
                      exact kp_reti C hr hlk G h dX0_run_254 hF
                    · have hF := hb q8
                      clear ha hb
                      refine kp_look (off := 215) (tgt := 255) C dX0_run_40 (by decide) hx (by simp only [Op.lookupswitch.offset]; repeat rw [if_neg (by omega)]) (by decide) ?_
                      refine kp_iconst C dX0_run_255 ?_
                      exact kp_reti C hr hlk G h dX0_run_256 hF
  clear ej29
  refine kp_if_lt (tgt := 29) C dX0_run_4 (by decide) hF (fun hF => ?_) (fun hF => ?_)
  · exact J29 _ _ _ _ h (lv_sub hl [0, 1, 2, 3, 4] rfl) hF
  · refine kp_aload_n C dX0_run_7 rfl (lv_at hl 0 rfl) ?_
    refine kp_geti C G h kp_lK8 rfl inWX0 (j := 1) (by decide) q1_236 rfl dX0_run_8 ?_
    refine kp_aload_n C dX0_run_11 rfl (lv_at hl 0 rfl) ?_
    refine kp_getr C G h kp_lK8 rfl inWX0 (j := 0) (by decide) q1_234 rfl dX0_run_12 ?_
    refine kp_alen C G h (n := 20) kp_lK27 (by decide) dX0_run_15 ?_
    refine kp_icmp_ge (tgt := 29) C dX0_run_16 (by decide) hF (fun hF => ?_) (fun hF => ?_)
    · exact J29 _ _ _ _ h (lv_sub hl [0, 1, 2, 3, 4] rfl) hF
    · refine kp_aload_n C dX0_run_19 rfl (lv_at hl 0 rfl) ?_
      refine kp_getr C G h kp_lK8 rfl inWX0 (j := 0) (by decide) q1_234 rfl dX0_run_20 ?_
      refine kp_aload_n C dX0_run_23 rfl (lv_at hl 0 rfl) ?_
      refine kp_geti C G h kp_lK8 rfl inWX0 (j := 1) (by decide) q1_236 rfl dX0_run_24 ?_
      refine kp_iload_n C dX0_run_27 rfl (lv_at hl 1 rfl) ?_
      refine kp_iast C G h (n := 20) kp_lK27 (by decide) dX0_run_28 hF (fun σ_12 H locs h hF => ?_)
      exact J29 _ _ _ _ h (lv_sub hl [0, 1, 2, 3, 4] rfl) hF
def kt_X0_send : Nat → Int → Int → Int → Int → kp_W → kp_R
  | 0, _, _, _, _, _ => none
  | n + 1, a1, a2, a3, a4, σ => kf_X0_send (fun a1 a2 a3 a4 σ => kf_X0_run (kt_X0_send n) a1 a2 a3 a4 σ) a1 a2 a3 a4 σ
theorem kt_X0_send_c' {l : Launch} {X : kp_X} : ∀ (n : Nat) (b0 b1 b2 b3 : Int) (σ σ' : kp_W) (r : Int), kt_X0_send n b0 b1 b2 b3 σ = some (r, σ') → kp_Met l yX0_send cX0_send 8 (some .int) (1 + 4 * n) X kp_lK 55 σ [.ref (kp_ad X 8), kp_iv b0, kp_iv b1, kp_iv b2, kp_iv b3] (kp_Qi X kp_lK 55 σ' r)
  | 0, _, _, _, _, _, _, _, h => by rw [kt_X0_send] at h; cases h
  | n + 1, b0, b1, b2, b3, σ, σ', r, h => by
    rw [kt_X0_send] at h
    exact kc_X0_send (D := 1 + 4 * (n + 1)) (by omega) (D0 := 1 + 4 * n + 1) (by omega) (fun b0 b1 b2 b3 σ σ' r h => kc_X0_run (D := 1 + 4 * n + 1) (by omega) (D0 := 1 + 4 * n) (by omega) (kt_X0_send_c' n) h) h
theorem kt_X0_send_c {l : Launch} {X : kp_X} (n : Nat) {b0 b1 b2 b3 : Int} {σ σ' : kp_W} {r : Int} (h : kt_X0_send n b0 b1 b2 b3 σ = some (r, σ')) : kp_Met l yX0_send cX0_send 8 (some .int) (1 + 4 * n) X kp_lK 55 σ [.ref (kp_ad X 8), kp_iv b0, kp_iv b1, kp_iv b2, kp_iv b3] (kp_Qi X kp_lK 55 σ' r) := kt_X0_send_c' n _ _ _ _ _ _ _ h

def kf_X0_start  (a2 : Int) (a3 : Int) (a4 : Int) (σ_0 : kp_W) : kp_R :=
  kp_lt (kp_up σ_0 8 1 0) (fun σ_1 => kp_ck (0 ≤ a2 ∧ a2 < 10) (kp_lt (kp_up σ_1 8 2 (σ_1 12 (Int.toNat a2))) (fun σ_2 => kp_lt (kp_up σ_2 8 3 a2) (fun σ_3 => kp_ck (0 ≤ a2 ∧ a2 < 10) (kp_lt (kp_up σ_3 8 4 (σ_3 14 (Int.toNat a2))) (fun σ_4 => kp_bd (kt_X0_send 30 (σ_4 8 2) a3 a4 0 σ_4) (fun r_0 σ_5 => some (r_0, σ_5))))))))
set_option maxRecDepth 100000 in
set_option maxHeartbeats 4000000 in
theorem kc_X0_start {l : Launch} {X : kp_X} {a2 : Int} {a3 : Int} {a4 : Int}  {σ_0 σ' : kp_W} {r : Int}   (hF : (kf_X0_start a2 a3 a4 σ_0) = some (r, σ')) : kp_Met l yX0_start cX0_start 5 (some .int) 125 X kp_lK 55 σ_0 [.ref (kp_ad X 8), .ref (kp_ad X 11), kp_iv a2, kp_iv a3, kp_iv a4] (kp_Qi X kp_lK 55 σ' r) := by
  refine kp_body pnX0 (Nat.le_of_ble_eq_true rfl) ?_
  intro p e s m args below meth c ls C hr hlk G h hl
  unfold kf_X0_start at hF
  have hl : lv_has ls 5 [(0, .ref (kp_ad X 8)), (1, .ref (kp_ad X 11)), (2, kp_iv a2), (3, kp_iv a3), (4, kp_iv a4)] := hl
  refine kp_aload_n C dX0_start_0 rfl (lv_at hl 0 rfl) ?_
  refine kp_iconst C dX0_start_1 ?_
  refine kp_puti C G h kp_lK8 rfl inWX0 tyX0 tyX0_ok nmX0 (j := 1) (by decide) q1_236 rfl rfl (by decide +kernel) dX0_start_2 hF (fun σ_1 H locs h hF => ?_)
  refine kp_aload_n C dX0_start_5 rfl (lv_at hl 0 rfl) ?_
  refine kp_aload_n C dX0_start_6 rfl (lv_at hl 1 rfl) ?_
  refine kp_getr C G h kp_lK11 rfl inWX3 (j := 0) (by decide) q1_103 rfl dX0_start_7 ?_
  refine kp_iload_n C dX0_start_10 rfl (lv_at hl 2 rfl) ?_
  refine kp_iald C G h (n := 10) kp_lK12 (by decide) dX0_start_11 hF (fun hF => ?_)
  refine kp_puti C G h kp_lK8 rfl inWX0 tyX0 tyX0_ok nmX0 (j := 2) (by decide) q1_238 rfl rfl (by decide +kernel) dX0_start_12 hF (fun σ_2 H locs h hF => ?_)
  refine kp_aload_n C dX0_start_15 rfl (lv_at hl 0 rfl) ?_
  refine kp_iload_n C dX0_start_16 rfl (lv_at hl 2 rfl) ?_
  refine kp_puti C G h kp_lK8 rfl inWX0 tyX0 tyX0_ok nmX0 (j := 3) (by decide) q1_239 rfl rfl (by decide +kernel) dX0_start_17 hF (fun σ_3 H locs h hF => ?_)
  refine kp_aload_n C dX0_start_20 rfl (lv_at hl 0 rfl) ?_
  refine kp_aload_n C dX0_start_21 rfl (lv_at hl 1 rfl) ?_
  refine kp_getr C G h kp_lK11 rfl inWX3 (j := 2) (by decide) q1_110 rfl dX0_start_22 ?_
  refine kp_iload_n C dX0_start_25 rfl (lv_at hl 2 rfl) ?_
  refine kp_iald C G h (n := 10) kp_lK14 (by decide) dX0_start_26 hF (fun hF => ?_)
  refine kp_puti C G h kp_lK8 rfl inWX0 tyX0 tyX0_ok nmX0 (j := 4) (by decide) q2_0 rfl rfl (by decide +kernel) dX0_start_27 hF (fun σ_4 H locs h hF => ?_)
  refine kp_aload_n C dX0_start_30 rfl (lv_at hl 0 rfl) ?_
  refine kp_aload_n C dX0_start_31 rfl (lv_at hl 0 rfl) ?_
  refine kp_geti C G h kp_lK8 rfl inWX0 (j := 2) (by decide) q1_238 rfl dX0_start_32 ?_
  refine kp_iload_n C dX0_start_35 rfl (lv_at hl 3 rfl) ?_
  refine kp_iload C dX0_start_36 (lv_at hl 4 rfl) ?_
  refine kp_iconst C dX0_start_38 ?_
  obtain ⟨r_0, σ_5, hc, hF⟩ := kp_bd_s hF
  refine kp_ci h (kp_rV (k := 8) (As := [kp_iv (σ_4 8 2), kp_iv a3, kp_iv a4, kp_iv 0]) (rest := []) C G h (kt_X0_send_c 30 hc) q3_229 q3_231 q0_2_13 q1_10 q3_232 ⟨rfl, hd_X0_send⟩ ⟨by decide, by decide⟩ kp_lK8 rfl rfl hl.1 rfl (Nat.le_of_ble_eq_true rfl) dX0_start_39) (fun H locs h => ?_)
  exact kp_reti C hr hlk G h dX0_start_42 hF
def kf_X7_copy_46_3   (σ_0 : kp_W) : kp_R :=
  kp_lt (kp_fill σ_0 47 (σ_0 4) 120) (fun σ_1 => kp_lt (kp_up σ_1 46 1 (σ_1 3 1)) (fun σ_2 => some (0, σ_2)))
set_option maxRecDepth 100000 in
set_option maxHeartbeats 4000000 in
theorem kc_X7_copy_46_3 {l : Launch} {X : kp_X}  {σ_0 σ' : kp_W} {r : Int}   (hF : (kf_X7_copy_46_3 σ_0) = some (r, σ')) : kp_Met l yX7_copy cX7_copy 2 none 1 X kp_lK 55 σ_0 [.ref (kp_ad X 46), .ref (kp_ad X 3)] (kp_Qv X kp_lK 55 σ') := by
  refine kp_body pnX7 (Nat.le_of_ble_eq_true rfl) ?_
  intro p e s m args below meth c ls C hr hlk G h hl
  unfold kf_X7_copy_46_3 at hF
  have hl : lv_has ls 2 [(0, .ref (kp_ad X 46)), (1, .ref (kp_ad X 3))] := hl
  refine kp_aload_n C dX7_copy_0 rfl (lv_at hl 1 rfl) ?_
  refine kp_getr C G h kp_lK3 rfl inWX7 (j := 0) (by decide) q1_40 rfl dX7_copy_1 ?_
  refine kp_iconst C dX7_copy_4 ?_
  refine kp_aload_n C dX7_copy_5 rfl (lv_at hl 0 rfl) ?_
  refine kp_getr C G h kp_lK46 rfl inWX7 (j := 0) (by decide) q1_40 rfl dX7_copy_6 ?_
  refine kp_iconst C dX7_copy_9 ?_
  refine kp_bipush C dX7_copy_10 rfl ?_
  refine kp_acI (n := 120) C G h hl.1 q2_68 q1_66 q1_65 q1_5 kp_lK4 kp_lK47 (by decide) (by decide) (Nat.le_of_ble_eq_true rfl) dX7_copy_12 hF (fun σ_1 H locs h hF => ?_)
  refine kp_aload_n C dX7_copy_15 rfl (lv_at hl 0 rfl) ?_
  refine kp_aload_n C dX7_copy_16 rfl (lv_at hl 1 rfl) ?_
  refine kp_geti C G h kp_lK3 rfl inWX7 (j := 1) (by decide) q1_42 rfl dX7_copy_17 ?_
  refine kp_puti C G h kp_lK46 rfl inWX7 tyX7 tyX7_ok nmX7 (j := 1) (by decide) q1_42 rfl rfl (by decide +kernel) dX7_copy_20 hF (fun σ_2 H locs h hF => ?_)
  exact kp_retv (v := 0) C hr hlk G h dX7_copy_23 hF
def kf_X7_copy_22_3   (σ_0 : kp_W) : kp_R :=
  kp_lt (kp_fill σ_0 23 (σ_0 4) 120) (fun σ_1 => kp_lt (kp_up σ_1 22 1 (σ_1 3 1)) (fun σ_2 => some (0, σ_2)))
set_option maxRecDepth 100000 in
set_option maxHeartbeats 4000000 in
theorem kc_X7_copy_22_3 {l : Launch} {X : kp_X}  {σ_0 σ' : kp_W} {r : Int}   (hF : (kf_X7_copy_22_3 σ_0) = some (r, σ')) : kp_Met l yX7_copy cX7_copy 2 none 1 X kp_lK 55 σ_0 [.ref (kp_ad X 22), .ref (kp_ad X 3)] (kp_Qv X kp_lK 55 σ') := by
  refine kp_body pnX7 (Nat.le_of_ble_eq_true rfl) ?_
  intro p e s m args below meth c ls C hr hlk G h hl
  unfold kf_X7_copy_22_3 at hF
  have hl : lv_has ls 2 [(0, .ref (kp_ad X 22)), (1, .ref (kp_ad X 3))] := hl
  refine kp_aload_n C dX7_copy_0 rfl (lv_at hl 1 rfl) ?_
  refine kp_getr C G h kp_lK3 rfl inWX7 (j := 0) (by decide) q1_40 rfl dX7_copy_1 ?_
  refine kp_iconst C dX7_copy_4 ?_
  refine kp_aload_n C dX7_copy_5 rfl (lv_at hl 0 rfl) ?_
  refine kp_getr C G h kp_lK22 rfl inWX7 (j := 0) (by decide) q1_40 rfl dX7_copy_6 ?_
  refine kp_iconst C dX7_copy_9 ?_
  refine kp_bipush C dX7_copy_10 rfl ?_
  refine kp_acI (n := 120) C G h hl.1 q2_68 q1_66 q1_65 q1_5 kp_lK4 kp_lK23 (by decide) (by decide) (Nat.le_of_ble_eq_true rfl) dX7_copy_12 hF (fun σ_1 H locs h hF => ?_)
  refine kp_aload_n C dX7_copy_15 rfl (lv_at hl 0 rfl) ?_
  refine kp_aload_n C dX7_copy_16 rfl (lv_at hl 1 rfl) ?_
  refine kp_geti C G h kp_lK3 rfl inWX7 (j := 1) (by decide) q1_42 rfl dX7_copy_17 ?_
  refine kp_puti C G h kp_lK22 rfl inWX7 tyX7 tyX7_ok nmX7 (j := 1) (by decide) q1_42 rfl rfl (by decide +kernel) dX7_copy_20 hF (fun σ_2 H locs h hF => ?_)
  exact kp_retv (v := 0) C hr hlk G h dX7_copy_23 hF
def kf_X7_copy_3_22   (σ_0 : kp_W) : kp_R :=
  kp_lt (kp_fill σ_0 4 (σ_0 23) 120) (fun σ_1 => kp_lt (kp_up σ_1 3 1 (σ_1 22 1)) (fun σ_2 => some (0, σ_2)))
set_option maxRecDepth 100000 in
set_option maxHeartbeats 4000000 in
theorem kc_X7_copy_3_22 {l : Launch} {X : kp_X}  {σ_0 σ' : kp_W} {r : Int}   (hF : (kf_X7_copy_3_22 σ_0) = some (r, σ')) : kp_Met l yX7_copy cX7_copy 2 none 1 X kp_lK 55 σ_0 [.ref (kp_ad X 3), .ref (kp_ad X 22)] (kp_Qv X kp_lK 55 σ') := by
  refine kp_body pnX7 (Nat.le_of_ble_eq_true rfl) ?_
  intro p e s m args below meth c ls C hr hlk G h hl
  unfold kf_X7_copy_3_22 at hF
  have hl : lv_has ls 2 [(0, .ref (kp_ad X 3)), (1, .ref (kp_ad X 22))] := hl
  refine kp_aload_n C dX7_copy_0 rfl (lv_at hl 1 rfl) ?_
  refine kp_getr C G h kp_lK22 rfl inWX7 (j := 0) (by decide) q1_40 rfl dX7_copy_1 ?_
  refine kp_iconst C dX7_copy_4 ?_
  refine kp_aload_n C dX7_copy_5 rfl (lv_at hl 0 rfl) ?_
  refine kp_getr C G h kp_lK3 rfl inWX7 (j := 0) (by decide) q1_40 rfl dX7_copy_6 ?_
  refine kp_iconst C dX7_copy_9 ?_
  refine kp_bipush C dX7_copy_10 rfl ?_
  refine kp_acI (n := 120) C G h hl.1 q2_68 q1_66 q1_65 q1_5 kp_lK23 kp_lK4 (by decide) (by decide) (Nat.le_of_ble_eq_true rfl) dX7_copy_12 hF (fun σ_1 H locs h hF => ?_)
  refine kp_aload_n C dX7_copy_15 rfl (lv_at hl 0 rfl) ?_
  refine kp_aload_n C dX7_copy_16 rfl (lv_at hl 1 rfl) ?_
  refine kp_geti C G h kp_lK22 rfl inWX7 (j := 1) (by decide) q1_42 rfl dX7_copy_17 ?_
  refine kp_puti C G h kp_lK3 rfl inWX7 tyX7 tyX7_ok nmX7 (j := 1) (by decide) q1_42 rfl rfl (by decide +kernel) dX7_copy_20 hF (fun σ_2 H locs h hF => ?_)
  exact kp_retv (v := 0) C hr hlk G h dX7_copy_23 hF
def kf_X2_copy_5_40   (σ_0 : kp_W) : kp_R :=
  kp_lt (kp_fill σ_0 6 (σ_0 41) 5) (fun σ_1 => kp_lt (kp_fill σ_1 7 (σ_1 42) 120) (fun σ_2 => kp_lt (kp_fill σ_2 9 (σ_2 44) 10) (fun σ_3 => kp_lt (kp_fill σ_3 10 (σ_3 45) 10) (fun σ_4 => kp_lt (kp_up σ_4 5 4 (σ_4 40 4)) (fun σ_5 => kp_lt (kp_up σ_5 5 5 (σ_5 40 5)) (fun σ_6 => kp_lt (kp_up σ_6 5 6 (σ_6 40 6)) (fun σ_7 => some (0, σ_7))))))))
set_option maxRecDepth 100000 in
set_option maxHeartbeats 4000000 in
theorem kc_X2_copy_5_40 {l : Launch} {X : kp_X}  {σ_0 σ' : kp_W} {r : Int}   (hF : (kf_X2_copy_5_40 σ_0) = some (r, σ')) : kp_Met l yX2_copy cX2_copy 2 none 1 X kp_lK 55 σ_0 [.ref (kp_ad X 5), .ref (kp_ad X 40)] (kp_Qv X kp_lK 55 σ') := by
  refine kp_body pnX2 (Nat.le_of_ble_eq_true rfl) ?_
  intro p e s m args below meth c ls C hr hlk G h hl
  unfold kf_X2_copy_5_40 at hF
  have hl : lv_has ls 2 [(0, .ref (kp_ad X 5)), (1, .ref (kp_ad X 40))] := hl
  refine kp_aload_n C dX2_copy_0 rfl (lv_at hl 1 rfl) ?_
  refine kp_getr C G h kp_lK40 rfl inWX2 (j := 0) (by decide) q1_67 rfl dX2_copy_1 ?_
  refine kp_iconst C dX2_copy_4 ?_
  refine kp_aload_n C dX2_copy_5 rfl (lv_at hl 0 rfl) ?_
  refine kp_getr C G h kp_lK5 rfl inWX2 (j := 0) (by decide) q1_67 rfl dX2_copy_6 ?_
  refine kp_iconst C dX2_copy_9 ?_
  refine kp_iconst C dX2_copy_10 ?_
  refine kp_acI (n := 5) C G h hl.1 q1_64 q1_66 q1_65 q1_5 kp_lK41 kp_lK6 (by decide) (by decide) (Nat.le_of_ble_eq_true rfl) dX2_copy_11 hF (fun σ_1 H locs h hF => ?_)
  refine kp_aload_n C dX2_copy_14 rfl (lv_at hl 1 rfl) ?_
  refine kp_getr C G h kp_lK40 rfl inWX2 (j := 1) (by decide) q1_71 rfl dX2_copy_15 ?_
  refine kp_iconst C dX2_copy_18 ?_
  refine kp_aload_n C dX2_copy_19 rfl (lv_at hl 0 rfl) ?_
  refine kp_getr C G h kp_lK5 rfl inWX2 (j := 1) (by decide) q1_71 rfl dX2_copy_20 ?_
  refine kp_iconst C dX2_copy_23 ?_
  refine kp_bipush C dX2_copy_24 rfl ?_
  refine kp_acI (n := 120) C G h hl.1 q1_64 q1_66 q1_65 q1_5 kp_lK42 kp_lK7 (by decide) (by decide) (Nat.le_of_ble_eq_true rfl) dX2_copy_26 hF (fun σ_2 H locs h hF => ?_)
  refine kp_aload_n C dX2_copy_29 rfl (lv_at hl 1 rfl) ?_
  refine kp_getr C G h kp_lK40 rfl inWX2 (j := 2) (by decide) q1_73 rfl dX2_copy_30 ?_
  refine kp_iconst C dX2_copy_33 ?_
  refine kp_aload_n C dX2_copy_34 rfl (lv_at hl 0 rfl) ?_
  refine kp_getr C G h kp_lK5 rfl inWX2 (j := 2) (by decide) q1_73 rfl dX2_copy_35 ?_
  refine kp_iconst C dX2_copy_38 ?_
  refine kp_bipush C dX2_copy_39 rfl ?_
  refine kp_acI (n := 10) C G h hl.1 q1_64 q1_66 q1_65 q1_5 kp_lK44 kp_lK9 (by decide) (by decide) (Nat.le_of_ble_eq_true rfl) dX2_copy_41 hF (fun σ_3 H locs h hF => ?_)
  refine kp_aload_n C dX2_copy_44 rfl (lv_at hl 1 rfl) ?_
  refine kp_getr C G h kp_lK40 rfl inWX2 (j := 3) (by decide) q1_75 rfl dX2_copy_45 ?_
  refine kp_iconst C dX2_copy_48 ?_
  refine kp_aload_n C dX2_copy_49 rfl (lv_at hl 0 rfl) ?_
  refine kp_getr C G h kp_lK5 rfl inWX2 (j := 3) (by decide) q1_75 rfl dX2_copy_50 ?_
  refine kp_iconst C dX2_copy_53 ?_
  refine kp_bipush C dX2_copy_54 rfl ?_
  refine kp_acI (n := 10) C G h hl.1 q1_64 q1_66 q1_65 q1_5 kp_lK45 kp_lK10 (by decide) (by decide) (Nat.le_of_ble_eq_true rfl) dX2_copy_56 hF (fun σ_4 H locs h hF => ?_)
  refine kp_aload_n C dX2_copy_59 rfl (lv_at hl 0 rfl) ?_
  refine kp_aload_n C dX2_copy_60 rfl (lv_at hl 1 rfl) ?_
  refine kp_geti C G h kp_lK40 rfl inWX2 (j := 4) (by decide) q1_77 rfl dX2_copy_61 ?_
  refine kp_puti C G h kp_lK5 rfl inWX2 tyX2 tyX2_ok nmX2 (j := 4) (by decide) q1_77 rfl rfl (by decide +kernel) dX2_copy_64 hF (fun σ_5 H locs h hF => ?_)
  refine kp_aload_n C dX2_copy_67 rfl (lv_at hl 0 rfl) ?_
  refine kp_aload_n C dX2_copy_68 rfl (lv_at hl 1 rfl) ?_
  refine kp_geti C G h kp_lK40 rfl inWX2 (j := 5) (by decide) q1_78 rfl dX2_copy_69 ?_
  refine kp_puti C G h kp_lK5 rfl inWX2 tyX2 tyX2_ok nmX2 (j := 5) (by decide) q1_78 rfl rfl (by decide +kernel) dX2_copy_72 hF (fun σ_6 H locs h hF => ?_)
  refine kp_aload_n C dX2_copy_75 rfl (lv_at hl 0 rfl) ?_
  refine kp_aload_n C dX2_copy_76 rfl (lv_at hl 1 rfl) ?_
  refine kp_geti C G h kp_lK40 rfl inWX2 (j := 6) (by decide) q1_80 rfl dX2_copy_77 ?_
  refine kp_puti C G h kp_lK5 rfl inWX2 tyX2 tyX2_ok nmX2 (j := 6) (by decide) q1_80 rfl rfl (by decide +kernel) dX2_copy_80 hF (fun σ_7 H locs h hF => ?_)
  exact kp_retv (v := 0) C hr hlk G h dX2_copy_83 hF
def kf_X2_copy_24_5   (σ_0 : kp_W) : kp_R :=
  kp_lt (kp_fill σ_0 25 (σ_0 6) 5) (fun σ_1 => kp_lt (kp_fill σ_1 26 (σ_1 7) 120) (fun σ_2 => kp_lt (kp_fill σ_2 28 (σ_2 9) 10) (fun σ_3 => kp_lt (kp_fill σ_3 29 (σ_3 10) 10) (fun σ_4 => kp_lt (kp_up σ_4 24 4 (σ_4 5 4)) (fun σ_5 => kp_lt (kp_up σ_5 24 5 (σ_5 5 5)) (fun σ_6 => kp_lt (kp_up σ_6 24 6 (σ_6 5 6)) (fun σ_7 => some (0, σ_7))))))))
set_option maxRecDepth 100000 in
set_option maxHeartbeats 4000000 in
theorem kc_X2_copy_24_5 {l : Launch} {X : kp_X}  {σ_0 σ' : kp_W} {r : Int}   (hF : (kf_X2_copy_24_5 σ_0) = some (r, σ')) : kp_Met l yX2_copy cX2_copy 2 none 1 X kp_lK 55 σ_0 [.ref (kp_ad X 24), .ref (kp_ad X 5)] (kp_Qv X kp_lK 55 σ') := by
  refine kp_body pnX2 (Nat.le_of_ble_eq_true rfl) ?_
  intro p e s m args below meth c ls C hr hlk G h hl
  unfold kf_X2_copy_24_5 at hF
  have hl : lv_has ls 2 [(0, .ref (kp_ad X 24)), (1, .ref (kp_ad X 5))] := hl
  refine kp_aload_n C dX2_copy_0 rfl (lv_at hl 1 rfl) ?_
  refine kp_getr C G h kp_lK5 rfl inWX2 (j := 0) (by decide) q1_67 rfl dX2_copy_1 ?_
  refine kp_iconst C dX2_copy_4 ?_
  refine kp_aload_n C dX2_copy_5 rfl (lv_at hl 0 rfl) ?_
  refine kp_getr C G h kp_lK24 rfl inWX2 (j := 0) (by decide) q1_67 rfl dX2_copy_6 ?_
  refine kp_iconst C dX2_copy_9 ?_
  refine kp_iconst C dX2_copy_10 ?_
  refine kp_acI (n := 5) C G h hl.1 q1_64 q1_66 q1_65 q1_5 kp_lK6 kp_lK25 (by decide) (by decide) (Nat.le_of_ble_eq_true rfl) dX2_copy_11 hF (fun σ_1 H locs h hF => ?_)
  refine kp_aload_n C dX2_copy_14 rfl (lv_at hl 1 rfl) ?_
  refine kp_getr C G h kp_lK5 rfl inWX2 (j := 1) (by decide) q1_71 rfl dX2_copy_15 ?_
  refine kp_iconst C dX2_copy_18 ?_
  refine kp_aload_n C dX2_copy_19 rfl (lv_at hl 0 rfl) ?_
  refine kp_getr C G h kp_lK24 rfl inWX2 (j := 1) (by decide) q1_71 rfl dX2_copy_20 ?_
  refine kp_iconst C dX2_copy_23 ?_
  refine kp_bipush C dX2_copy_24 rfl ?_
  refine kp_acI (n := 120) C G h hl.1 q1_64 q1_66 q1_65 q1_5 kp_lK7 kp_lK26 (by decide) (by decide) (Nat.le_of_ble_eq_true rfl) dX2_copy_26 hF (fun σ_2 H locs h hF => ?_)
  refine kp_aload_n C dX2_copy_29 rfl (lv_at hl 1 rfl) ?_
  refine kp_getr C G h kp_lK5 rfl inWX2 (j := 2) (by decide) q1_73 rfl dX2_copy_30 ?_
  refine kp_iconst C dX2_copy_33 ?_
  refine kp_aload_n C dX2_copy_34 rfl (lv_at hl 0 rfl) ?_
  refine kp_getr C G h kp_lK24 rfl inWX2 (j := 2) (by decide) q1_73 rfl dX2_copy_35 ?_
  refine kp_iconst C dX2_copy_38 ?_
  refine kp_bipush C dX2_copy_39 rfl ?_
  refine kp_acI (n := 10) C G h hl.1 q1_64 q1_66 q1_65 q1_5 kp_lK9 kp_lK28 (by decide) (by decide) (Nat.le_of_ble_eq_true rfl) dX2_copy_41 hF (fun σ_3 H locs h hF => ?_)
  refine kp_aload_n C dX2_copy_44 rfl (lv_at hl 1 rfl) ?_
  refine kp_getr C G h kp_lK5 rfl inWX2 (j := 3) (by decide) q1_75 rfl dX2_copy_45 ?_
  refine kp_iconst C dX2_copy_48 ?_
  refine kp_aload_n C dX2_copy_49 rfl (lv_at hl 0 rfl) ?_
  refine kp_getr C G h kp_lK24 rfl inWX2 (j := 3) (by decide) q1_75 rfl dX2_copy_50 ?_
  refine kp_iconst C dX2_copy_53 ?_
  refine kp_bipush C dX2_copy_54 rfl ?_
  refine kp_acI (n := 10) C G h hl.1 q1_64 q1_66 q1_65 q1_5 kp_lK10 kp_lK29 (by decide) (by decide) (Nat.le_of_ble_eq_true rfl) dX2_copy_56 hF (fun σ_4 H locs h hF => ?_)
  refine kp_aload_n C dX2_copy_59 rfl (lv_at hl 0 rfl) ?_
  refine kp_aload_n C dX2_copy_60 rfl (lv_at hl 1 rfl) ?_
  refine kp_geti C G h kp_lK5 rfl inWX2 (j := 4) (by decide) q1_77 rfl dX2_copy_61 ?_
  refine kp_puti C G h kp_lK24 rfl inWX2 tyX2 tyX2_ok nmX2 (j := 4) (by decide) q1_77 rfl rfl (by decide +kernel) dX2_copy_64 hF (fun σ_5 H locs h hF => ?_)
  refine kp_aload_n C dX2_copy_67 rfl (lv_at hl 0 rfl) ?_
  refine kp_aload_n C dX2_copy_68 rfl (lv_at hl 1 rfl) ?_
  refine kp_geti C G h kp_lK5 rfl inWX2 (j := 5) (by decide) q1_78 rfl dX2_copy_69 ?_
  refine kp_puti C G h kp_lK24 rfl inWX2 tyX2 tyX2_ok nmX2 (j := 5) (by decide) q1_78 rfl rfl (by decide +kernel) dX2_copy_72 hF (fun σ_6 H locs h hF => ?_)
  refine kp_aload_n C dX2_copy_75 rfl (lv_at hl 0 rfl) ?_
  refine kp_aload_n C dX2_copy_76 rfl (lv_at hl 1 rfl) ?_
  refine kp_geti C G h kp_lK5 rfl inWX2 (j := 6) (by decide) q1_80 rfl dX2_copy_77 ?_
  refine kp_puti C G h kp_lK24 rfl inWX2 tyX2 tyX2_ok nmX2 (j := 6) (by decide) q1_80 rfl rfl (by decide +kernel) dX2_copy_80 hF (fun σ_7 H locs h hF => ?_)
  exact kp_retv (v := 0) C hr hlk G h dX2_copy_83 hF
def kf_X2_copy_5_24   (σ_0 : kp_W) : kp_R :=
  kp_lt (kp_fill σ_0 6 (σ_0 25) 5) (fun σ_1 => kp_lt (kp_fill σ_1 7 (σ_1 26) 120) (fun σ_2 => kp_lt (kp_fill σ_2 9 (σ_2 28) 10) (fun σ_3 => kp_lt (kp_fill σ_3 10 (σ_3 29) 10) (fun σ_4 => kp_lt (kp_up σ_4 5 4 (σ_4 24 4)) (fun σ_5 => kp_lt (kp_up σ_5 5 5 (σ_5 24 5)) (fun σ_6 => kp_lt (kp_up σ_6 5 6 (σ_6 24 6)) (fun σ_7 => some (0, σ_7))))))))
set_option maxRecDepth 100000 in
set_option maxHeartbeats 4000000 in
theorem kc_X2_copy_5_24 {l : Launch} {X : kp_X}  {σ_0 σ' : kp_W} {r : Int}   (hF : (kf_X2_copy_5_24 σ_0) = some (r, σ')) : kp_Met l yX2_copy cX2_copy 2 none 1 X kp_lK 55 σ_0 [.ref (kp_ad X 5), .ref (kp_ad X 24)] (kp_Qv X kp_lK 55 σ') := by
  refine kp_body pnX2 (Nat.le_of_ble_eq_true rfl) ?_
  intro p e s m args below meth c ls C hr hlk G h hl
  unfold kf_X2_copy_5_24 at hF
  have hl : lv_has ls 2 [(0, .ref (kp_ad X 5)), (1, .ref (kp_ad X 24))] := hl
  refine kp_aload_n C dX2_copy_0 rfl (lv_at hl 1 rfl) ?_
  refine kp_getr C G h kp_lK24 rfl inWX2 (j := 0) (by decide) q1_67 rfl dX2_copy_1 ?_
  refine kp_iconst C dX2_copy_4 ?_
  refine kp_aload_n C dX2_copy_5 rfl (lv_at hl 0 rfl) ?_
  refine kp_getr C G h kp_lK5 rfl inWX2 (j := 0) (by decide) q1_67 rfl dX2_copy_6 ?_
  refine kp_iconst C dX2_copy_9 ?_
  refine kp_iconst C dX2_copy_10 ?_
  refine kp_acI (n := 5) C G h hl.1 q1_64 q1_66 q1_65 q1_5 kp_lK25 kp_lK6 (by decide) (by decide) (Nat.le_of_ble_eq_true rfl) dX2_copy_11 hF (fun σ_1 H locs h hF => ?_)
  refine kp_aload_n C dX2_copy_14 rfl (lv_at hl 1 rfl) ?_
  refine kp_getr C G h kp_lK24 rfl inWX2 (j := 1) (by decide) q1_71 rfl dX2_copy_15 ?_
  refine kp_iconst C dX2_copy_18 ?_
  refine kp_aload_n C dX2_copy_19 rfl (lv_at hl 0 rfl) ?_
  refine kp_getr C G h kp_lK5 rfl inWX2 (j := 1) (by decide) q1_71 rfl dX2_copy_20 ?_
  refine kp_iconst C dX2_copy_23 ?_
  refine kp_bipush C dX2_copy_24 rfl ?_
  refine kp_acI (n := 120) C G h hl.1 q1_64 q1_66 q1_65 q1_5 kp_lK26 kp_lK7 (by decide) (by decide) (Nat.le_of_ble_eq_true rfl) dX2_copy_26 hF (fun σ_2 H locs h hF => ?_)
  refine kp_aload_n C dX2_copy_29 rfl (lv_at hl 1 rfl) ?_
  refine kp_getr C G h kp_lK24 rfl inWX2 (j := 2) (by decide) q1_73 rfl dX2_copy_30 ?_
  refine kp_iconst C dX2_copy_33 ?_
  refine kp_aload_n C dX2_copy_34 rfl (lv_at hl 0 rfl) ?_
  refine kp_getr C G h kp_lK5 rfl inWX2 (j := 2) (by decide) q1_73 rfl dX2_copy_35 ?_
  refine kp_iconst C dX2_copy_38 ?_
  refine kp_bipush C dX2_copy_39 rfl ?_
  refine kp_acI (n := 10) C G h hl.1 q1_64 q1_66 q1_65 q1_5 kp_lK28 kp_lK9 (by decide) (by decide) (Nat.le_of_ble_eq_true rfl) dX2_copy_41 hF (fun σ_3 H locs h hF => ?_)
  refine kp_aload_n C dX2_copy_44 rfl (lv_at hl 1 rfl) ?_
  refine kp_getr C G h kp_lK24 rfl inWX2 (j := 3) (by decide) q1_75 rfl dX2_copy_45 ?_
  refine kp_iconst C dX2_copy_48 ?_
  refine kp_aload_n C dX2_copy_49 rfl (lv_at hl 0 rfl) ?_
  refine kp_getr C G h kp_lK5 rfl inWX2 (j := 3) (by decide) q1_75 rfl dX2_copy_50 ?_
  refine kp_iconst C dX2_copy_53 ?_
  refine kp_bipush C dX2_copy_54 rfl ?_
  refine kp_acI (n := 10) C G h hl.1 q1_64 q1_66 q1_65 q1_5 kp_lK29 kp_lK10 (by decide) (by decide) (Nat.le_of_ble_eq_true rfl) dX2_copy_56 hF (fun σ_4 H locs h hF => ?_)
  refine kp_aload_n C dX2_copy_59 rfl (lv_at hl 0 rfl) ?_
  refine kp_aload_n C dX2_copy_60 rfl (lv_at hl 1 rfl) ?_
  refine kp_geti C G h kp_lK24 rfl inWX2 (j := 4) (by decide) q1_77 rfl dX2_copy_61 ?_
  refine kp_puti C G h kp_lK5 rfl inWX2 tyX2 tyX2_ok nmX2 (j := 4) (by decide) q1_77 rfl rfl (by decide +kernel) dX2_copy_64 hF (fun σ_5 H locs h hF => ?_)
  refine kp_aload_n C dX2_copy_67 rfl (lv_at hl 0 rfl) ?_
  refine kp_aload_n C dX2_copy_68 rfl (lv_at hl 1 rfl) ?_
  refine kp_geti C G h kp_lK24 rfl inWX2 (j := 5) (by decide) q1_78 rfl dX2_copy_69 ?_
  refine kp_puti C G h kp_lK5 rfl inWX2 tyX2 tyX2_ok nmX2 (j := 5) (by decide) q1_78 rfl rfl (by decide +kernel) dX2_copy_72 hF (fun σ_6 H locs h hF => ?_)
  refine kp_aload_n C dX2_copy_75 rfl (lv_at hl 0 rfl) ?_
  refine kp_aload_n C dX2_copy_76 rfl (lv_at hl 1 rfl) ?_
  refine kp_geti C G h kp_lK24 rfl inWX2 (j := 6) (by decide) q1_80 rfl dX2_copy_77 ?_
  refine kp_puti C G h kp_lK5 rfl inWX2 tyX2 tyX2_ok nmX2 (j := 6) (by decide) q1_80 rfl rfl (by decide +kernel) dX2_copy_80 hF (fun σ_7 H locs h hF => ?_)
  exact kp_retv (v := 0) C hr hlk G h dX2_copy_83 hF
def kf_X3_copy_30_11   (σ_0 : kp_W) : kp_R :=
  kp_lt (kp_fill σ_0 31 (σ_0 12) 10) (fun σ_1 => kp_lt (kp_fill σ_1 32 (σ_1 13) 10) (fun σ_2 => kp_lt (kp_fill σ_2 33 (σ_2 14) 10) (fun σ_3 => kp_lt (kp_fill σ_3 34 (σ_3 15) 10) (fun σ_4 => kp_lt (kp_up σ_4 30 4 (σ_4 11 4)) (fun σ_5 => kp_lt (kp_up σ_5 30 5 (σ_5 11 5)) (fun σ_6 => some (0, σ_6)))))))
set_option maxRecDepth 100000 in
set_option maxHeartbeats 4000000 in
theorem kc_X3_copy_30_11 {l : Launch} {X : kp_X}  {σ_0 σ' : kp_W} {r : Int}   (hF : (kf_X3_copy_30_11 σ_0) = some (r, σ')) : kp_Met l yX3_copy cX3_copy 2 none 1 X kp_lK 55 σ_0 [.ref (kp_ad X 30), .ref (kp_ad X 11)] (kp_Qv X kp_lK 55 σ') := by
  refine kp_body pnX3 (Nat.le_of_ble_eq_true rfl) ?_
  intro p e s m args below meth c ls C hr hlk G h hl
  unfold kf_X3_copy_30_11 at hF
  have hl : lv_has ls 2 [(0, .ref (kp_ad X 30)), (1, .ref (kp_ad X 11))] := hl
  refine kp_aload_n C dX3_copy_0 rfl (lv_at hl 1 rfl) ?_
  refine kp_getr C G h kp_lK11 rfl inWX3 (j := 0) (by decide) q1_102 rfl dX3_copy_1 ?_
  refine kp_iconst C dX3_copy_4 ?_
  refine kp_aload_n C dX3_copy_5 rfl (lv_at hl 0 rfl) ?_
  refine kp_getr C G h kp_lK30 rfl inWX3 (j := 0) (by decide) q1_102 rfl dX3_copy_6 ?_
  refine kp_iconst C dX3_copy_9 ?_
  refine kp_bipush C dX3_copy_10 rfl ?_
  refine kp_acI (n := 10) C G h hl.1 q4_25 q1_66 q1_65 q1_5 kp_lK12 kp_lK31 (by decide) (by decide) (Nat.le_of_ble_eq_true rfl) dX3_copy_12 hF (fun σ_1 H locs h hF => ?_)
  refine kp_aload_n C dX3_copy_15 rfl (lv_at hl 1 rfl) ?_
  refine kp_getr C G h kp_lK11 rfl inWX3 (j := 1) (by decide) q1_106 rfl dX3_copy_16 ?_
  refine kp_iconst C dX3_copy_19 ?_
  refine kp_aload_n C dX3_copy_20 rfl (lv_at hl 0 rfl) ?_
  refine kp_getr C G h kp_lK30 rfl inWX3 (j := 1) (by decide) q1_106 rfl dX3_copy_21 ?_
  refine kp_iconst C dX3_copy_24 ?_
  refine kp_bipush C dX3_copy_25 rfl ?_
  refine kp_acI (n := 10) C G h hl.1 q4_25 q1_66 q1_65 q1_5 kp_lK13 kp_lK32 (by decide) (by decide) (Nat.le_of_ble_eq_true rfl) dX3_copy_27 hF (fun σ_2 H locs h hF => ?_)
  refine kp_aload_n C dX3_copy_30 rfl (lv_at hl 1 rfl) ?_
  refine kp_getr C G h kp_lK11 rfl inWX3 (j := 2) (by decide) q1_109 rfl dX3_copy_31 ?_
  refine kp_iconst C dX3_copy_34 ?_
  refine kp_aload_n C dX3_copy_35 rfl (lv_at hl 0 rfl) ?_
  refine kp_getr C G h kp_lK30 rfl inWX3 (j := 2) (by decide) q1_109 rfl dX3_copy_36 ?_
  refine kp_iconst C dX3_copy_39 ?_
  refine kp_bipush C dX3_copy_40 rfl ?_
  refine kp_acI (n := 10) C G h hl.1 q4_25 q1_66 q1_65 q1_5 kp_lK14 kp_lK33 (by decide) (by decide) (Nat.le_of_ble_eq_true rfl) dX3_copy_42 hF (fun σ_3 H locs h hF => ?_)
  refine kp_aload_n C dX3_copy_45 rfl (lv_at hl 1 rfl) ?_
  refine kp_getr C G h kp_lK11 rfl inWX3 (j := 3) (by decide) q1_113 rfl dX3_copy_46 ?_
  refine kp_iconst C dX3_copy_49 ?_
  refine kp_aload_n C dX3_copy_50 rfl (lv_at hl 0 rfl) ?_
  refine kp_getr C G h kp_lK30 rfl inWX3 (j := 3) (by decide) q1_113 rfl dX3_copy_51 ?_
  refine kp_iconst C dX3_copy_54 ?_
  refine kp_bipush C dX3_copy_55 rfl ?_
  refine kp_acI (n := 10) C G h hl.1 q4_25 q1_66 q1_65 q1_5 kp_lK15 kp_lK34 (by decide) (by decide) (Nat.le_of_ble_eq_true rfl) dX3_copy_57 hF (fun σ_4 H locs h hF => ?_)
  refine kp_aload_n C dX3_copy_60 rfl (lv_at hl 0 rfl) ?_
  refine kp_aload_n C dX3_copy_61 rfl (lv_at hl 1 rfl) ?_
  refine kp_geti C G h kp_lK11 rfl inWX3 (j := 4) (by decide) q1_115 rfl dX3_copy_62 ?_
  refine kp_puti C G h kp_lK30 rfl inWX3 tyX3 tyX3_ok nmX3 (j := 4) (by decide) q1_115 rfl rfl (by decide +kernel) dX3_copy_65 hF (fun σ_5 H locs h hF => ?_)
  refine kp_aload_n C dX3_copy_68 rfl (lv_at hl 0 rfl) ?_
  refine kp_aload_n C dX3_copy_69 rfl (lv_at hl 1 rfl) ?_
  refine kp_geti C G h kp_lK11 rfl inWX3 (j := 5) (by decide) q1_117 rfl dX3_copy_70 ?_
  refine kp_puti C G h kp_lK30 rfl inWX3 tyX3 tyX3_ok nmX3 (j := 5) (by decide) q1_117 rfl rfl (by decide +kernel) dX3_copy_73 hF (fun σ_6 H locs h hF => ?_)
  exact kp_retv (v := 0) C hr hlk G h dX3_copy_76 hF
