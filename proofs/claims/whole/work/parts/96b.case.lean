-- by program (wip/whole/gen/law.py): the law's cases
section KLC
variable {p : Program} {l : Launch} {e : Env} {s : State} {m : MethodId} {args : Array Value} {below : List Frame} {meth : Method} {c : Code} {H : Heap} {locs : List Loc} {Q : State → Prop}
variable {own : String} {ls : Array Slot} {X : kp_X} {σ τ : kp_W} {cls clsK : List kz_C} {i : Int} {b L : Nat} {xs : Nat → Int32}
set_option maxRecDepth 100000 in
set_option maxHeartbeats 4000000 in
theorem kl_c8 (C : CallFix p m c cL_law 4 s args kp_wl own) (ho : own = RL) (G : kp_GK X s.heap.size s) (hX : va_X b L xs s s.heap) (hbl : b < s.heap.size) (hL : L ≤ 320) (S : kl_S X s σ τ H locs) (hD : kz_D σ τ cls clsK) (hl : lv_has ls 4 [(0, .ref b), (1, .ref s.heap.size), (2, .ref (s.heap.size + 55)), (3, kp_iv i)]) (hi : 0 ≤ i ∧ i + 5 ≤ (L : Int)) (K : ∀ (H : Heap) (locs : List Loc) (σ τ : kp_W) (cls clsK : List kz_C), kl_S X s σ τ H locs → kz_D σ τ cls clsK → W p l e room_1 s m args below meth c H locs 600000 7302250 Q (F0 m 1122 ls [])) : W p l e room_1 s m args below meth c H locs 600000 7302250 Q (F0 m 492 ls []) := by
  subst ho
  obtain ⟨r, σ1, e1, r1, τ1, e2, hr, cls1, clsK1, hD1⟩ := s_knocks hD (a := kl_x xs (i + 1)) (b := kl_x xs (i + 2)) (c := kl_x xs (i + 3)) (kl_xin xs _) (kl_xin xs _) (kl_xin xs _)
  subst hr
  refine lv_aload_n C.1 C.2.1 dL_law_492 rfl (lv_at hl 1 rfl) ?_
  refine kl_arg (pc := 493) C hX hbl hL S hl (k := 1) ⟨hi.1, by decide, by omega⟩ dL_law_493 dL_law_494 dL_law_495 dL_law_496 dL_law_497 ?_
  refine kl_arg (pc := 498) C hX hbl hL S hl (k := 2) ⟨hi.1, by decide, by omega⟩ dL_law_498 dL_law_499 dL_law_500 dL_law_501 dL_law_502 ?_
  refine kl_arg (pc := 503) C hX hbl hL S hl (k := 3) ⟨hi.1, by decide, by omega⟩ dL_law_503 dL_law_504 dL_law_505 dL_law_506 dL_law_507 ?_
  refine kl_cK (pc := 508) (rest := []) (As := [kp_iv (kl_x xs (i + 1)), kp_iv (kl_x xs (i + 2)), kp_iv (kl_x xs (i + 3))]) (dd := 6) C G S hl.1 (kc_X9_knocks e1) q3_52 q3_53 q3_54 q3_55 ⟨rfl, hd_X9_knocks⟩ ⟨by decide, by decide⟩ rfl rfl (by exact Nat.le_of_ble_eq_true rfl) dL_law_508 (fun H locs S => ?_)
  refine lv_aload_n C.1 C.2.1 dL_law_511 rfl (lv_at hl 2 rfl) ?_
  refine kl_arg (pc := 512) C hX hbl hL S hl (k := 1) ⟨hi.1, by decide, by omega⟩ dL_law_512 dL_law_513 dL_law_514 dL_law_515 dL_law_516 ?_
  refine kl_arg (pc := 517) C hX hbl hL S hl (k := 2) ⟨hi.1, by decide, by omega⟩ dL_law_517 dL_law_518 dL_law_519 dL_law_520 dL_law_521 ?_
  refine kl_arg (pc := 522) C hX hbl hL S hl (k := 3) ⟨hi.1, by decide, by omega⟩ dL_law_522 dL_law_523 dL_law_524 dL_law_525 dL_law_526 ?_
  refine kl_cM (pc := 527) (rest := [kp_iv r1]) (As := [kp_iv (kl_x xs (i + 1)), kp_iv (kl_x xs (i + 2)), kp_iv (kl_x xs (i + 3))]) (dd := 6) C G S hl.1 (kc_X10_knocks e2) q5_7 q5_8 q5_9 q5_10 ⟨rfl, hd_X10_knocks⟩ ⟨by decide, by decide⟩ rfl rfl (by exact Nat.le_of_ble_eq_true rfl) dL_law_527 (fun H locs S => ?_)
  exact lv_icmp_eq (tgt := 1122) C.1 C.2.1 dL_law_530 (by decide) (fun _ => K _ _ _ _ _ _ S hD1) (fun z => absurd rfl z)
set_option maxRecDepth 100000 in
set_option maxHeartbeats 4000000 in
theorem kl_c9 (C : CallFix p m c cL_law 4 s args kp_wl own) (ho : own = RL) (G : kp_GK X s.heap.size s) (hX : va_X b L xs s s.heap) (hbl : b < s.heap.size) (hL : L ≤ 320) (S : kl_S X s σ τ H locs) (hD : kz_D σ τ cls clsK) (hl : lv_has ls 4 [(0, .ref b), (1, .ref s.heap.size), (2, .ref (s.heap.size + 55)), (3, kp_iv i)]) (hi : 0 ≤ i ∧ i + 5 ≤ (L : Int)) (K : ∀ (H : Heap) (locs : List Loc) (σ τ : kp_W) (cls clsK : List kz_C), kl_S X s σ τ H locs → kz_D σ τ cls clsK → W p l e room_1 s m args below meth c H locs 600000 7302250 Q (F0 m 1122 ls [])) : W p l e room_1 s m args below meth c H locs 600000 7302250 Q (F0 m 535 ls []) := by
  subst ho
  obtain ⟨r, σ1, e1, r1, τ1, e2, hr, cls1, clsK1, hD1⟩ := s_loud hD (a := kl_x xs (i + 1)) (b := kl_x xs (i + 2)) (c := kl_x xs (i + 3)) (kl_xin xs _) (kl_xin xs _) (kl_xin xs _)
  subst hr
  refine lv_aload_n C.1 C.2.1 dL_law_535 rfl (lv_at hl 1 rfl) ?_
  refine kl_arg (pc := 536) C hX hbl hL S hl (k := 1) ⟨hi.1, by decide, by omega⟩ dL_law_536 dL_law_537 dL_law_538 dL_law_539 dL_law_540 ?_
  refine kl_arg (pc := 541) C hX hbl hL S hl (k := 2) ⟨hi.1, by decide, by omega⟩ dL_law_541 dL_law_542 dL_law_543 dL_law_544 dL_law_545 ?_
  refine kl_arg (pc := 546) C hX hbl hL S hl (k := 3) ⟨hi.1, by decide, by omega⟩ dL_law_546 dL_law_547 dL_law_548 dL_law_549 dL_law_550 ?_
  refine kl_cK (pc := 551) (rest := []) (As := [kp_iv (kl_x xs (i + 1)), kp_iv (kl_x xs (i + 2)), kp_iv (kl_x xs (i + 3))]) (dd := 6) C G S hl.1 (kc_X9_loud e1) q3_66 q3_67 q3_68 q3_69 ⟨rfl, hd_X9_loud⟩ ⟨by decide, by decide⟩ rfl rfl (by exact Nat.le_of_ble_eq_true rfl) dL_law_551 (fun H locs S => ?_)
  refine lv_aload_n C.1 C.2.1 dL_law_554 rfl (lv_at hl 2 rfl) ?_
  refine kl_arg (pc := 555) C hX hbl hL S hl (k := 1) ⟨hi.1, by decide, by omega⟩ dL_law_555 dL_law_556 dL_law_557 dL_law_558 dL_law_559 ?_
  refine kl_arg (pc := 560) C hX hbl hL S hl (k := 2) ⟨hi.1, by decide, by omega⟩ dL_law_560 dL_law_561 dL_law_562 dL_law_563 dL_law_564 ?_
  refine kl_arg (pc := 565) C hX hbl hL S hl (k := 3) ⟨hi.1, by decide, by omega⟩ dL_law_565 dL_law_566 dL_law_567 dL_law_568 dL_law_569 ?_
  refine kl_cM (pc := 570) (rest := [kp_iv r1]) (As := [kp_iv (kl_x xs (i + 1)), kp_iv (kl_x xs (i + 2)), kp_iv (kl_x xs (i + 3))]) (dd := 3) C G S hl.1 (kc_X10_loud e2) q5_50 q5_51 q5_52 q5_53 ⟨rfl, hd_X10_loud⟩ ⟨by decide, by decide⟩ rfl rfl (by exact Nat.le_of_ble_eq_true rfl) dL_law_570 (fun H locs S => ?_)
  exact lv_icmp_eq (tgt := 1122) C.1 C.2.1 dL_law_573 (by decide) (fun _ => K _ _ _ _ _ _ S hD1) (fun z => absurd rfl z)
set_option maxRecDepth 100000 in
set_option maxHeartbeats 4000000 in
theorem kl_c10 (C : CallFix p m c cL_law 4 s args kp_wl own) (ho : own = RL) (G : kp_GK X s.heap.size s) (hX : va_X b L xs s s.heap) (hbl : b < s.heap.size) (hL : L ≤ 320) (S : kl_S X s σ τ H locs) (hD : kz_D σ τ cls clsK) (hl : lv_has ls 4 [(0, .ref b), (1, .ref s.heap.size), (2, .ref (s.heap.size + 55)), (3, kp_iv i)]) (hi : 0 ≤ i ∧ i + 5 ≤ (L : Int)) (K : ∀ (H : Heap) (locs : List Loc) (σ τ : kp_W) (cls clsK : List kz_C), kl_S X s σ τ H locs → kz_D σ τ cls clsK → W p l e room_1 s m args below meth c H locs 600000 7302250 Q (F0 m 1122 ls [])) : W p l e room_1 s m args below meth c H locs 600000 7302250 Q (F0 m 578 ls []) := by
  subst ho
  obtain ⟨r, σ1, e1, r1, τ1, e2, hr, cls1, clsK1, hD1⟩ := s_heard hD (a := kl_x xs (i + 1)) (b := kl_x xs (i + 2)) (kl_xin xs _) (kl_xin xs _)
  subst hr
  refine lv_aload_n C.1 C.2.1 dL_law_578 rfl (lv_at hl 1 rfl) ?_
  refine kl_arg (pc := 579) C hX hbl hL S hl (k := 1) ⟨hi.1, by decide, by omega⟩ dL_law_579 dL_law_580 dL_law_581 dL_law_582 dL_law_583 ?_
  refine kl_arg (pc := 584) C hX hbl hL S hl (k := 2) ⟨hi.1, by decide, by omega⟩ dL_law_584 dL_law_585 dL_law_586 dL_law_587 dL_law_588 ?_
  refine kl_cK (pc := 589) (rest := []) (As := [kp_iv (kl_x xs (i + 1)), kp_iv (kl_x xs (i + 2))]) (dd := 6) C G S hl.1 (kc_X9_heard e1) q3_82 q3_83 q3_84 q3_85 ⟨rfl, hd_X9_heard⟩ ⟨by decide, by decide⟩ rfl rfl (by exact Nat.le_of_ble_eq_true rfl) dL_law_589 (fun H locs S => ?_)
  refine lv_aload_n C.1 C.2.1 dL_law_592 rfl (lv_at hl 2 rfl) ?_
  refine kl_arg (pc := 593) C hX hbl hL S hl (k := 1) ⟨hi.1, by decide, by omega⟩ dL_law_593 dL_law_594 dL_law_595 dL_law_596 dL_law_597 ?_
  refine kl_arg (pc := 598) C hX hbl hL S hl (k := 2) ⟨hi.1, by decide, by omega⟩ dL_law_598 dL_law_599 dL_law_600 dL_law_601 dL_law_602 ?_
  refine kl_cM (pc := 603) (rest := [kp_iv r1]) (As := [kp_iv (kl_x xs (i + 1)), kp_iv (kl_x xs (i + 2))]) (dd := 6) C G S hl.1 (kc_X10_heard e2) q5_62 q5_63 q5_64 q5_65 ⟨rfl, hd_X10_heard⟩ ⟨by decide, by decide⟩ rfl rfl (by exact Nat.le_of_ble_eq_true rfl) dL_law_603 (fun H locs S => ?_)
  exact lv_icmp_eq (tgt := 1122) C.1 C.2.1 dL_law_606 (by decide) (fun _ => K _ _ _ _ _ _ S hD1) (fun z => absurd rfl z)
set_option maxRecDepth 100000 in
set_option maxHeartbeats 4000000 in
theorem kl_c11 (C : CallFix p m c cL_law 4 s args kp_wl own) (ho : own = RL) (G : kp_GK X s.heap.size s) (hX : va_X b L xs s s.heap) (hbl : b < s.heap.size) (hL : L ≤ 320) (S : kl_S X s σ τ H locs) (hD : kz_D σ τ cls clsK) (hl : lv_has ls 4 [(0, .ref b), (1, .ref s.heap.size), (2, .ref (s.heap.size + 55)), (3, kp_iv i)]) (hi : 0 ≤ i ∧ i + 5 ≤ (L : Int)) (K : ∀ (H : Heap) (locs : List Loc) (σ τ : kp_W) (cls clsK : List kz_C), kl_S X s σ τ H locs → kz_D σ τ cls clsK → W p l e room_1 s m args below meth c H locs 600000 7302250 Q (F0 m 1122 ls [])) : W p l e room_1 s m args below meth c H locs 600000 7302250 Q (F0 m 611 ls []) := by
  subst ho
  obtain ⟨r, σ1, e1, r1, τ1, e2, hr, cls1, clsK1, hD1⟩ := s_seems hD (a := kl_x xs (i + 1)) (kl_xin xs _)
  subst hr
  refine lv_aload_n C.1 C.2.1 dL_law_611 rfl (lv_at hl 1 rfl) ?_
  refine kl_arg (pc := 612) C hX hbl hL S hl (k := 1) ⟨hi.1, by decide, by omega⟩ dL_law_612 dL_law_613 dL_law_614 dL_law_615 dL_law_616 ?_
  refine kl_cK (pc := 617) (rest := []) (As := [kp_iv (kl_x xs (i + 1))]) (dd := 6) C G S hl.1 (kc_X9_seems e1) q3_98 q3_99 q3_100 q3_101 ⟨rfl, hd_X9_seems⟩ ⟨by decide, by decide⟩ rfl rfl (by exact Nat.le_of_ble_eq_true rfl) dL_law_617 (fun H locs S => ?_)
  refine lv_aload_n C.1 C.2.1 dL_law_620 rfl (lv_at hl 2 rfl) ?_
  refine kl_arg (pc := 621) C hX hbl hL S hl (k := 1) ⟨hi.1, by decide, by omega⟩ dL_law_621 dL_law_622 dL_law_623 dL_law_624 dL_law_625 ?_
  refine kl_cM (pc := 626) (rest := [kp_iv r1]) (As := [kp_iv (kl_x xs (i + 1))]) (dd := 6) C G S hl.1 (kc_X10_seems e2) q5_78 q5_79 q5_80 q5_81 ⟨rfl, hd_X10_seems⟩ ⟨by decide, by decide⟩ rfl rfl (by exact Nat.le_of_ble_eq_true rfl) dL_law_626 (fun H locs S => ?_)
  exact lv_icmp_eq (tgt := 1122) C.1 C.2.1 dL_law_629 (by decide) (fun _ => K _ _ _ _ _ _ S hD1) (fun z => absurd rfl z)
set_option maxRecDepth 100000 in
set_option maxHeartbeats 4000000 in
theorem kl_c12 (C : CallFix p m c cL_law 4 s args kp_wl own) (ho : own = RL) (G : kp_GK X s.heap.size s) (hX : va_X b L xs s s.heap) (hbl : b < s.heap.size) (hL : L ≤ 320) (S : kl_S X s σ τ H locs) (hD : kz_D σ τ cls clsK) (hl : lv_has ls 4 [(0, .ref b), (1, .ref s.heap.size), (2, .ref (s.heap.size + 55)), (3, kp_iv i)]) (hi : 0 ≤ i ∧ i + 5 ≤ (L : Int)) (K : ∀ (H : Heap) (locs : List Loc) (σ τ : kp_W) (cls clsK : List kz_C), kl_S X s σ τ H locs → kz_D σ τ cls clsK → W p l e room_1 s m args below meth c H locs 600000 7302250 Q (F0 m 1122 ls [])) : W p l e room_1 s m args below meth c H locs 600000 7302250 Q (F0 m 634 ls []) := by
  subst ho
  obtain ⟨r, σ1, e1, r1, τ1, e2, hr, cls1, clsK1, hD1⟩ := s_note hD (a := kl_x xs (i + 1)) (b := kl_x xs (i + 2)) (c := kl_x xs (i + 3)) (kl_xin xs _) (kl_xin xs _) (kl_xin xs _)
  subst hr
  refine lv_aload_n C.1 C.2.1 dL_law_634 rfl (lv_at hl 1 rfl) ?_
  refine kl_arg (pc := 635) C hX hbl hL S hl (k := 1) ⟨hi.1, by decide, by omega⟩ dL_law_635 dL_law_636 dL_law_637 dL_law_638 dL_law_639 ?_
  refine kl_arg (pc := 640) C hX hbl hL S hl (k := 2) ⟨hi.1, by decide, by omega⟩ dL_law_640 dL_law_641 dL_law_642 dL_law_643 dL_law_644 ?_
  refine kl_arg (pc := 645) C hX hbl hL S hl (k := 3) ⟨hi.1, by decide, by omega⟩ dL_law_645 dL_law_646 dL_law_647 dL_law_648 dL_law_649 ?_
  refine kl_cK (pc := 650) (rest := []) (As := [kp_iv (kl_x xs (i + 1)), kp_iv (kl_x xs (i + 2)), kp_iv (kl_x xs (i + 3))]) (dd := 1) C G S hl.1 (kc_X9_note e1) q3_106 q3_107 q3_108 q3_109 ⟨rfl, hd_X9_note⟩ ⟨by decide, by decide⟩ rfl rfl (by exact Nat.le_of_ble_eq_true rfl) dL_law_650 (fun H locs S => ?_)
  refine lv_aload_n C.1 C.2.1 dL_law_653 rfl (lv_at hl 2 rfl) ?_
  refine kl_arg (pc := 654) C hX hbl hL S hl (k := 1) ⟨hi.1, by decide, by omega⟩ dL_law_654 dL_law_655 dL_law_656 dL_law_657 dL_law_658 ?_
  refine kl_arg (pc := 659) C hX hbl hL S hl (k := 2) ⟨hi.1, by decide, by omega⟩ dL_law_659 dL_law_660 dL_law_661 dL_law_662 dL_law_663 ?_
  refine kl_arg (pc := 664) C hX hbl hL S hl (k := 3) ⟨hi.1, by decide, by omega⟩ dL_law_664 dL_law_665 dL_law_666 dL_law_667 dL_law_668 ?_
  refine kl_cM (pc := 669) (rest := [kp_iv r1]) (As := [kp_iv (kl_x xs (i + 1)), kp_iv (kl_x xs (i + 2)), kp_iv (kl_x xs (i + 3))]) (dd := 2) C G S hl.1 (kc_X10_note e2) q5_82 q5_83 q5_84 q5_85 ⟨rfl, hd_X10_note⟩ ⟨by decide, by decide⟩ rfl rfl (by exact Nat.le_of_ble_eq_true rfl) dL_law_669 (fun H locs S => ?_)
  exact lv_icmp_eq (tgt := 1122) C.1 C.2.1 dL_law_672 (by decide) (fun _ => K _ _ _ _ _ _ S hD1) (fun z => absurd rfl z)
set_option maxRecDepth 100000 in
set_option maxHeartbeats 4000000 in
theorem kl_c13 (C : CallFix p m c cL_law 4 s args kp_wl own) (ho : own = RL) (G : kp_GK X s.heap.size s) (hX : va_X b L xs s s.heap) (hbl : b < s.heap.size) (hL : L ≤ 320) (S : kl_S X s σ τ H locs) (hD : kz_D σ τ cls clsK) (hl : lv_has ls 4 [(0, .ref b), (1, .ref s.heap.size), (2, .ref (s.heap.size + 55)), (3, kp_iv i)]) (hi : 0 ≤ i ∧ i + 5 ≤ (L : Int)) (K : ∀ (H : Heap) (locs : List Loc) (σ τ : kp_W) (cls clsK : List kz_C), kl_S X s σ τ H locs → kz_D σ τ cls clsK → W p l e room_1 s m args below meth c H locs 600000 7302250 Q (F0 m 1122 ls [])) : W p l e room_1 s m args below meth c H locs 600000 7302250 Q (F0 m 677 ls []) := by
  subst ho
  obtain ⟨r, σ1, e1, r1, τ1, e2, hr, cls1, clsK1, hD1⟩ := s_clear hD
  subst hr
  refine lv_aload_n C.1 C.2.1 dL_law_677 rfl (lv_at hl 1 rfl) ?_
  refine kl_cK (pc := 678) (rest := []) (As := []) (dd := 0) C G S hl.1 (kc_X9_clear e1) q3_114 q3_115 q3_116 q3_117 ⟨rfl, hd_X9_clear⟩ ⟨by decide, by decide⟩ rfl rfl (by exact Nat.le_of_ble_eq_true rfl) dL_law_678 (fun H locs S => ?_)
  refine lv_aload_n C.1 C.2.1 dL_law_681 rfl (lv_at hl 2 rfl) ?_
  refine kl_cM (pc := 682) (rest := [kp_iv r1]) (As := []) (dd := 0) C G S hl.1 (kc_X10_clear e2) q5_86 q5_87 q5_88 q5_89 ⟨rfl, hd_X10_clear⟩ ⟨by decide, by decide⟩ rfl rfl (by exact Nat.le_of_ble_eq_true rfl) dL_law_682 (fun H locs S => ?_)
  exact lv_icmp_eq (tgt := 1122) C.1 C.2.1 dL_law_685 (by decide) (fun _ => K _ _ _ _ _ _ S hD1) (fun z => absurd rfl z)
set_option maxRecDepth 100000 in
set_option maxHeartbeats 4000000 in
theorem kl_c14 (C : CallFix p m c cL_law 4 s args kp_wl own) (ho : own = RL) (G : kp_GK X s.heap.size s) (hX : va_X b L xs s s.heap) (hbl : b < s.heap.size) (hL : L ≤ 320) (S : kl_S X s σ τ H locs) (hD : kz_D σ τ cls clsK) (hl : lv_has ls 4 [(0, .ref b), (1, .ref s.heap.size), (2, .ref (s.heap.size + 55)), (3, kp_iv i)]) (hi : 0 ≤ i ∧ i + 5 ≤ (L : Int)) (K : ∀ (H : Heap) (locs : List Loc) (σ τ : kp_W) (cls clsK : List kz_C), kl_S X s σ τ H locs → kz_D σ τ cls clsK → W p l e room_1 s m args below meth c H locs 600000 7302250 Q (F0 m 1122 ls [])) : W p l e room_1 s m args below meth c H locs 600000 7302250 Q (F0 m 690 ls []) := by
  subst ho
  obtain ⟨r, σ1, e1, r1, τ1, e2, hr, cls1, clsK1, hD1⟩ := s_fits hD (a := kl_x xs (i + 1)) (kl_xin xs _)
  subst hr
  refine lv_aload_n C.1 C.2.1 dL_law_690 rfl (lv_at hl 1 rfl) ?_
  refine kl_arg (pc := 691) C hX hbl hL S hl (k := 1) ⟨hi.1, by decide, by omega⟩ dL_law_691 dL_law_692 dL_law_693 dL_law_694 dL_law_695 ?_
  refine kl_cK (pc := 696) (rest := []) (As := [kp_iv (kl_x xs (i + 1))]) (dd := 6) C G S hl.1 (kc_X9_fits e1) q3_118 q3_119 q3_120 q3_121 ⟨rfl, hd_X9_fits⟩ ⟨by decide, by decide⟩ rfl rfl (by exact Nat.le_of_ble_eq_true rfl) dL_law_696 (fun H locs S => ?_)
  refine lv_aload_n C.1 C.2.1 dL_law_699 rfl (lv_at hl 2 rfl) ?_
  refine kl_arg (pc := 700) C hX hbl hL S hl (k := 1) ⟨hi.1, by decide, by omega⟩ dL_law_700 dL_law_701 dL_law_702 dL_law_703 dL_law_704 ?_
  refine kl_cM (pc := 705) (rest := [kp_iv r1]) (As := [kp_iv (kl_x xs (i + 1))]) (dd := 6) C G S hl.1 (kc_X10_fits e2) q5_90 q5_91 q5_92 q5_93 ⟨rfl, hd_X10_fits⟩ ⟨by decide, by decide⟩ rfl rfl (by exact Nat.le_of_ble_eq_true rfl) dL_law_705 (fun H locs S => ?_)
  exact lv_icmp_eq (tgt := 1122) C.1 C.2.1 dL_law_708 (by decide) (fun _ => K _ _ _ _ _ _ S hD1) (fun z => absurd rfl z)
set_option maxRecDepth 100000 in
set_option maxHeartbeats 4000000 in
theorem kl_c15 (C : CallFix p m c cL_law 4 s args kp_wl own) (ho : own = RL) (G : kp_GK X s.heap.size s) (hX : va_X b L xs s s.heap) (hbl : b < s.heap.size) (hL : L ≤ 320) (S : kl_S X s σ τ H locs) (hD : kz_D σ τ cls clsK) (hl : lv_has ls 4 [(0, .ref b), (1, .ref s.heap.size), (2, .ref (s.heap.size + 55)), (3, kp_iv i)]) (hi : 0 ≤ i ∧ i + 5 ≤ (L : Int)) (K : ∀ (H : Heap) (locs : List Loc) (σ τ : kp_W) (cls clsK : List kz_C), kl_S X s σ τ H locs → kz_D σ τ cls clsK → W p l e room_1 s m args below meth c H locs 600000 7302250 Q (F0 m 1122 ls [])) : W p l e room_1 s m args below meth c H locs 600000 7302250 Q (F0 m 713 ls []) := by
  subst ho
  obtain ⟨r, σ1, e1, r1, τ1, e2, hr, cls1, clsK1, hD1⟩ := s_odds hD (a := kl_x xs (i + 1)) (b := kl_x xs (i + 2)) (kl_xin xs _) (kl_xin xs _)
  subst hr
  refine lv_aload_n C.1 C.2.1 dL_law_713 rfl (lv_at hl 1 rfl) ?_
  refine kl_arg (pc := 714) C hX hbl hL S hl (k := 1) ⟨hi.1, by decide, by omega⟩ dL_law_714 dL_law_715 dL_law_716 dL_law_717 dL_law_718 ?_
  refine kl_arg (pc := 719) C hX hbl hL S hl (k := 2) ⟨hi.1, by decide, by omega⟩ dL_law_719 dL_law_720 dL_law_721 dL_law_722 dL_law_723 ?_
  refine kl_cK (pc := 724) (rest := []) (As := [kp_iv (kl_x xs (i + 1)), kp_iv (kl_x xs (i + 2))]) (dd := 6) C G S hl.1 (kc_X9_odds e1) q3_126 q3_127 q3_128 q3_129 ⟨rfl, hd_X9_odds⟩ ⟨by decide, by decide⟩ rfl rfl (by exact Nat.le_of_ble_eq_true rfl) dL_law_724 (fun H locs S => ?_)
  refine lv_aload_n C.1 C.2.1 dL_law_727 rfl (lv_at hl 2 rfl) ?_
  refine kl_arg (pc := 728) C hX hbl hL S hl (k := 1) ⟨hi.1, by decide, by omega⟩ dL_law_728 dL_law_729 dL_law_730 dL_law_731 dL_law_732 ?_
  refine kl_arg (pc := 733) C hX hbl hL S hl (k := 2) ⟨hi.1, by decide, by omega⟩ dL_law_733 dL_law_734 dL_law_735 dL_law_736 dL_law_737 ?_
  refine kl_cM (pc := 738) (rest := [kp_iv r1]) (As := [kp_iv (kl_x xs (i + 1)), kp_iv (kl_x xs (i + 2))]) (dd := 6) C G S hl.1 (kc_X10_odds e2) q5_98 q5_99 q5_100 q5_101 ⟨rfl, hd_X10_odds⟩ ⟨by decide, by decide⟩ rfl rfl (by exact Nat.le_of_ble_eq_true rfl) dL_law_738 (fun H locs S => ?_)
  exact lv_icmp_eq (tgt := 1122) C.1 C.2.1 dL_law_741 (by decide) (fun _ => K _ _ _ _ _ _ S hD1) (fun z => absurd rfl z)
end KLC
