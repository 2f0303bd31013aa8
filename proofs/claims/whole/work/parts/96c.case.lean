-- by program (wip/whole/gen/law.py): the law's cases
section KLC
variable {p : Program} {l : Launch} {e : Env} {s : State} {m : MethodId} {args : Array Value} {below : List Frame} {meth : Method} {c : Code} {H : Heap} {locs : List Loc} {Q : State → Prop}
variable {own : String} {ls : Array Slot} {X : kp_X} {σ τ : kp_W} {cls clsK : List kz_C} {i : Int} {b L : Nat} {xs : Nat → Int32}
set_option maxRecDepth 100000 in
set_option maxHeartbeats 4000000 in
theorem kl_c16 (C : CallFix p m c cL_law 4 s args kp_wl own) (ho : own = RL) (G : kp_GK X s.heap.size s) (hX : va_X b L xs s s.heap) (hbl : b < s.heap.size) (hL : L ≤ 320) (S : kl_S X s σ τ H locs) (hD : kz_D σ τ cls clsK) (hl : lv_has ls 4 [(0, .ref b), (1, .ref s.heap.size), (2, .ref (s.heap.size + 55)), (3, kp_iv i)]) (hi : 0 ≤ i ∧ i + 5 ≤ (L : Int)) (K : ∀ (H : Heap) (locs : List Loc) (σ τ : kp_W) (cls clsK : List kz_C), kl_S X s σ τ H locs → kz_D σ τ cls clsK → W p l e room_1 s m args below meth c H locs 600000 7302250 Q (F0 m 1122 ls [])) : W p l e room_1 s m args below meth c H locs 600000 7302250 Q (F0 m 746 ls []) := by
  subst ho
  obtain ⟨r, σ1, e1, r1, τ1, e2, hr, cls1, clsK1, hD1⟩ := s_which hD (a := kl_x xs (i + 1)) (kl_xin xs _)
  subst hr
  refine lv_aload_n C.1 C.2.1 dL_law_746 rfl (lv_at hl 1 rfl) ?_
  refine kl_arg (pc := 747) C hX hbl hL S hl (k := 1) ⟨hi.1, by decide, by omega⟩ dL_law_747 dL_law_748 dL_law_749 dL_law_750 dL_law_751 ?_
  refine kl_cK (pc := 752) (rest := []) (As := [kp_iv (kl_x xs (i + 1))]) (dd := 6) C G S hl.1 (kc_X9_which e1) q3_139 q3_140 q3_141 q3_142 ⟨rfl, hd_X9_which⟩ ⟨by decide, by decide⟩ rfl rfl (by exact Nat.le_of_ble_eq_true rfl) dL_law_752 (fun H locs S => ?_)
  refine lv_aload_n C.1 C.2.1 dL_law_755 rfl (lv_at hl 2 rfl) ?_
  refine kl_arg (pc := 756) C hX hbl hL S hl (k := 1) ⟨hi.1, by decide, by omega⟩ dL_law_756 dL_law_757 dL_law_758 dL_law_759 dL_law_760 ?_
  refine kl_cM (pc := 761) (rest := [kp_iv r1]) (As := [kp_iv (kl_x xs (i + 1))]) (dd := 6) C G S hl.1 (kc_X10_which e2) q5_108 q5_109 q5_110 q5_111 ⟨rfl, hd_X10_which⟩ ⟨by decide, by decide⟩ rfl rfl (by exact Nat.le_of_ble_eq_true rfl) dL_law_761 (fun H locs S => ?_)
  exact lv_icmp_eq (tgt := 1122) C.1 C.2.1 dL_law_764 (by decide) (fun _ => K _ _ _ _ _ _ S hD1) (fun z => absurd rfl z)
set_option maxRecDepth 100000 in
set_option maxHeartbeats 4000000 in
theorem kl_c17 (C : CallFix p m c cL_law 4 s args kp_wl own) (ho : own = RL) (G : kp_GK X s.heap.size s) (hX : va_X b L xs s s.heap) (hbl : b < s.heap.size) (hL : L ≤ 320) (S : kl_S X s σ τ H locs) (hD : kz_D σ τ cls clsK) (hl : lv_has ls 4 [(0, .ref b), (1, .ref s.heap.size), (2, .ref (s.heap.size + 55)), (3, kp_iv i)]) (hi : 0 ≤ i ∧ i + 5 ≤ (L : Int)) (K : ∀ (H : Heap) (locs : List Loc) (σ τ : kp_W) (cls clsK : List kz_C), kl_S X s σ τ H locs → kz_D σ τ cls clsK → W p l e room_1 s m args below meth c H locs 600000 7302250 Q (F0 m 1122 ls [])) : W p l e room_1 s m args below meth c H locs 600000 7302250 Q (F0 m 769 ls []) := by
  subst ho
  obtain ⟨r, σ1, e1, r1, τ1, e2, hr, cls1, clsK1, hD1⟩ := s_next hD
  subst hr
  refine lv_aload_n C.1 C.2.1 dL_law_769 rfl (lv_at hl 1 rfl) ?_
  refine kl_cK (pc := 770) (rest := []) (As := []) (dd := 6) C G S hl.1 (kc_X9_next e1) q3_167 q3_168 q3_169 q3_170 ⟨rfl, hd_X9_next⟩ ⟨by decide, by decide⟩ rfl rfl (by exact Nat.le_of_ble_eq_true rfl) dL_law_770 (fun H locs S => ?_)
  refine lv_aload_n C.1 C.2.1 dL_law_773 rfl (lv_at hl 2 rfl) ?_
  refine kl_cM (pc := 774) (rest := [kp_iv r1]) (As := []) (dd := 6) C G S hl.1 (kc_X10_next e2) q5_128 q5_129 q5_130 q5_131 ⟨rfl, hd_X10_next⟩ ⟨by decide, by decide⟩ rfl rfl (by exact Nat.le_of_ble_eq_true rfl) dL_law_774 (fun H locs S => ?_)
  exact lv_icmp_eq (tgt := 1122) C.1 C.2.1 dL_law_777 (by decide) (fun _ => K _ _ _ _ _ _ S hD1) (fun z => absurd rfl z)
set_option maxRecDepth 100000 in
set_option maxHeartbeats 4000000 in
theorem kl_c18 (C : CallFix p m c cL_law 4 s args kp_wl own) (ho : own = RL) (G : kp_GK X s.heap.size s) (hX : va_X b L xs s s.heap) (hbl : b < s.heap.size) (hL : L ≤ 320) (S : kl_S X s σ τ H locs) (hD : kz_D σ τ cls clsK) (hl : lv_has ls 4 [(0, .ref b), (1, .ref s.heap.size), (2, .ref (s.heap.size + 55)), (3, kp_iv i)]) (hi : 0 ≤ i ∧ i + 5 ≤ (L : Int)) (K : ∀ (H : Heap) (locs : List Loc) (σ τ : kp_W) (cls clsK : List kz_C), kl_S X s σ τ H locs → kz_D σ τ cls clsK → W p l e room_1 s m args below meth c H locs 600000 7302250 Q (F0 m 1122 ls [])) : W p l e room_1 s m args below meth c H locs 600000 7302250 Q (F0 m 782 ls []) := by
  subst ho
  obtain ⟨r, σ1, e1, r1, τ1, e2, hr, cls1, clsK1, hD1⟩ := s_least hD (a := kl_x xs (i + 1)) (b := kl_x xs (i + 2)) (kl_xin xs _) (kl_xin xs _)
  subst hr
  refine lv_aload_n C.1 C.2.1 dL_law_782 rfl (lv_at hl 1 rfl) ?_
  refine kl_arg (pc := 783) C hX hbl hL S hl (k := 1) ⟨hi.1, by decide, by omega⟩ dL_law_783 dL_law_784 dL_law_785 dL_law_786 dL_law_787 ?_
  refine kl_arg (pc := 788) C hX hbl hL S hl (k := 2) ⟨hi.1, by decide, by omega⟩ dL_law_788 dL_law_789 dL_law_790 dL_law_791 dL_law_792 ?_
  refine kl_cK (pc := 793) (rest := []) (As := [kp_iv (kl_x xs (i + 1)), kp_iv (kl_x xs (i + 2))]) (dd := 6) C G S hl.1 (kc_X9_least e1) q3_175 q3_176 q3_177 q3_178 ⟨rfl, hd_X9_least⟩ ⟨by decide, by decide⟩ rfl rfl (by exact Nat.le_of_ble_eq_true rfl) dL_law_793 (fun H locs S => ?_)
  refine lv_aload_n C.1 C.2.1 dL_law_796 rfl (lv_at hl 2 rfl) ?_
  refine kl_arg (pc := 797) C hX hbl hL S hl (k := 1) ⟨hi.1, by decide, by omega⟩ dL_law_797 dL_law_798 dL_law_799 dL_law_800 dL_law_801 ?_
  refine kl_arg (pc := 802) C hX hbl hL S hl (k := 2) ⟨hi.1, by decide, by omega⟩ dL_law_802 dL_law_803 dL_law_804 dL_law_805 dL_law_806 ?_
  refine kl_cM (pc := 807) (rest := [kp_iv r1]) (As := [kp_iv (kl_x xs (i + 1)), kp_iv (kl_x xs (i + 2))]) (dd := 6) C G S hl.1 (kc_X10_least e2) q5_132 q5_133 q5_134 q5_135 ⟨rfl, hd_X10_least⟩ ⟨by decide, by decide⟩ rfl rfl (by exact Nat.le_of_ble_eq_true rfl) dL_law_807 (fun H locs S => ?_)
  exact lv_icmp_eq (tgt := 1122) C.1 C.2.1 dL_law_810 (by decide) (fun _ => K _ _ _ _ _ _ S hD1) (fun z => absurd rfl z)
set_option maxRecDepth 100000 in
set_option maxHeartbeats 4000000 in
theorem kl_c19 (C : CallFix p m c cL_law 4 s args kp_wl own) (ho : own = RL) (G : kp_GK X s.heap.size s) (hX : va_X b L xs s s.heap) (hbl : b < s.heap.size) (hL : L ≤ 320) (S : kl_S X s σ τ H locs) (hD : kz_D σ τ cls clsK) (hl : lv_has ls 4 [(0, .ref b), (1, .ref s.heap.size), (2, .ref (s.heap.size + 55)), (3, kp_iv i)]) (hi : 0 ≤ i ∧ i + 5 ≤ (L : Int)) (K : ∀ (H : Heap) (locs : List Loc) (σ τ : kp_W) (cls clsK : List kz_C), kl_S X s σ τ H locs → kz_D σ τ cls clsK → W p l e room_1 s m args below meth c H locs 600000 7302250 Q (F0 m 1122 ls [])) : W p l e room_1 s m args below meth c H locs 600000 7302250 Q (F0 m 815 ls []) := by
  subst ho
  obtain ⟨r, σ1, e1, r1, τ1, e2, hr, cls1, clsK1, hD1⟩ := s_eased hD (a := kl_x xs (i + 1)) (b := kl_x xs (i + 2)) (kl_xin xs _) (kl_xin xs _)
  subst hr
  refine lv_aload_n C.1 C.2.1 dL_law_815 rfl (lv_at hl 1 rfl) ?_
  refine kl_arg (pc := 816) C hX hbl hL S hl (k := 1) ⟨hi.1, by decide, by omega⟩ dL_law_816 dL_law_817 dL_law_818 dL_law_819 dL_law_820 ?_
  refine kl_arg (pc := 821) C hX hbl hL S hl (k := 2) ⟨hi.1, by decide, by omega⟩ dL_law_821 dL_law_822 dL_law_823 dL_law_824 dL_law_825 ?_
  refine kl_cK (pc := 826) (rest := []) (As := [kp_iv (kl_x xs (i + 1)), kp_iv (kl_x xs (i + 2))]) (dd := 6) C G S hl.1 (kc_X9_eased e1) q3_187 q3_188 q3_189 q3_190 ⟨rfl, hd_X9_eased⟩ ⟨by decide, by decide⟩ rfl rfl (by exact Nat.le_of_ble_eq_true rfl) dL_law_826 (fun H locs S => ?_)
  refine lv_aload_n C.1 C.2.1 dL_law_829 rfl (lv_at hl 2 rfl) ?_
  refine kl_arg (pc := 830) C hX hbl hL S hl (k := 1) ⟨hi.1, by decide, by omega⟩ dL_law_830 dL_law_831 dL_law_832 dL_law_833 dL_law_834 ?_
  refine kl_arg (pc := 835) C hX hbl hL S hl (k := 2) ⟨hi.1, by decide, by omega⟩ dL_law_835 dL_law_836 dL_law_837 dL_law_838 dL_law_839 ?_
  refine kl_cM (pc := 840) (rest := [kp_iv r1]) (As := [kp_iv (kl_x xs (i + 1)), kp_iv (kl_x xs (i + 2))]) (dd := 6) C G S hl.1 (kc_X10_eased e2) q5_136 q5_137 q5_138 q5_139 ⟨rfl, hd_X10_eased⟩ ⟨by decide, by decide⟩ rfl rfl (by exact Nat.le_of_ble_eq_true rfl) dL_law_840 (fun H locs S => ?_)
  exact lv_icmp_eq (tgt := 1122) C.1 C.2.1 dL_law_843 (by decide) (fun _ => K _ _ _ _ _ _ S hD1) (fun z => absurd rfl z)
set_option maxRecDepth 100000 in
set_option maxHeartbeats 4000000 in
theorem kl_c20 (C : CallFix p m c cL_law 4 s args kp_wl own) (ho : own = RL) (G : kp_GK X s.heap.size s) (hX : va_X b L xs s s.heap) (hbl : b < s.heap.size) (hL : L ≤ 320) (S : kl_S X s σ τ H locs) (hD : kz_D σ τ cls clsK) (hl : lv_has ls 4 [(0, .ref b), (1, .ref s.heap.size), (2, .ref (s.heap.size + 55)), (3, kp_iv i)]) (hi : 0 ≤ i ∧ i + 5 ≤ (L : Int)) (K : ∀ (H : Heap) (locs : List Loc) (σ τ : kp_W) (cls clsK : List kz_C), kl_S X s σ τ H locs → kz_D σ τ cls clsK → W p l e room_1 s m args below meth c H locs 600000 7302250 Q (F0 m 1122 ls [])) : W p l e room_1 s m args below meth c H locs 600000 7302250 Q (F0 m 848 ls []) := by
  subst ho
  obtain ⟨r, σ1, e1, r1, τ1, e2, hr, cls1, clsK1, hD1⟩ := s_parted hD (a := kl_x xs (i + 1)) (b := kl_x xs (i + 2)) (kl_xin xs _) (kl_xin xs _)
  subst hr
  refine lv_aload_n C.1 C.2.1 dL_law_848 rfl (lv_at hl 1 rfl) ?_
  refine kl_arg (pc := 849) C hX hbl hL S hl (k := 1) ⟨hi.1, by decide, by omega⟩ dL_law_849 dL_law_850 dL_law_851 dL_law_852 dL_law_853 ?_
  refine kl_arg (pc := 854) C hX hbl hL S hl (k := 2) ⟨hi.1, by decide, by omega⟩ dL_law_854 dL_law_855 dL_law_856 dL_law_857 dL_law_858 ?_
  refine kl_cKl (pc := 859) (rest := []) (As := [kp_iv (kl_x xs (i + 1)), kp_iv (kl_x xs (i + 2))]) (dd := 6) C G S hl.1 (kc_X9_parted e1) q3_191 q3_192 q3_193 q3_194 ⟨rfl, hd_X9_parted⟩ ⟨by decide, by decide⟩ rfl rfl (by exact Nat.le_of_ble_eq_true rfl) dL_law_859 (fun H locs S => ?_)
  refine lv_aload_n C.1 C.2.1 dL_law_862 rfl (lv_at hl 2 rfl) ?_
  refine kl_arg (pc := 863) C hX hbl hL S hl (k := 1) ⟨hi.1, by decide, by omega⟩ dL_law_863 dL_law_864 dL_law_865 dL_law_866 dL_law_867 ?_
  refine kl_arg (pc := 868) C hX hbl hL S hl (k := 2) ⟨hi.1, by decide, by omega⟩ dL_law_868 dL_law_869 dL_law_870 dL_law_871 dL_law_872 ?_
  refine kl_cMl (pc := 873) (rest := [kp_jv r1]) (As := [kp_iv (kl_x xs (i + 1)), kp_iv (kl_x xs (i + 2))]) (dd := 6) C G S hl.1 (kc_X10_parted e2) q5_140 q5_141 q5_142 q5_143 ⟨rfl, hd_X10_parted⟩ ⟨by decide, by decide⟩ rfl rfl (by exact Nat.le_of_ble_eq_true rfl) dL_law_873 (fun H locs S => ?_)
  refine W.lcmp C.1 C.2.1 dL_law_876 ?_
  rw [kl_cmp]
  exact lv_if_eq (tgt := 1122) C.1 C.2.1 dL_law_877 (by decide) (fun _ => K _ _ _ _ _ _ S hD1) (fun z => absurd rfl z)
set_option maxRecDepth 100000 in
set_option maxHeartbeats 4000000 in
theorem kl_c21 (C : CallFix p m c cL_law 4 s args kp_wl own) (ho : own = RL) (G : kp_GK X s.heap.size s) (hX : va_X b L xs s s.heap) (hbl : b < s.heap.size) (hL : L ≤ 320) (S : kl_S X s σ τ H locs) (hD : kz_D σ τ cls clsK) (hl : lv_has ls 4 [(0, .ref b), (1, .ref s.heap.size), (2, .ref (s.heap.size + 55)), (3, kp_iv i)]) (hi : 0 ≤ i ∧ i + 5 ≤ (L : Int)) (K : ∀ (H : Heap) (locs : List Loc) (σ τ : kp_W) (cls clsK : List kz_C), kl_S X s σ τ H locs → kz_D σ τ cls clsK → W p l e room_1 s m args below meth c H locs 600000 7302250 Q (F0 m 1122 ls [])) : W p l e room_1 s m args below meth c H locs 600000 7302250 Q (F0 m 882 ls []) := by
  subst ho
  obtain ⟨r, σ1, e1, r1, τ1, e2, hr, cls1, clsK1, hD1⟩ := s_quiet hD (a := kl_x xs (i + 1)) (kl_xin xs _)
  subst hr
  refine lv_aload_n C.1 C.2.1 dL_law_882 rfl (lv_at hl 1 rfl) ?_
  refine kl_arg (pc := 883) C hX hbl hL S hl (k := 1) ⟨hi.1, by decide, by omega⟩ dL_law_883 dL_law_884 dL_law_885 dL_law_886 dL_law_887 ?_
  refine kl_cK (pc := 888) (rest := []) (As := [kp_iv (kl_x xs (i + 1))]) (dd := 6) C G S hl.1 (kc_X9_quiet e1) q3_201 q3_202 q3_203 q3_204 ⟨rfl, hd_X9_quiet⟩ ⟨by decide, by decide⟩ rfl rfl (by exact Nat.le_of_ble_eq_true rfl) dL_law_888 (fun H locs S => ?_)
  refine lv_aload_n C.1 C.2.1 dL_law_891 rfl (lv_at hl 2 rfl) ?_
  refine kl_arg (pc := 892) C hX hbl hL S hl (k := 1) ⟨hi.1, by decide, by omega⟩ dL_law_892 dL_law_893 dL_law_894 dL_law_895 dL_law_896 ?_
  refine kl_cM (pc := 897) (rest := [kp_iv r1]) (As := [kp_iv (kl_x xs (i + 1))]) (dd := 6) C G S hl.1 (kc_X10_quiet e2) q5_145 q5_146 q5_147 q5_148 ⟨rfl, hd_X10_quiet⟩ ⟨by decide, by decide⟩ rfl rfl (by exact Nat.le_of_ble_eq_true rfl) dL_law_897 (fun H locs S => ?_)
  exact lv_icmp_eq (tgt := 1122) C.1 C.2.1 dL_law_900 (by decide) (fun _ => K _ _ _ _ _ _ S hD1) (fun z => absurd rfl z)
set_option maxRecDepth 100000 in
set_option maxHeartbeats 4000000 in
theorem kl_c22 (C : CallFix p m c cL_law 4 s args kp_wl own) (ho : own = RL) (G : kp_GK X s.heap.size s) (hX : va_X b L xs s s.heap) (hbl : b < s.heap.size) (hL : L ≤ 320) (S : kl_S X s σ τ H locs) (hD : kz_D σ τ cls clsK) (hl : lv_has ls 4 [(0, .ref b), (1, .ref s.heap.size), (2, .ref (s.heap.size + 55)), (3, kp_iv i)]) (hi : 0 ≤ i ∧ i + 5 ≤ (L : Int)) (K : ∀ (H : Heap) (locs : List Loc) (σ τ : kp_W) (cls clsK : List kz_C), kl_S X s σ τ H locs → kz_D σ τ cls clsK → W p l e room_1 s m args below meth c H locs 600000 7302250 Q (F0 m 1122 ls [])) : W p l e room_1 s m args below meth c H locs 600000 7302250 Q (F0 m 905 ls []) := by
  subst ho
  obtain ⟨r, σ1, e1, r1, τ1, e2, hr, cls1, clsK1, hD1⟩ := s_moved hD (a := kl_x xs (i + 1)) (b := kl_x xs (i + 2)) (kl_xin xs _) (kl_xin xs _)
  subst hr
  refine lv_aload_n C.1 C.2.1 dL_law_905 rfl (lv_at hl 1 rfl) ?_
  refine kl_arg (pc := 906) C hX hbl hL S hl (k := 1) ⟨hi.1, by decide, by omega⟩ dL_law_906 dL_law_907 dL_law_908 dL_law_909 dL_law_910 ?_
  refine kl_arg (pc := 911) C hX hbl hL S hl (k := 2) ⟨hi.1, by decide, by omega⟩ dL_law_911 dL_law_912 dL_law_913 dL_law_914 dL_law_915 ?_
  refine kl_cK (pc := 916) (rest := []) (As := [kp_iv (kl_x xs (i + 1)), kp_iv (kl_x xs (i + 2))]) (dd := 6) C G S hl.1 (kc_X9_moved e1) q3_205 q3_206 q3_207 q3_208 ⟨rfl, hd_X9_moved⟩ ⟨by decide, by decide⟩ rfl rfl (by exact Nat.le_of_ble_eq_true rfl) dL_law_916 (fun H locs S => ?_)
  refine lv_aload_n C.1 C.2.1 dL_law_919 rfl (lv_at hl 2 rfl) ?_
  refine kl_arg (pc := 920) C hX hbl hL S hl (k := 1) ⟨hi.1, by decide, by omega⟩ dL_law_920 dL_law_921 dL_law_922 dL_law_923 dL_law_924 ?_
  refine kl_arg (pc := 925) C hX hbl hL S hl (k := 2) ⟨hi.1, by decide, by omega⟩ dL_law_925 dL_law_926 dL_law_927 dL_law_928 dL_law_929 ?_
  refine kl_cM (pc := 930) (rest := [kp_iv r1]) (As := [kp_iv (kl_x xs (i + 1)), kp_iv (kl_x xs (i + 2))]) (dd := 6) C G S hl.1 (kc_X10_moved e2) q5_149 q5_150 q5_151 q5_152 ⟨rfl, hd_X10_moved⟩ ⟨by decide, by decide⟩ rfl rfl (by exact Nat.le_of_ble_eq_true rfl) dL_law_930 (fun H locs S => ?_)
  exact lv_icmp_eq (tgt := 1122) C.1 C.2.1 dL_law_933 (by decide) (fun _ => K _ _ _ _ _ _ S hD1) (fun z => absurd rfl z)
set_option maxRecDepth 100000 in
set_option maxHeartbeats 4000000 in
theorem kl_c23 (C : CallFix p m c cL_law 4 s args kp_wl own) (ho : own = RL) (G : kp_GK X s.heap.size s) (hX : va_X b L xs s s.heap) (hbl : b < s.heap.size) (hL : L ≤ 320) (S : kl_S X s σ τ H locs) (hD : kz_D σ τ cls clsK) (hl : lv_has ls 4 [(0, .ref b), (1, .ref s.heap.size), (2, .ref (s.heap.size + 55)), (3, kp_iv i)]) (hi : 0 ≤ i ∧ i + 5 ≤ (L : Int)) (K : ∀ (H : Heap) (locs : List Loc) (σ τ : kp_W) (cls clsK : List kz_C), kl_S X s σ τ H locs → kz_D σ τ cls clsK → W p l e room_1 s m args below meth c H locs 600000 7302250 Q (F0 m 1122 ls [])) : W p l e room_1 s m args below meth c H locs 600000 7302250 Q (F0 m 938 ls []) := by
  subst ho
  obtain ⟨r, σ1, e1, r1, τ1, e2, hr, cls1, clsK1, hD1⟩ := s_older hD
  subst hr
  refine lv_aload_n C.1 C.2.1 dL_law_938 rfl (lv_at hl 1 rfl) ?_
  refine kl_cK (pc := 939) (rest := []) (As := []) (dd := 6) C G S hl.1 (kc_X9_older e1) q3_209 q3_210 q3_211 q3_212 ⟨rfl, hd_X9_older⟩ ⟨by decide, by decide⟩ rfl rfl (by exact Nat.le_of_ble_eq_true rfl) dL_law_939 (fun H locs S => ?_)
  refine lv_aload_n C.1 C.2.1 dL_law_942 rfl (lv_at hl 2 rfl) ?_
  refine kl_cM (pc := 943) (rest := [kp_iv r1]) (As := []) (dd := 6) C G S hl.1 (kc_X10_older e2) q5_153 q5_154 q5_155 q5_156 ⟨rfl, hd_X10_older⟩ ⟨by decide, by decide⟩ rfl rfl (by exact Nat.le_of_ble_eq_true rfl) dL_law_943 (fun H locs S => ?_)
  exact lv_icmp_eq (tgt := 1122) C.1 C.2.1 dL_law_946 (by decide) (fun _ => K _ _ _ _ _ _ S hD1) (fun z => absurd rfl z)
end KLC
