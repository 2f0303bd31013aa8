-- both sides, call by call
section SIM
variable {σ τ : kp_W} {cls clsK : List kz_C}
theorem s_warmth (hD : kz_D σ τ cls clsK) {a : Int} (ha : kp_in a) : kz_Sim σ τ (kf_X9_warmth a σ) (kf_X10_warmth a τ) := by
  have hz := hD.1.2.1
  refine s_q hD (c_warmthQ hD.1.1 hD.1.2.2 ha) (r_warmth hD.1.1.1 (by rw [hz.1]; exact Or.inl rfl) (by rw [hz.2.1]; decide) ha (fun τ' f => ?_))
  rw [hz.1, hz.2.1]
  exact ⟨rfl, ⟨fun a _ _ _ a5 _ _ _ => f a a5, fun j _ _ _ => by rw [f 0 (by decide)]⟩⟩
theorem s_knocks (hD : kz_D σ τ cls clsK) {a b c : Int} (ha : kp_in a) (hb : kp_in b) (hc : kp_in c) : kz_Sim σ τ (kf_X9_knocks a b c σ) (kf_X10_knocks a b c τ) := s_q hD (c_knocksQ hD.1.1 hD.1.2.2 ha hb hc) (r_knocks hD.1.1 rfl hD.1.2.1 ha hb hc)
theorem s_loud (hD : kz_D σ τ cls clsK) {a b c : Int} (ha : kp_in a) (hb : kp_in b) (hc : kp_in c) : kz_Sim σ τ (kf_X9_loud a b c σ) (kf_X10_loud a b c τ) := s_q hD (c_loudQ hD.1.1 hD.1.2.2 ha hb hc) (r_loud hD.1.1 rfl hD.1.2.1 ha hb hc)
theorem s_heard (hD : kz_D σ τ cls clsK) {a b : Int} (ha : kp_in a) (hb : kp_in b) : kz_Sim σ τ (kf_X9_heard a b σ) (kf_X10_heard a b τ) := s_q hD (c_heardQ hD.1.1 hD.1.2.2 ha hb) (r_heard hD.1.1 rfl hD.1.2.1 ha hb)
theorem s_seems (hD : kz_D σ τ cls clsK) {a : Int} (ha : kp_in a) : kz_Sim σ τ (kf_X9_seems a σ) (kf_X10_seems a τ) := s_q hD (c_seemsQ hD.1.1 hD.1.2.2 ha) (r_seems hD.1.1 rfl hD.1.2.1 ha)
theorem s_fits (hD : kz_D σ τ cls clsK) {a : Int} (ha : kp_in a) : kz_Sim σ τ (kf_X9_fits a σ) (kf_X10_fits a τ) := s_q hD (c_fitsQ hD.1.1 hD.1.2.2 ha) (r_fits hD.1.1 rfl hD.1.2.1 ha)
theorem s_odds (hD : kz_D σ τ cls clsK) {a b : Int} (ha : kp_in a) (hb : kp_in b) : kz_Sim σ τ (kf_X9_odds a b σ) (kf_X10_odds a b τ) := s_q hD (c_oddsQ hD.1.1 hD.1.2.2 ha hb) (r_odds hD.1.1 rfl hD.1.2.1 ha hb)
theorem s_which (hD : kz_D σ τ cls clsK) {a : Int} (ha : kp_in a) : kz_Sim σ τ (kf_X9_which a σ) (kf_X10_which a τ) := s_q hD (c_whichQ hD.1.1 hD.1.2.2 ha) (r_which hD.1.1 rfl hD.1.2.1 ha)
theorem s_next (hD : kz_D σ τ cls clsK) : kz_Sim σ τ (kf_X9_next σ) (kf_X10_next τ) := s_q hD (c_nextQ hD.1.1 hD.1.2.2) (r_next hD.1.1 rfl hD.1.2.1)
theorem s_least (hD : kz_D σ τ cls clsK) {a b : Int} (ha : kp_in a) (hb : kp_in b) : kz_Sim σ τ (kf_X9_least a b σ) (kf_X10_least a b τ) := s_q hD (c_leastQ hD.1.1 hD.1.2.2 ha hb) (r_least hD.1.1 rfl hD.1.2.1 ha hb)
theorem s_eased (hD : kz_D σ τ cls clsK) {a b : Int} (ha : kp_in a) (hb : kp_in b) : kz_Sim σ τ (kf_X9_eased a b σ) (kf_X10_eased a b τ) := s_q hD (c_easedQ hD.1.1 hD.1.2.2 ha hb) (r_eased hD.1.1 rfl hD.1.2.1 ha hb)
theorem s_parted (hD : kz_D σ τ cls clsK) {a b : Int} (ha : kp_in a) (hb : kp_in b) : kz_Sim σ τ (kf_X9_parted a b σ) (kf_X10_parted a b τ) := s_q hD (c_partedQ hD.1.1 hD.1.2.2 ha hb) (r_parted hD.1.1 rfl hD.1.2.1 ha hb)
theorem s_quiet (hD : kz_D σ τ cls clsK) {a : Int} (ha : kp_in a) : kz_Sim σ τ (kf_X9_quiet a σ) (kf_X10_quiet a τ) := s_q hD (c_quietQ hD.1.1 hD.1.2.2 ha) (r_quiet hD.1.1 rfl hD.1.2.1 ha)
theorem s_moved (hD : kz_D σ τ cls clsK) {a b : Int} (ha : kp_in a) (hb : kp_in b) : kz_Sim σ τ (kf_X9_moved a b σ) (kf_X10_moved a b τ) := s_q hD (c_movedQ hD.1.1 hD.1.2.2 ha hb) (r_moved hD.1.1 rfl hD.1.2.1 ha hb)
theorem s_older (hD : kz_D σ τ cls clsK) : kz_Sim σ τ (kf_X9_older σ) (kf_X10_older τ) := s_q hD (c_olderQ hD.1.1 hD.1.2.2) (r_older hD.1.1 rfl hD.1.2.1)
theorem s_harm (hD : kz_D σ τ cls clsK) {a : Int} (ha : kp_in a) : kz_Sim σ τ (kf_X9_harm a σ) (kf_X10_harm a τ) := s_q hD (c_harmQ hD.1.1 hD.1.2.2 ha) (r_harm hD.1.1 rfl hD.1.2.1 ha)
theorem s_told (hD : kz_D σ τ cls clsK) {a : Int} (ha : kp_in a) : kz_Sim σ τ (kf_X9_told a σ) (kf_X10_told a τ) := s_p hD (c_tolds hD.1.2.2.1 ha) (r_told hD.1.1.1 ha)
theorem s_of (hD : kz_D σ τ cls clsK) {a b : Int} (ha : kp_in a) (hb : kp_in b) : kz_Sim σ τ (kf_X9_of a b σ) (kf_X10_of a b τ) := s_p hD (c_ofA hD.1.1 hD.1.2.2.1 ha hb) (r_ofA hD.1.1 rfl ha hb)
theorem s_as (hD : kz_D σ τ cls clsK) {a b : Int} (ha : kp_in a) (hb : kp_in b) : kz_Sim σ τ (kf_X9_as a b σ) (kf_X10_as a b τ) := s_p hD (c_asA hD.1.1 hD.1.2.2.1 ha hb) (r_as hD.1.1 rfl ha hb)
theorem s_trace (hD : kz_D σ τ cls clsK) {a : Int} (ha : kp_in a) : kz_Sim σ τ (kf_X9_trace a σ) (kf_X10_trace a τ) := by
  obtain ⟨d8, d9, d10, d11⟩ := hD.2.2.2.1
  have h1 := c_traceA (σ := σ) ha (by rw [d9]; exact ⟨d10, d11⟩)
  rw [d8, d9] at h1
  exact s_p hD h1 (r_trace ha ⟨d10, d11⟩)
theorem s_count (hD : kz_D σ τ cls clsK) {a : Int} (ha : kp_in a) : kz_Sim σ τ (kf_X9_count a σ) (kf_X10_count a τ) := by
  have h1 := c_countA hD.1.2.2.1 ha
  rw [hD.2.2.2.1.2.1] at h1
  exact s_p hD h1 (r_count (A := (τ 1, cls)) rfl ha)
theorem z_setB {s : Nat → Int} {k : Nat} {x : Int} {i : Nat} (h : k < 1066) (hi : 1066 ≤ i) : kz_set s k x i = s i := by rw [z_set, if_neg (by omega)]
theorem s_day (hD : kz_D σ τ cls clsK) {w v : Int} (hw : kp_in w) (hv : kp_inL v) : kz_Sim σ τ (kf_X9_day w v σ) (kf_X10_day w v τ) := by
  refine s_n hD (z_iday hD.1.1) (fun i hi => ?_) (c_dayA hD.1.1 hD.1.2.2 hw hv) (r_day hD.1.1 rfl hw hv)
  unfold kz_oDay
  repeat' split
  all_goals try rfl
  have := z_dyv (s := τ 1) (w := w) (v := v) (by omega) (k := 40) (i := (i : Int)) (by omega)
  rw [Int.toNat_natCast, if_neg (by omega)] at this
  exact this
theorem s_feed (hD : kz_D σ τ cls clsK) {v n : Int} (hv : kp_inL v) (hn : kp_in n) : kz_Sim σ τ (kf_X9_feed v n σ) (kf_X10_feed v n τ) := by
  have h3 : 0 ≤ τ 1 3 ∧ τ 1 3 ≤ 120 := hD.1.1.1.1.2.2.2.1
  refine s_n hD (z_ifeed hD.1.1) (fun i hi => ?_) (c_feedA hD.1.1 hD.1.2.2 hv hn) (r_feed hD.1.1 rfl hv hn)
  unfold kz_oFeed
  repeat' split
  all_goals try rfl
  have := z_fdv (s := τ 1) (v := v) (n := n) h3.1 (k := Int.toNat n) (i := (i : Int)) (by omega) (by omega)
  rw [Int.toNat_natCast, if_neg (by omega)] at this
  exact this
theorem s_still (hD : kz_D σ τ cls clsK) {a b : Int} (ha : kp_in a) (hb : kp_in b) : kz_Sim σ τ (kf_X9_still a b σ) (kf_X10_still a b τ) := by
  have h0 := hD.1.1.1.1.1
  refine s_n hD (z_istill hD.1.1) (fun i hi => ?_) (c_stillA hD.1.1 hD.1.2.2 ha hb) (r_still hD.1.1 rfl ha hb)
  unfold kz_oStill
  split
  · rfl
  · exact z_setB (by omega) hi
theorem s_clear (hD : kz_D σ τ cls clsK) : kz_Sim σ τ (kf_X9_clear σ) (kf_X10_clear τ) :=
  s_n hD (z_iclear hD.1.1) (fun i hi => z_setB (by omega) hi) (c_clearA hD.1.1 hD.1.2.2) (r_clear (A := (τ 1, cls)) rfl)
theorem s_note (hD : kz_D σ τ cls clsK) {a b c : Int} (ha : kp_in a) (hb : kp_in b) (hc : kp_in c) : kz_Sim σ τ (kf_X9_note a b c σ) (kf_X10_note a b c τ) := by
  have h2 := hD.1.1.1.1.2.2.1
  refine s_n hD (z_inote hD.1.1) (fun i hi => ?_) (c_noteA hD.1.1 hD.1.2.2 ha hb hc) (r_note hD.1.1 rfl ha hb hc)
  unfold kz_oNote
  repeat' split
  all_goals try rfl
  dsimp only at h2 ⊢
  rw [z_setB (by omega) hi, z_setB (by omega) hi, z_setB (by omega) hi, z_setB (by omega) hi]
theorem s_noise (hD : kz_D σ τ cls clsK) {a b c d : Int} (ha : kp_in a) (hb : kp_in b) (hc : kp_in c) (hd : kp_in d) : kz_Sim σ τ (kf_X9_noise a b c d σ) (kf_X10_noise a b c d τ) := by
  have h2 := hD.1.1.1.1.1
  refine s_n hD (z_inoise hD.1.1) (fun i hi => ?_) (c_noiseA hD.1.1 hD.1.2.2 ha hb hc hd) (r_noise hD.1.1 rfl ha hb hc hd)
  unfold kz_oNoise
  repeat' split
  all_goals try rfl
  dsimp only at h2 ⊢
  rw [z_setB (by omega) hi, z_setB (by omega) hi, z_setB (by omega) hi, z_setB (by omega) hi, z_setB (by omega) hi, z_setB (by omega) hi]
end SIM
