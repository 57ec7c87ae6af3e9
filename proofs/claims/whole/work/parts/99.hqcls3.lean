set_option maxHeartbeats 4000000 in
set_option maxRecDepth 100000 in
theorem q_X11_beginWith (x1 : Int32) (z1 : Int) (p1 : x1 = mJ z1) (ζ : ZS) (σ : HS) (hr : Rp ζ σ) : Sm QV (g_X11_beginWith z1 ζ) (f_X11_beginWith 26 x1 σ) := by
    unfold g_X11_beginWith f_X11_beginWith
    have hr101 := rwI (a := 26) (k := 16) hr p1
    refine sm_rk (a := 30) (pts (rp_s hr101) 26 2 30 rfl) kd_30 ?_
    have hr102 := rwI (a := 30) (k := 3) hr101 li_0
    refine sm_rkd (rp_r hr102 26 14) (fun c103 kc103 => ?_)
    refine sm_bind (q_X0_clear _ kc103 _ _ hr102) (fun q4 w4 e4 => ?_)
    have hr105 := rwI (a := 26) (k := 13) e4 li_0
    have hr106 := rwI (a := 26) (k := 17) hr105 li_255
    have hr107 := rwI (a := 26) (k := 18) hr106 li_1
    exact sm_rv hr107
set_option maxHeartbeats 4000000 in
set_option maxRecDepth 100000 in
theorem q_X11_measures_10  (ζ : ZS) (σ : HS) (hr : Rp ζ σ) : Sm QI (g_X11_measures_10 ζ) (f_X11_measures_10 σ) := by
    unfold g_X11_measures_10 f_X11_measures_10
    exact sm_ri li_0 hr
set_option maxHeartbeats 4000000 in
set_option maxRecDepth 100000 in
theorem q_X11_measures (x1 : Int32) (z1 : Int) (p1 : x1 = mJ z1) (ζ : ZS) (σ : HS) (hr : Rp ζ σ) : Sm QI (g_X11_measures z1 ζ) (f_X11_measures 26 x1 σ) := by
    unfold g_X11_measures f_X11_measures
    refine sm_ilt p1 li_1 ?_ ?_
    · exact q_X11_measures_10 _ _ hr
    · refine sm_ile p1 li_4 ?_ ?_
      · refine sm_bind (q_X11_beginWith _ _ p1 _ _ hr) (fun q1 w1 e1 => ?_)
        exact sm_ri li_1 e1
      · exact q_X11_measures_10 _ _ hr
set_option maxHeartbeats 4000000 in
set_option maxRecDepth 100000 in
theorem q_X11_takeGiven_80  (ζ : ZS) (σ : HS) (hr : Rp ζ σ) : Sm QI (g_X11_takeGiven_80 ζ) (f_X11_takeGiven_80 σ) := by
    unfold g_X11_takeGiven_80 f_X11_takeGiven_80
    exact sm_ri li_0 hr
set_option maxHeartbeats 4000000 in
set_option maxRecDepth 100000 in
theorem q_X11_takeGiven_82 (r32 : Int → ZS → Option (Int × ZS)) (f32 : Int32 → HS → Option (Int32 × HS)) (h32 : ∀ (x6 : Int32) (z6 : Int) (p6 : x6 = mJ z6) (ζ : ZS) (σ : HS), Rp ζ σ → Sm QI (r32 z6 ζ) (f32 x6 σ)) (x5 : Int32) (z5 : Int) (p5 : x5 = mJ z5) (x6 : Int32) (z6 : Int) (p6 : x6 = mJ z6) (ζ : ZS) (σ : HS) (hr : Rp ζ σ) : Sm QI (g_X11_takeGiven_82 r32 z5 z6 ζ) (f_X11_takeGiven_82 f32 26 x5 x6 σ) := by
    unfold g_X11_takeGiven_82 f_X11_takeGiven_82
    exact h32 _ _ (pa p6 li_1) _ _ hr
set_option maxHeartbeats 4000000 in
set_option maxRecDepth 100000 in
theorem q_X11_takeGiven_32 (x5 : Int32) (z5 : Int) (p5 : x5 = mJ z5) : ∀ (n : Nat) (x6 : Int32) (z6 : Int) (p6 : x6 = mJ z6) (ζ : ZS) (σ : HS), Rp ζ σ → Sm QI (g_X11_takeGiven_32 z5 n z6 ζ) (f_X11_takeGiven_32 26 x5 n x6 σ) := by
  intro n
  induction n with
  | zero =>
    intro x6 z6 p6 ζ σ hr
    exact sm_none
  | succ n ih =>
    intro x6 z6 p6 ζ σ hr
    rw [g_X11_takeGiven_32.eq_2, f_X11_takeGiven_32.eq_2]
    refine sm_ile li_4 p6 ?_ ?_
    · exact sm_ri li_1 hr
    · refine sm_ilt p6 (hr.1 26 16) ?_ ?_
      · refine sm_rk (a := 146) (pts (rp_s hr) 26 9 146 rfl) kd_146 ?_
        refine sm_ck p6 ln_146 (fun b101 => ?_)
        refine sm_ilt (rdI (a := 146) hr p6 b101 (Nat.le_of_ble_eq_true rfl)) li_0 ?_ ?_
        · exact q_X11_takeGiven_80 _ _ hr
        · refine sm_rk (a := 146) (pts (rp_s hr) 26 9 146 rfl) kd_146 ?_
          refine sm_ck p6 ln_146 (fun b102 => ?_)
          refine sm_ile (rdI (a := 146) hr p6 b102 (Nat.le_of_ble_eq_true rfl)) p5 ?_ ?_
          · exact q_X11_takeGiven_82 _ _ ih _ _ p5 _ _ p6 _ _ hr
          · exact q_X11_takeGiven_80 _ _ hr
      · refine sm_rk (a := 146) (pts (rp_s hr) 26 9 146 rfl) kd_146 ?_
        refine sm_ck p6 ln_146 (fun b103 => ?_)
        have hr104 := raI (a := 146) hr p6 b103 (Nat.le_of_ble_eq_true rfl) li_0
        exact q_X11_takeGiven_82 _ _ ih _ _ p5 _ _ p6 _ _ hr104
set_option maxHeartbeats 4000000 in
set_option maxRecDepth 100000 in
theorem q_X11_takeGiven (x1 : Int32) (z1 : Int) (p1 : x1 = mJ z1) (x2 : Int32) (z2 : Int) (p2 : x2 = mJ z2) (x3 : Int32) (z3 : Int) (p3 : x3 = mJ z3) (x4 : Int32) (z4 : Int) (p4 : x4 = mJ z4) (x5 : Int32) (z5 : Int) (p5 : x5 = mJ z5) (ζ : ZS) (σ : HS) (hr : Rp ζ σ) : Sm QI (g_X11_takeGiven z1 z2 z3 z4 z5 ζ) (f_X11_takeGiven 26 x1 x2 x3 x4 x5 σ) := by
    unfold g_X11_takeGiven f_X11_takeGiven
    refine sm_rk (a := 146) (pts (rp_s hr) 26 9 146 rfl) kd_146 ?_
    refine sm_ck li_0 ln_146 (fun b101 => ?_)
    have hr102 := raI (a := 146) hr li_0 b101 (Nat.le_of_ble_eq_true rfl) p1
    refine sm_rk (a := 146) (pts (rp_s hr102) 26 9 146 rfl) kd_146 ?_
    refine sm_ck li_1 ln_146 (fun b103 => ?_)
    have hr104 := raI (a := 146) hr102 li_1 b103 (Nat.le_of_ble_eq_true rfl) p2
    refine sm_rk (a := 146) (pts (rp_s hr104) 26 9 146 rfl) kd_146 ?_
    refine sm_ck li_2 ln_146 (fun b105 => ?_)
    have hr106 := raI (a := 146) hr104 li_2 b105 (Nat.le_of_ble_eq_true rfl) p3
    refine sm_rk (a := 146) (pts (rp_s hr106) 26 9 146 rfl) kd_146 ?_
    refine sm_ck li_3 ln_146 (fun b107 => ?_)
    have hr108 := raI (a := 146) hr106 li_3 b107 (Nat.le_of_ble_eq_true rfl) p4
    exact q_X11_takeGiven_32 _ _ p5 FU _ _ li_0 _ _ hr108
set_option maxHeartbeats 4000000 in
set_option maxRecDepth 100000 in
theorem q_X11_thing_25  (ζ : ZS) (σ : HS) (hr : Rp ζ σ) : Sm QI (g_X11_thing_25 ζ) (f_X11_thing_25 σ) := by
    unfold g_X11_thing_25 f_X11_thing_25
    exact sm_ri li_0 hr
set_option maxHeartbeats 4000000 in
set_option maxRecDepth 100000 in
theorem q_X11_thing (x1 : Int32) (z1 : Int) (p1 : x1 = mJ z1) (x2 : Int32) (z2 : Int) (p2 : x2 = mJ z2) (x3 : Int32) (z3 : Int) (p3 : x3 = mJ z3) (x4 : Int32) (z4 : Int) (p4 : x4 = mJ z4) (x5 : Int32) (z5 : Int) (p5 : x5 = mJ z5) (ζ : ZS) (σ : HS) (hr : Rp ζ σ) : Sm QI (g_X11_thing z1 z2 z3 z4 z5 ζ) (f_X11_thing 26 x1 x2 x3 x4 x5 σ) := by
    unfold g_X11_thing f_X11_thing
    refine sm_ilt p1 li_0 ?_ ?_
    · exact q_X11_thing_25 _ _ hr
    · refine sm_ile li_8 p1 ?_ ?_
      · exact q_X11_thing_25 _ _ hr
      · refine sm_bind (q_X11_takeGiven _ _ p2 _ _ p3 _ _ p4 _ _ p5 _ _ li_100 _ _ hr) (fun q1 w1 e1 => ?_)
        refine sm_ieq e1.1 li_0 ?_ ?_
        · exact q_X11_thing_25 _ _ e1.2
        · refine sm_rk (a := 30) (pts (rp_s e1.2) 26 2 30 rfl) kd_30 ?_
          refine sm_rk (a := 146) (pts (rp_s e1.2) 26 9 146 rfl) kd_146 ?_
          refine sm_bind (q_X9_tell _ _ p1 _ kd_146 _ _ e1.2) (fun q2 w2 e2 => ?_)
          have hr103 := rwI (a := 26) (k := 18) e2 li_1
          exact sm_ri li_1 hr103
set_option maxHeartbeats 4000000 in
set_option maxRecDepth 100000 in
theorem q_X11_drop (x1 : Int32) (z1 : Int) (p1 : x1 = mJ z1) (ζ : ZS) (σ : HS) (hr : Rp ζ σ) : Sm QI (g_X11_drop z1 ζ) (f_X11_drop 26 x1 σ) := by
    unfold g_X11_drop f_X11_drop
    refine sm_rk (a := 30) (pts (rp_s hr) 26 2 30 rfl) kd_30 ?_
    refine sm_bind (q_X9_isTold _ _ p1 _ _ hr) (fun q1 w1 e1 => ?_)
    refine sm_ieq e1.1 li_0 ?_ ?_
    · exact sm_ri li_0 e1.2
    · refine sm_rk (a := 30) (pts (rp_s e1.2) 26 2 30 rfl) kd_30 ?_
      have hr102 := rwI (a := 30) (k := 3) e1.2 (pand (e1.2.1 30 3) (pxor (pshl li_1 p1) li_m1))
      have hr103 := rwI (a := 26) (k := 18) hr102 li_1
      exact sm_ri li_1 hr103
set_option maxHeartbeats 4000000 in
set_option maxRecDepth 100000 in
theorem q_X11_feed (x1 : Int64) (z1 : Int) (p1 : x1 = mL z1) (x3 : Int64) (z3 : Int) (p3 : x3 = mL z3) (x5 : Int64) (z5 : Int) (p5 : x5 = mL z5) (ζ : ZS) (σ : HS) (hr : Rp ζ σ) : Sm QI (g_X11_feed z1 z3 z5 ζ) (f_X11_feed 26 x1 x3 x5 σ) := by
    unfold g_X11_feed f_X11_feed
    refine sm_rk (a := 27) (pts (rp_s hr) 26 0 27 rfl) kd_27 ?_
    refine sm_bind (q_X8_put _ _ p1 _ _ hr) (fun q1 w1 e1 => ?_)
    refine sm_rk (a := 27) (pts (rp_s e1) 26 0 27 rfl) kd_27 ?_
    refine sm_bind (q_X8_put _ _ p3 _ _ e1) (fun q2 w2 e2 => ?_)
    refine sm_rk (a := 27) (pts (rp_s e2) 26 0 27 rfl) kd_27 ?_
    refine sm_bind (q_X8_put _ _ p5 _ _ e2) (fun q3 w3 e3 => ?_)
    refine sm_rk (a := 27) (pts (rp_s e3) 26 0 27 rfl) kd_27 ?_
    exact sm_ri (e3.1 27 1) e3
set_option maxHeartbeats 4000000 in
set_option maxRecDepth 100000 in
theorem q_X11_voices_11  (ζ : ZS) (σ : HS) (hr : Rp ζ σ) : Sm QI (g_X11_voices_11 ζ) (f_X11_voices_11 σ) := by
    unfold g_X11_voices_11 f_X11_voices_11
    exact sm_ri li_0 hr
set_option maxHeartbeats 4000000 in
set_option maxRecDepth 100000 in
theorem q_X11_voices (x1 : Int32) (z1 : Int) (p1 : x1 = mJ z1) (ζ : ZS) (σ : HS) (hr : Rp ζ σ) : Sm QI (g_X11_voices z1 ζ) (f_X11_voices 26 x1 σ) := by
    unfold g_X11_voices f_X11_voices
    refine sm_ilt p1 li_0 ?_ ?_
    · exact q_X11_voices_11 _ _ hr
    · refine sm_ile p1 li_255 ?_ ?_
      · have hr101 := rwI (a := 26) (k := 17) hr p1
        have hr102 := rwI (a := 26) (k := 18) hr101 li_1
        exact sm_ri li_1 hr102
      · exact q_X11_voices_11 _ _ hr
set_option maxHeartbeats 4000000 in
set_option maxRecDepth 100000 in
theorem q_X11_freshen_50  (ζ : ZS) (σ : HS) (hr : Rp ζ σ) : Sm QV (g_X11_freshen_50 ζ) (f_X11_freshen_50 σ) := by
    unfold g_X11_freshen_50 f_X11_freshen_50
    exact sm_rv hr
set_option maxHeartbeats 4000000 in
set_option maxRecDepth 100000 in
theorem q_X11_freshen  (ζ : ZS) (σ : HS) (hr : Rp ζ σ) : Sm QV (g_X11_freshen ζ) (f_X11_freshen 26 σ) := by
    unfold g_X11_freshen f_X11_freshen
    refine sm_ieq (hr.1 26 18) li_0 ?_ ?_
    · exact q_X11_freshen_50 _ _ hr
    · refine sm_rk (a := 30) (pts (rp_s hr) 26 2 30 rfl) kd_30 ?_
      refine sm_rkd (rp_r hr 26 14) (fun c101 kc101 => ?_)
      refine sm_bind (q_X9_valueBy _ kc101 _ _ (hr.1 26 16) _ _ hr) (fun q2 w2 e2 => ?_)
      refine sm_rk (a := 50) (pts (rp_s e2) 26 3 50 rfl) kd_50 ?_
      refine sm_rkd (rp_r e2 26 14) (fun c103 kc103 => ?_)
      refine sm_rk (a := 30) (pts (rp_s e2) 26 2 30 rfl) kd_30 ?_
      refine sm_bind (q_X10_workOut _ kc103 _ _ (e2.1 26 17) _ _ (e2.1 26 16) _ _ e2) (fun q4 w4 e4 => ?_)
      have hr105 := rwI (a := 26) (k := 18) e4 li_0
      exact q_X11_freshen_50 _ _ hr105
set_option maxHeartbeats 4000000 in
set_option maxRecDepth 100000 in
theorem q_X11_standing_33 (xs0 : Int32) (zs0 : Int) (ps0 : xs0 = mJ zs0) (ζ : ZS) (σ : HS) (hr : Rp ζ σ) : Sm QI (g_X11_standing_33 zs0 ζ) (f_X11_standing_33 xs0 σ) := by
    unfold g_X11_standing_33 f_X11_standing_33
    exact sm_ri ps0 hr
set_option maxHeartbeats 4000000 in
set_option maxRecDepth 100000 in
theorem q_X11_standing (x1 : Int32) (z1 : Int) (p1 : x1 = mJ z1) (ζ : ZS) (σ : HS) (hr : Rp ζ σ) : Sm QI (g_X11_standing z1 ζ) (f_X11_standing 26 x1 σ) := by
    unfold g_X11_standing f_X11_standing
    refine sm_bind (q_X11_freshen _ _ hr) (fun q1 w1 e1 => ?_)
    refine sm_rk (a := 30) (pts (rp_s e1) 26 2 30 rfl) kd_30 ?_
    refine sm_bind (q_X9_isTold _ _ p1 _ _ e1) (fun q2 w2 e2 => ?_)
    refine sm_ieq e2.1 li_0 ?_ ?_
    · exact sm_ri li_m1 e2.2
    · refine sm_rk (a := 30) (pts (rp_s e2.2) 26 2 30 rfl) kd_30 ?_
      refine sm_bind (q_X9_isIn _ _ p1 _ _ e2.2) (fun q3 w3 e3 => ?_)
      refine sm_ieq e3.1 li_0 ?_ ?_
      · exact q_X11_standing_33 _ _ li_0 _ _ e3.2
      · exact q_X11_standing_33 _ _ li_1 _ _ e3.2
set_option maxHeartbeats 4000000 in
set_option maxRecDepth 100000 in
theorem q_X11_sumOfGiven  (ζ : ZS) (σ : HS) (hr : Rp ζ σ) : Sm QI (g_X11_sumOfGiven ζ) (f_X11_sumOfGiven 26 σ) := by
    unfold g_X11_sumOfGiven f_X11_sumOfGiven
    refine sm_rk (a := 146) (pts (rp_s hr) 26 9 146 rfl) kd_146 ?_
    refine sm_ck li_0 ln_146 (fun b101 => ?_)
    refine sm_rk (a := 146) (pts (rp_s hr) 26 9 146 rfl) kd_146 ?_
    refine sm_ck li_1 ln_146 (fun b102 => ?_)
    refine sm_rk (a := 146) (pts (rp_s hr) 26 9 146 rfl) kd_146 ?_
    refine sm_ck li_2 ln_146 (fun b103 => ?_)
    refine sm_rk (a := 146) (pts (rp_s hr) 26 9 146 rfl) kd_146 ?_
    refine sm_ck li_3 ln_146 (fun b104 => ?_)
    exact sm_ri (pa (pa (pa (rdI (a := 146) hr li_0 b101 (Nat.le_of_ble_eq_true rfl)) (rdI (a := 146) hr li_1 b102 (Nat.le_of_ble_eq_true rfl))) (rdI (a := 146) hr li_2 b103 (Nat.le_of_ble_eq_true rfl))) (rdI (a := 146) hr li_3 b104 (Nat.le_of_ble_eq_true rfl))) hr
set_option maxHeartbeats 4000000 in
set_option maxRecDepth 100000 in
theorem q_X11_takeWeights_27 (xs0 : Int32) (zs0 : Int) (ps0 : xs0 = mJ zs0) (ζ : ZS) (σ : HS) (hr : Rp ζ σ) : Sm QI (g_X11_takeWeights_27 zs0 ζ) (f_X11_takeWeights_27 xs0 σ) := by
    unfold g_X11_takeWeights_27 f_X11_takeWeights_27
    exact sm_zr ps0 hr
set_option maxHeartbeats 4000000 in
set_option maxRecDepth 100000 in
theorem q_X11_takeWeights_26  (ζ : ZS) (σ : HS) (hr : Rp ζ σ) : Sm QI (g_X11_takeWeights_26 ζ) (f_X11_takeWeights_26 σ) := by
    unfold g_X11_takeWeights_26 f_X11_takeWeights_26
    exact q_X11_takeWeights_27 _ _ li_0 _ _ hr
set_option maxHeartbeats 4000000 in
set_option maxRecDepth 100000 in
theorem q_X11_takeWeights (x1 : Int32) (z1 : Int) (p1 : x1 = mJ z1) (x2 : Int32) (z2 : Int) (p2 : x2 = mJ z2) (x3 : Int32) (z3 : Int) (p3 : x3 = mJ z3) (x4 : Int32) (z4 : Int) (p4 : x4 = mJ z4) (ζ : ZS) (σ : HS) (hr : Rp ζ σ) : Sm QI (g_X11_takeWeights z1 z2 z3 z4 ζ) (f_X11_takeWeights 26 x1 x2 x3 x4 σ) := by
    unfold g_X11_takeWeights f_X11_takeWeights
    refine sm_bind (q_X11_takeGiven _ _ p1 _ _ p2 _ _ p3 _ _ p4 _ _ li_999 _ _ hr) (fun q1 w1 e1 => ?_)
    refine sm_ieq e1.1 li_0 ?_ ?_
    · exact q_X11_takeWeights_26 _ _ e1.2
    · refine sm_bind (q_X11_sumOfGiven _ _ e1.2) (fun q2 w2 e2 => ?_)
      refine sm_ile e2.1 li_0 ?_ ?_
      · exact q_X11_takeWeights_26 _ _ e2.2
      · exact q_X11_takeWeights_27 _ _ li_1 _ _ e2.2
set_option maxHeartbeats 4000000 in
set_option maxRecDepth 100000 in
theorem q_X11_isPart_14 (xs0 : Int32) (zs0 : Int) (ps0 : xs0 = mJ zs0) (ζ : ZS) (σ : HS) (hr : Rp ζ σ) : Sm QI (g_X11_isPart_14 zs0 ζ) (f_X11_isPart_14 xs0 σ) := by
    unfold g_X11_isPart_14 f_X11_isPart_14
    exact sm_zr ps0 hr
set_option maxHeartbeats 4000000 in
set_option maxRecDepth 100000 in
theorem q_X11_isPart_9  (ζ : ZS) (σ : HS) (hr : Rp ζ σ) : Sm QI (g_X11_isPart_9 ζ) (f_X11_isPart_9 σ) := by
    unfold g_X11_isPart_9 f_X11_isPart_9
    exact q_X11_isPart_14 _ _ li_1 _ _ hr
set_option maxHeartbeats 4000000 in
set_option maxRecDepth 100000 in
theorem q_X11_isPart (x0 : Int32) (z0 : Int) (p0 : x0 = mJ z0) (ζ : ZS) (σ : HS) (hr : Rp ζ σ) : Sm QI (g_X11_isPart z0 ζ) (f_X11_isPart x0 σ) := by
    unfold g_X11_isPart f_X11_isPart
    refine sm_ieq p0 li_0 ?_ ?_
    · exact q_X11_isPart_9 _ _ hr
    · refine sm_ieq p0 li_1 ?_ ?_
      · exact q_X11_isPart_9 _ _ hr
      · exact q_X11_isPart_14 _ _ li_0 _ _ hr
set_option maxHeartbeats 4000000 in
set_option maxRecDepth 100000 in
theorem q_X11_productWithGiven (c1 : Nat) (k1 : kd c1 = 14) (ζ : ZS) (σ : HS) (hr : Rp ζ σ) : Sm QI (g_X11_productWithGiven c1 ζ) (f_X11_productWithGiven 26 c1 σ) := by
    unfold g_X11_productWithGiven f_X11_productWithGiven
    refine sm_ck li_0 rfl (fun b101 => ?_)
    refine sm_rk (a := 146) (pts (rp_s hr) 26 9 146 rfl) kd_146 ?_
    refine sm_ck li_0 ln_146 (fun b102 => ?_)
    refine sm_ck li_1 rfl (fun b103 => ?_)
    refine sm_rk (a := 146) (pts (rp_s hr) 26 9 146 rfl) kd_146 ?_
    refine sm_ck li_1 ln_146 (fun b104 => ?_)
    refine sm_ck li_2 rfl (fun b105 => ?_)
    refine sm_rk (a := 146) (pts (rp_s hr) 26 9 146 rfl) kd_146 ?_
    refine sm_ck li_2 ln_146 (fun b106 => ?_)
    refine sm_ck li_3 rfl (fun b107 => ?_)
    refine sm_rk (a := 146) (pts (rp_s hr) 26 9 146 rfl) kd_146 ?_
    refine sm_ck li_3 ln_146 (fun b108 => ?_)
    exact sm_ri (pa (pa (pa (pm (rdI (a := c1) hr li_0 b101 (ln_le _)) (rdI (a := 146) hr li_0 b102 (Nat.le_of_ble_eq_true rfl))) (pm (rdI (a := c1) hr li_1 b103 (ln_le _)) (rdI (a := 146) hr li_1 b104 (Nat.le_of_ble_eq_true rfl)))) (pm (rdI (a := c1) hr li_2 b105 (ln_le _)) (rdI (a := 146) hr li_2 b106 (Nat.le_of_ble_eq_true rfl)))) (pm (rdI (a := c1) hr li_3 b107 (ln_le _)) (rdI (a := 146) hr li_3 b108 (Nat.le_of_ble_eq_true rfl)))) hr
set_option maxHeartbeats 4000000 in
set_option maxRecDepth 100000 in
theorem q_X11_good_36  (ζ : ZS) (σ : HS) (hr : Rp ζ σ) : Sm QI (g_X11_good_36 ζ) (f_X11_good_36 σ) := by
    unfold g_X11_good_36 f_X11_good_36
    exact sm_ri li_m1 hr
set_option maxHeartbeats 4000000 in
set_option maxRecDepth 100000 in
theorem q_X11_good (x1 : Int32) (z1 : Int) (p1 : x1 = mJ z1) (x2 : Int32) (z2 : Int) (p2 : x2 = mJ z2) (x3 : Int32) (z3 : Int) (p3 : x3 = mJ z3) (x4 : Int32) (z4 : Int) (p4 : x4 = mJ z4) (x5 : Int32) (z5 : Int) (p5 : x5 = mJ z5) (x6 : Int32) (z6 : Int) (p6 : x6 = mJ z6) (ζ : ZS) (σ : HS) (hr : Rp ζ σ) : Sm QI (g_X11_good z1 z2 z3 z4 z5 z6 ζ) (f_X11_good 26 x1 x2 x3 x4 x5 x6 σ) := by
    unfold g_X11_good f_X11_good
    refine sm_bind (q_X11_freshen _ _ hr) (fun q1 w1 e1 => ?_)
    refine sm_rk (a := 30) (pts (rp_s e1) 26 2 30 rfl) kd_30 ?_
    refine sm_bind (q_X9_isTold _ _ p1 _ _ e1) (fun q2 w2 e2 => ?_)
    refine sm_ieq e2.1 li_0 ?_ ?_
    · exact q_X11_good_36 _ _ e2.2
    · refine sm_bind (q_X11_takeWeights _ _ p2 _ _ p3 _ _ p4 _ _ p5 _ _ e2.2) (fun q3 w3 e3 => ?_)
      refine sm_ieq e3.1 li_0 ?_ ?_
      · exact q_X11_good_36 _ _ e3.2
      · refine sm_bind (q_X11_isPart _ _ p6 _ _ e3.2) (fun q4 w4 e4 => ?_)
        refine sm_ieq e4.1 li_0 ?_ ?_
        · exact q_X11_good_36 _ _ e4.2
        · refine sm_rk (a := 145) (pts (rp_s e4.2) 26 8 145 rfl) kd_145 ?_
          refine sm_rk (a := 30) (pts (rp_s e4.2) 26 2 30 rfl) kd_30 ?_
          refine sm_rk (a := 40) (pts (rp_s e4.2) 30 1 40 rfl) kd_40 ?_
          refine sm_ck p1 ln_40 (fun b105 => ?_)
          refine sm_rk (aa18 e4.2 kd_40 ln_40 p1 b105) (ak18 kd_40 ln_40 b105) ?_
          refine sm_bind (q_X11_productWithGiven _ (ak18 kd_40 ln_40 b105) _ _ e4.2) (fun q6 w6 e6 => ?_)
          refine sm_gw (fun b107 => ?_)
          refine sm_bind (q_X11_sumOfGiven _ _ e6.2) (fun q8 w8 e8 => ?_)
          refine sm_gw (fun b109 => ?_)
          refine sm_bind (q_X3_become _ _ (pi2l e6.1 b107) _ _ (pi2l e8.1 b109) _ _ e8.2) (fun q10 w10 e10 => ?_)
          refine sm_rk (a := 145) (pts (rp_s e10) 26 8 145 rfl) kd_145 ?_
          refine sm_bind (q_X3_reduce _ _ e10) (fun q11 w11 e11 => ?_)
          refine sm_rk (a := 145) (pts (rp_s e11) 26 8 145 rfl) kd_145 ?_
          refine sm_bind (q_X3_part _ _ p6 _ _ e11) (fun q12 w12 e12 => ?_)
          exact sm_ri (pl2i e12.1) e12.2
set_option maxHeartbeats 4000000 in
set_option maxRecDepth 100000 in
theorem q_X11_fits_62 (r21 : Int → ZS → Option (Int × ZS)) (f21 : Int32 → HS → Option (Int32 × HS)) (h21 : ∀ (x5 : Int32) (z5 : Int) (p5 : x5 = mJ z5) (ζ : ZS) (σ : HS), Rp ζ σ → Sm QI (r21 z5 ζ) (f21 x5 σ)) (x5 : Int32) (z5 : Int) (p5 : x5 = mJ z5) (ζ : ZS) (σ : HS) (hr : Rp ζ σ) : Sm QI (g_X11_fits_62 r21 z5 ζ) (f_X11_fits_62 f21 26 x5 σ) := by
    unfold g_X11_fits_62 f_X11_fits_62
    exact h21 _ _ (pa p5 li_1) _ _ hr
set_option maxHeartbeats 4000000 in
set_option maxRecDepth 100000 in
theorem q_X11_fits_21  : ∀ (n : Nat) (x5 : Int32) (z5 : Int) (p5 : x5 = mJ z5) (ζ : ZS) (σ : HS), Rp ζ σ → Sm QI (g_X11_fits_21 n z5 ζ) (f_X11_fits_21 26 n x5 σ) := by
  intro n
  induction n with
  | zero =>
    intro x5 z5 p5 ζ σ hr
    exact sm_none
  | succ n ih =>
    intro x5 z5 p5 ζ σ hr
    rw [g_X11_fits_21.eq_2, f_X11_fits_21.eq_2]
    refine sm_ile li_12 p5 ?_ ?_
    · exact sm_ri li_1 hr
    · refine sm_rk (a := 50) (pts (rp_s hr) 26 3 50 rfl) kd_50 ?_
      refine sm_ieq (pand (hr.1 50 4) (pshl li_1 p5)) li_0 ?_ ?_
      · exact q_X11_fits_62 _ _ ih _ _ p5 _ _ hr
      · refine sm_rk (a := 50) (pts (rp_s hr) 26 3 50 rfl) kd_50 ?_
        refine sm_rk (a := 51) (pts (rp_s hr) 50 0 51 rfl) kd_51 ?_
        refine sm_ck p5 ln_51 (fun b101 => ?_)
        refine sm_rk (aa18 hr kd_51 ln_51 p5 b101) (ak18 kd_51 ln_51 b101) ?_
        refine sm_bind (q_X11_productWithGiven _ (ak18 kd_51 ln_51 b101) _ _ hr) (fun q2 w2 e2 => ?_)
        refine sm_ile li_0 e2.1 ?_ ?_
        · exact q_X11_fits_62 _ _ ih _ _ p5 _ _ e2.2
        · exact sm_ri li_0 e2.2
set_option maxHeartbeats 4000000 in
set_option maxRecDepth 100000 in
theorem q_X11_fits (x1 : Int32) (z1 : Int) (p1 : x1 = mJ z1) (x2 : Int32) (z2 : Int) (p2 : x2 = mJ z2) (x3 : Int32) (z3 : Int) (p3 : x3 = mJ z3) (x4 : Int32) (z4 : Int) (p4 : x4 = mJ z4) (ζ : ZS) (σ : HS) (hr : Rp ζ σ) : Sm QI (g_X11_fits z1 z2 z3 z4 ζ) (f_X11_fits 26 x1 x2 x3 x4 σ) := by
    unfold g_X11_fits f_X11_fits
    refine sm_bind (q_X11_freshen _ _ hr) (fun q1 w1 e1 => ?_)
    refine sm_bind (q_X11_takeWeights _ _ p1 _ _ p2 _ _ p3 _ _ p4 _ _ e1) (fun q2 w2 e2 => ?_)
    refine sm_ieq e2.1 li_0 ?_ ?_
    · exact sm_ri li_m1 e2.2
    · exact q_X11_fits_21 FU _ _ li_0 _ _ e2.2
set_option maxHeartbeats 4000000 in
set_option maxRecDepth 100000 in
theorem q_X11_hasMeasure_17 (xs0 : Int32) (zs0 : Int) (ps0 : xs0 = mJ zs0) (ζ : ZS) (σ : HS) (hr : Rp ζ σ) : Sm QI (g_X11_hasMeasure_17 zs0 ζ) (f_X11_hasMeasure_17 xs0 σ) := by
    unfold g_X11_hasMeasure_17 f_X11_hasMeasure_17
    exact sm_zr ps0 hr
set_option maxHeartbeats 4000000 in
set_option maxRecDepth 100000 in
theorem q_X11_hasMeasure_16  (ζ : ZS) (σ : HS) (hr : Rp ζ σ) : Sm QI (g_X11_hasMeasure_16 ζ) (f_X11_hasMeasure_16 σ) := by
    unfold g_X11_hasMeasure_16 f_X11_hasMeasure_16
    exact q_X11_hasMeasure_17 _ _ li_0 _ _ hr
set_option maxHeartbeats 4000000 in
set_option maxRecDepth 100000 in
theorem q_X11_hasMeasure (x1 : Int32) (z1 : Int) (p1 : x1 = mJ z1) (ζ : ZS) (σ : HS) (hr : Rp ζ σ) : Sm QI (g_X11_hasMeasure z1 ζ) (f_X11_hasMeasure 26 x1 σ) := by
    unfold g_X11_hasMeasure f_X11_hasMeasure
    refine sm_ilt p1 li_0 ?_ ?_
    · exact q_X11_hasMeasure_16 _ _ hr
    · refine sm_ile (hr.1 26 16) p1 ?_ ?_
      · exact q_X11_hasMeasure_16 _ _ hr
      · exact q_X11_hasMeasure_17 _ _ li_1 _ _ hr
set_option maxHeartbeats 4000000 in
set_option maxRecDepth 100000 in
theorem q_X11_corner_30  (ζ : ZS) (σ : HS) (hr : Rp ζ σ) : Sm QJ (g_X11_corner_30 ζ) (f_X11_corner_30 σ) := by
    unfold g_X11_corner_30 f_X11_corner_30
    exact sm_rj lj_m1 hr
set_option maxHeartbeats 4000000 in
set_option maxRecDepth 100000 in
theorem q_X11_corner (x1 : Int32) (z1 : Int) (p1 : x1 = mJ z1) (x2 : Int32) (z2 : Int) (p2 : x2 = mJ z2) (ζ : ZS) (σ : HS) (hr : Rp ζ σ) : Sm QJ (g_X11_corner z1 z2 ζ) (f_X11_corner 26 x1 x2 σ) := by
    unfold g_X11_corner f_X11_corner
    refine sm_bind (q_X11_freshen _ _ hr) (fun q1 w1 e1 => ?_)
    refine sm_ilt p1 li_0 ?_ ?_
    · exact q_X11_corner_30 _ _ e1
    · refine sm_rk (a := 50) (pts (rp_s e1) 26 3 50 rfl) kd_50 ?_
      refine sm_rk (a := 68) (pts (rp_s e1) 50 2 68 rfl) kd_68 ?_
      refine sm_ile (e1.1 68 5) p1 ?_ ?_
      · exact q_X11_corner_30 _ _ e1
      · refine sm_bind (q_X11_hasMeasure _ _ p2 _ _ e1) (fun q2 w2 e2 => ?_)
        refine sm_ieq e2.1 li_0 ?_ ?_
        · exact q_X11_corner_30 _ _ e2.2
        · refine sm_rk (a := 50) (pts (rp_s e2.2) 26 3 50 rfl) kd_50 ?_
          refine sm_rk (a := 68) (pts (rp_s e2.2) 50 2 68 rfl) kd_68 ?_
          refine sm_bind (q_X1_weight _ kd_68 _ _ p1 _ _ p2 _ _ e2.2) (fun q3 w3 e3 => ?_)
          exact sm_rj e3.1 e3.2
set_option maxHeartbeats 4000000 in
set_option maxRecDepth 100000 in
theorem q_X11_sizeOrSet_18 (xs0 : Int32) (zs0 : Int) (ps0 : xs0 = mJ zs0) (ζ : ZS) (σ : HS) (hr : Rp ζ σ) : Sm QI (g_X11_sizeOrSet_18 zs0 ζ) (f_X11_sizeOrSet_18 xs0 σ) := by
    unfold g_X11_sizeOrSet_18 f_X11_sizeOrSet_18
    exact sm_ri ps0 hr
set_option maxHeartbeats 4000000 in
set_option maxRecDepth 100000 in
theorem q_X11_sizeOrSet_10 (x0 : Int32) (z0 : Int) (p0 : x0 = mJ z0) (ζ : ZS) (σ : HS) (hr : Rp ζ σ) : Sm QI (g_X11_sizeOrSet_10 z0 ζ) (f_X11_sizeOrSet_10 x0 σ) := by
    unfold g_X11_sizeOrSet_10 f_X11_sizeOrSet_10
    exact q_X11_sizeOrSet_18 _ _ p0 _ _ hr
set_option maxHeartbeats 4000000 in
set_option maxRecDepth 100000 in
theorem q_X11_sizeOrSet (x0 : Int32) (z0 : Int) (p0 : x0 = mJ z0) (x1 : Int32) (z1 : Int) (p1 : x1 = mJ z1) (ζ : ZS) (σ : HS) (hr : Rp ζ σ) : Sm QI (g_X11_sizeOrSet z0 z1 ζ) (f_X11_sizeOrSet x0 x1 σ) := by
    unfold g_X11_sizeOrSet f_X11_sizeOrSet
    refine sm_ieq p0 li_m1 ?_ ?_
    · exact q_X11_sizeOrSet_10 _ _ p0 _ _ hr
    · refine sm_ieq p1 li_1 ?_ ?_
      · exact q_X11_sizeOrSet_10 _ _ p0 _ _ hr
      · refine sm_bind (q_J6_bitCount_0f7a4 _ _ p0 _ _ hr) (fun q1 w1 e1 => ?_)
        exact q_X11_sizeOrSet_18 _ _ e1.1 _ _ e1.2
set_option maxHeartbeats 4000000 in
set_option maxRecDepth 100000 in
theorem q_X11_small_21  (ζ : ZS) (σ : HS) (hr : Rp ζ σ) : Sm QI (g_X11_small_21 ζ) (f_X11_small_21 σ) := by
    unfold g_X11_small_21 f_X11_small_21
    exact sm_ri li_m1 hr
set_option maxHeartbeats 4000000 in
set_option maxRecDepth 100000 in
theorem q_X11_small (x1 : Int32) (z1 : Int) (p1 : x1 = mJ z1) (ζ : ZS) (σ : HS) (hr : Rp ζ σ) : Sm QI (g_X11_small z1 ζ) (f_X11_small 26 x1 σ) := by
    unfold g_X11_small f_X11_small
    refine sm_bind (q_X11_freshen _ _ hr) (fun q1 w1 e1 => ?_)
    refine sm_bind (q_X11_isPart _ _ p1 _ _ e1) (fun q2 w2 e2 => ?_)
    refine sm_ieq e2.1 li_0 ?_ ?_
    · exact q_X11_small_21 _ _ e2.2
    · refine sm_rk (a := 50) (pts (rp_s e2.2) 26 3 50 rfl) kd_50 ?_
      refine sm_bind (q_X10_theyCan _ _ e2.2) (fun q3 w3 e3 => ?_)
      refine sm_ieq e3.1 li_0 ?_ ?_
      · refine sm_rk (a := 141) (pts (rp_s e3.2) 26 5 141 rfl) kd_141 ?_
        refine sm_rk (a := 50) (pts (rp_s e3.2) 26 3 50 rfl) kd_50 ?_
        refine sm_rk (a := 51) (pts (rp_s e3.2) 50 0 51 rfl) kd_51 ?_
        refine sm_rk (a := 50) (pts (rp_s e3.2) 26 3 50 rfl) kd_50 ?_
        refine sm_bind (q_X5_among _ kd_51 _ _ (e3.2.1 50 4) _ _ e3.2) (fun q4 w4 e4 => ?_)
        refine sm_rk (a := 141) (pts (rp_s e4) 26 5 141 rfl) kd_141 ?_
        refine sm_rk (a := 50) (pts (rp_s e4) 26 3 50 rfl) kd_50 ?_
        refine sm_rk (a := 64) (pts (rp_s e4) 50 1 64 rfl) kd_64 ?_
        refine sm_rk (a := 148) (pts (rp_s e4) 26 11 148 rfl) kd_148 ?_
        refine sm_bind (q_X5_fewest _ kd_64 _ _ li_4 _ kd_148 _ _ e4) (fun q5 w5 e5 => ?_)
        refine sm_bind (q_X11_sizeOrSet _ _ e5.1 _ _ p1 _ _ e5.2) (fun q6 w6 e6 => ?_)
        exact sm_ri e6.1 e6.2
      · exact q_X11_small_21 _ _ e3.2
set_option maxHeartbeats 4000000 in
set_option maxRecDepth 100000 in
theorem q_X11_better (x1 : Int32) (z1 : Int) (p1 : x1 = mJ z1) (x2 : Int32) (z2 : Int) (p2 : x2 = mJ z2) (ζ : ZS) (σ : HS) (hr : Rp ζ σ) : Sm QI (g_X11_better z1 z2 ζ) (f_X11_better 26 x1 x2 σ) := by
    unfold g_X11_better f_X11_better
    refine sm_bind (q_X11_freshen _ _ hr) (fun q1 w1 e1 => ?_)
    refine sm_rk (a := 125) (pts (rp_s e1) 26 4 125 rfl) kd_125 ?_
    refine sm_rk (a := 50) (pts (rp_s e1) 26 3 50 rfl) kd_50 ?_
    refine sm_rk (a := 68) (pts (rp_s e1) 50 2 68 rfl) kd_68 ?_
    refine sm_bind (q_X4_compare _ kd_68 _ _ p1 _ _ p2 _ _ e1) (fun q2 w2 e2 => ?_)
    exact sm_ri e2.1 e2.2
set_option maxHeartbeats 4000000 in
set_option maxRecDepth 100000 in
theorem q_X11_best_21  (ζ : ZS) (σ : HS) (hr : Rp ζ σ) : Sm QI (g_X11_best_21 ζ) (f_X11_best_21 σ) := by
    unfold g_X11_best_21 f_X11_best_21
    exact sm_ri li_m1 hr
set_option maxHeartbeats 4000000 in
set_option maxRecDepth 100000 in
theorem q_X11_best_51 (xs0 : Int32) (zs0 : Int) (ps0 : xs0 = mJ zs0) (ζ : ZS) (σ : HS) (hr : Rp ζ σ) : Sm QI (g_X11_best_51 zs0 ζ) (f_X11_best_51 xs0 σ) := by
    unfold g_X11_best_51 f_X11_best_51
    exact sm_ri ps0 hr
set_option maxHeartbeats 4000000 in
set_option maxRecDepth 100000 in
theorem q_X11_best (x1 : Int32) (z1 : Int) (p1 : x1 = mJ z1) (ζ : ZS) (σ : HS) (hr : Rp ζ σ) : Sm QI (g_X11_best z1 ζ) (f_X11_best 26 x1 σ) := by
    unfold g_X11_best f_X11_best
    refine sm_bind (q_X11_freshen _ _ hr) (fun q1 w1 e1 => ?_)
    refine sm_bind (q_X11_isPart _ _ p1 _ _ e1) (fun q2 w2 e2 => ?_)
    refine sm_ieq e2.1 li_0 ?_ ?_
    · exact q_X11_best_21 _ _ e2.2
    · refine sm_rk (a := 50) (pts (rp_s e2.2) 26 3 50 rfl) kd_50 ?_
      refine sm_bind (q_X10_theyCan _ _ e2.2) (fun q3 w3 e3 => ?_)
      refine sm_ieq e3.1 li_0 ?_ ?_
      · exact q_X11_best_21 _ _ e3.2
      · refine sm_ieq p1 li_0 ?_ ?_
        · refine sm_rk (a := 125) (pts (rp_s e3.2) 26 4 125 rfl) kd_125 ?_
          refine sm_bind (q_X4_mayBeBest _ _ e3.2) (fun q5 w5 e5 => ?_)
          exact q_X11_best_51 _ _ e5.1 _ _ e5.2
        · refine sm_rk (a := 125) (pts (rp_s e3.2) 26 4 125 rfl) kd_125 ?_
          refine sm_rk (a := 50) (pts (rp_s e3.2) 26 3 50 rfl) kd_50 ?_
          refine sm_rk (a := 68) (pts (rp_s e3.2) 50 2 68 rfl) kd_68 ?_
          refine sm_bind (q_X4_surelyBest _ kd_68 _ _ e3.2) (fun q4 w4 e4 => ?_)
          exact q_X11_best_51 _ _ e4.1 _ _ e4.2
set_option maxHeartbeats 4000000 in
set_option maxRecDepth 100000 in
theorem q_X11_regret_32  (ζ : ZS) (σ : HS) (hr : Rp ζ σ) : Sm QJ (g_X11_regret_32 ζ) (f_X11_regret_32 σ) := by
    unfold g_X11_regret_32 f_X11_regret_32
    exact sm_rj lj_m1 hr
set_option maxHeartbeats 4000000 in
set_option maxRecDepth 100000 in
theorem q_X11_regret (x1 : Int32) (z1 : Int) (p1 : x1 = mJ z1) (x2 : Int32) (z2 : Int) (p2 : x2 = mJ z2) (ζ : ZS) (σ : HS) (hr : Rp ζ σ) : Sm QJ (g_X11_regret z1 z2 ζ) (f_X11_regret 26 x1 x2 σ) := by
    unfold g_X11_regret f_X11_regret
    refine sm_bind (q_X11_freshen _ _ hr) (fun q1 w1 e1 => ?_)
    refine sm_bind (q_X11_isPart _ _ p2 _ _ e1) (fun q2 w2 e2 => ?_)
    refine sm_ieq e2.1 li_0 ?_ ?_
    · exact q_X11_regret_32 _ _ e2.2
    · refine sm_rk (a := 30) (pts (rp_s e2.2) 26 2 30 rfl) kd_30 ?_
      refine sm_bind (q_X9_isIn _ _ p1 _ _ e2.2) (fun q3 w3 e3 => ?_)
      refine sm_ieq e3.1 li_0 ?_ ?_
      · exact q_X11_regret_32 _ _ e3.2
      · refine sm_rk (a := 50) (pts (rp_s e3.2) 26 3 50 rfl) kd_50 ?_
        refine sm_bind (q_X10_theyCan _ _ e3.2) (fun q4 w4 e4 => ?_)
        refine sm_ieq e4.1 li_0 ?_ ?_
        · exact q_X11_regret_32 _ _ e4.2
        · refine sm_rk (a := 125) (pts (rp_s e4.2) 26 4 125 rfl) kd_125 ?_
          refine sm_rk (a := 145) (pts (rp_s e4.2) 26 8 145 rfl) kd_145 ?_
          refine sm_bind (q_X4_fillRegret _ _ p1 _ _ e4.2) (fun q5 w5 e5 => ?_)
          refine sm_rk (a := 145) (pts (rp_s e5) 26 8 145 rfl) kd_145 ?_
          refine sm_bind (q_X3_reduce _ _ e5) (fun q6 w6 e6 => ?_)
          refine sm_rk (a := 145) (pts (rp_s e6) 26 8 145 rfl) kd_145 ?_
          refine sm_bind (q_X3_part _ _ p2 _ _ e6) (fun q7 w7 e7 => ?_)
          exact sm_rj e7.1 e7.2
set_option maxHeartbeats 4000000 in
set_option maxRecDepth 100000 in
theorem q_X11_least_29 (xs0 : Int32) (zs0 : Int) (ps0 : xs0 = mJ zs0) (ζ : ZS) (σ : HS) (hr : Rp ζ σ) : Sm QI (g_X11_least_29 zs0 ζ) (f_X11_least_29 xs0 σ) := by
    unfold g_X11_least_29 f_X11_least_29
    exact sm_ri ps0 hr
set_option maxHeartbeats 4000000 in
set_option maxRecDepth 100000 in
theorem q_X11_least  (ζ : ZS) (σ : HS) (hr : Rp ζ σ) : Sm QI (g_X11_least ζ) (f_X11_least 26 σ) := by
    unfold g_X11_least f_X11_least
    refine sm_bind (q_X11_freshen _ _ hr) (fun q1 w1 e1 => ?_)
    refine sm_rk (a := 50) (pts (rp_s e1) 26 3 50 rfl) kd_50 ?_
    refine sm_bind (q_X10_theyCan _ _ e1) (fun q2 w2 e2 => ?_)
    refine sm_ieq e2.1 li_0 ?_ ?_
    · exact q_X11_least_29 _ _ li_m1 _ _ e2.2
    · refine sm_rk (a := 125) (pts (rp_s e2.2) 26 4 125 rfl) kd_125 ?_
      refine sm_rk (a := 145) (pts (rp_s e2.2) 26 8 145 rfl) kd_145 ?_
      refine sm_bind (q_X4_leastRegret _ _ e2.2) (fun q3 w3 e3 => ?_)
      exact q_X11_least_29 _ _ e3.1 _ _ e3.2
set_option maxHeartbeats 4000000 in
set_option maxRecDepth 100000 in
theorem q_X11_beaten_36  (ζ : ZS) (σ : HS) (hr : Rp ζ σ) : Sm QI (g_X11_beaten_36 ζ) (f_X11_beaten_36 σ) := by
    unfold g_X11_beaten_36 f_X11_beaten_36
    exact sm_ri li_m1 hr
set_option maxHeartbeats 4000000 in
set_option maxRecDepth 100000 in
theorem q_X11_beaten (x1 : Int32) (z1 : Int) (p1 : x1 = mJ z1) (ζ : ZS) (σ : HS) (hr : Rp ζ σ) : Sm QI (g_X11_beaten z1 ζ) (f_X11_beaten 26 x1 σ) := by
    unfold g_X11_beaten f_X11_beaten
    refine sm_bind (q_X11_freshen _ _ hr) (fun q1 w1 e1 => ?_)
    refine sm_rk (a := 30) (pts (rp_s e1) 26 2 30 rfl) kd_30 ?_
    refine sm_bind (q_X9_isIn _ _ p1 _ _ e1) (fun q2 w2 e2 => ?_)
    refine sm_ieq e2.1 li_0 ?_ ?_
    · exact q_X11_beaten_36 _ _ e2.2
    · refine sm_rk (a := 50) (pts (rp_s e2.2) 26 3 50 rfl) kd_50 ?_
      refine sm_bind (q_X10_theyCan _ _ e2.2) (fun q3 w3 e3 => ?_)
      refine sm_ieq e3.1 li_0 ?_ ?_
      · exact q_X11_beaten_36 _ _ e3.2
      · refine sm_rk (a := 125) (pts (rp_s e3.2) 26 4 125 rfl) kd_125 ?_
        refine sm_bind (q_X4_mayBeBest_ _ _ p1 _ _ e3.2) (fun q4 w4 e4 => ?_)
        refine sm_ieq e4.1 li_0 ?_ ?_
        · refine sm_rk (a := 141) (pts (rp_s e4.2) 26 5 141 rfl) kd_141 ?_
          refine sm_rk (a := 125) (pts (rp_s e4.2) 26 4 125 rfl) kd_125 ?_
          refine sm_bind (q_X4_leadsOf _ _ p1 _ _ e4.2) (fun q5 w5 e5 => ?_)
          refine sm_rkd (congrArg some e5.1) (fun c106 kc106 => ?_)
          refine sm_rk (a := 30) (pts (rp_s e5.2) 26 2 30 rfl) kd_30 ?_
          refine sm_bind (q_X5_among _ kc106 _ _ (pand (e5.2.1 30 4) (pxor (pshl li_1 p1) li_m1)) _ _ e5.2) (fun q7 w7 e7 => ?_)
          refine sm_rk (a := 141) (pts (rp_s e7) 26 5 141 rfl) kd_141 ?_
          refine sm_rk (a := 50) (pts (rp_s e7) 26 3 50 rfl) kd_50 ?_
          refine sm_rk (a := 68) (pts (rp_s e7) 50 2 68 rfl) kd_68 ?_
          refine sm_rk (a := 148) (pts (rp_s e7) 26 11 148 rfl) kd_148 ?_
          refine sm_bind (q_X5_fewest _ kd_68 _ _ li_3 _ kd_148 _ _ e7) (fun q8 w8 e8 => ?_)
          exact sm_ri e8.1 e8.2
        · exact q_X11_beaten_36 _ _ e4.2
set_option maxHeartbeats 4000000 in
set_option maxRecDepth 100000 in
theorem q_X11_next_37  (ζ : ZS) (σ : HS) (hr : Rp ζ σ) : Sm QI (g_X11_next_37 ζ) (f_X11_next_37 σ) := by
    unfold g_X11_next_37 f_X11_next_37
    exact sm_ri li_m1 hr
set_option maxHeartbeats 4000000 in
set_option maxRecDepth 100000 in
theorem q_X11_next_76 (xs0 : Int32) (zs0 : Int) (ps0 : xs0 = mJ zs0) (ζ : ZS) (σ : HS) (hr : Rp ζ σ) : Sm QI (g_X11_next_76 zs0 ζ) (f_X11_next_76 xs0 σ) := by
    unfold g_X11_next_76 f_X11_next_76
    exact sm_ri ps0 hr
set_option maxHeartbeats 4000000 in
set_option maxRecDepth 100000 in
theorem q_X11_next (x1 : Int32) (z1 : Int) (p1 : x1 = mJ z1) (ζ : ZS) (σ : HS) (hr : Rp ζ σ) : Sm QI (g_X11_next z1 ζ) (f_X11_next 26 x1 σ) := by
    unfold g_X11_next f_X11_next
    refine sm_bind (q_X11_freshen _ _ hr) (fun q1 w1 e1 => ?_)
    refine sm_ilt p1 li_0 ?_ ?_
    · exact q_X11_next_37 _ _ e1
    · refine sm_ilt li_2 p1 ?_ ?_
      · exact q_X11_next_37 _ _ e1
      · refine sm_rk (a := 50) (pts (rp_s e1) 26 3 50 rfl) kd_50 ?_
        refine sm_bind (q_X10_theyCan _ _ e1) (fun q2 w2 e2 => ?_)
        refine sm_ieq e2.1 li_0 ?_ ?_
        · exact q_X11_next_37 _ _ e2.2
        · refine sm_rk (a := 30) (pts (rp_s e2.2) 26 2 30 rfl) kd_30 ?_
          refine sm_bind (q_J6_bitCount_0f7a4 _ _ (e2.2.1 30 4) _ _ e2.2) (fun q3 w3 e3 => ?_)
          refine sm_ile li_2 e3.1 ?_ ?_
          · refine sm_rk (a := 125) (pts (rp_s e3.2) 26 4 125 rfl) kd_125 ?_
            refine sm_bind (q_X4_partsMost _ _ e3.2) (fun q4 w4 e4 => ?_)
            refine sm_ieq p1 li_2 ?_ ?_
            · refine sm_rk (a := 125) (pts (rp_s e4.2) 26 4 125 rfl) kd_125 ?_
              refine sm_bind (q_X4_greaterCount _ _ e4.1 _ _ e4.2) (fun q7 w7 e7 => ?_)
              exact sm_ri e7.1 e7.2
            · refine sm_ieq p1 li_0 ?_ ?_
              · refine sm_gd (fun b106 => ?_)
                exact q_X11_next_76 _ _ (pdiv e4.1 li_8 b106) _ _ e4.2
              · refine sm_gd (fun b105 => ?_)
                exact q_X11_next_76 _ _ (prem e4.1 li_8 b105) _ _ e4.2
          · exact q_X11_next_37 _ _ e3.2
set_option maxHeartbeats 4000000 in
set_option maxRecDepth 100000 in
theorem q_X11_few_35 (xs0 : Int32) (zs0 : Int) (ps0 : xs0 = mJ zs0) (ζ : ZS) (σ : HS) (hr : Rp ζ σ) : Sm QI (g_X11_few_35 zs0 ζ) (f_X11_few_35 xs0 σ) := by
    unfold g_X11_few_35 f_X11_few_35
    exact sm_ri ps0 hr
set_option maxHeartbeats 4000000 in
set_option maxRecDepth 100000 in
theorem q_X11_few_34  (ζ : ZS) (σ : HS) (hr : Rp ζ σ) : Sm QI (g_X11_few_34 ζ) (f_X11_few_34 σ) := by
    unfold g_X11_few_34 f_X11_few_34
    exact q_X11_few_35 _ _ li_m1 _ _ hr
set_option maxHeartbeats 4000000 in
set_option maxRecDepth 100000 in
theorem q_X11_few  (ζ : ZS) (σ : HS) (hr : Rp ζ σ) : Sm QI (g_X11_few ζ) (f_X11_few 26 σ) := by
    unfold g_X11_few f_X11_few
    refine sm_bind (q_X11_freshen _ _ hr) (fun q1 w1 e1 => ?_)
    refine sm_rk (a := 50) (pts (rp_s e1) 26 3 50 rfl) kd_50 ?_
    refine sm_bind (q_X10_theyCan _ _ e1) (fun q2 w2 e2 => ?_)
    refine sm_ieq e2.1 li_0 ?_ ?_
    · exact q_X11_few_34 _ _ e2.2
    · refine sm_rk (a := 30) (pts (rp_s e2.2) 26 2 30 rfl) kd_30 ?_
      refine sm_ieq (e2.2.1 30 4) li_0 ?_ ?_
      · exact q_X11_few_34 _ _ e2.2
      · refine sm_rk (a := 125) (pts (rp_s e2.2) 26 4 125 rfl) kd_125 ?_
        refine sm_bind (q_X4_fewQuestions _ _ e2.2) (fun q3 w3 e3 => ?_)
        exact q_X11_few_35 _ _ e3.1 _ _ e3.2
set_option maxHeartbeats 4000000 in
set_option maxRecDepth 100000 in
theorem q_X11_need_33  (ζ : ZS) (σ : HS) (hr : Rp ζ σ) : Sm QI (g_X11_need_33 ζ) (f_X11_need_33 σ) := by
    unfold g_X11_need_33 f_X11_need_33
    exact sm_ri li_m1 hr
set_option maxHeartbeats 4000000 in
set_option maxRecDepth 100000 in
theorem q_X11_need_60 (xs0 : Int32) (zs0 : Int) (ps0 : xs0 = mJ zs0) (ζ : ZS) (σ : HS) (hr : Rp ζ σ) : Sm QI (g_X11_need_60 zs0 ζ) (f_X11_need_60 xs0 σ) := by
    unfold g_X11_need_60 f_X11_need_60
    exact sm_ri ps0 hr
set_option maxHeartbeats 4000000 in
set_option maxRecDepth 100000 in
theorem q_X11_need (x1 : Int32) (z1 : Int) (p1 : x1 = mJ z1) (x2 : Int32) (z2 : Int) (p2 : x2 = mJ z2) (x3 : Int32) (z3 : Int) (p3 : x3 = mJ z3) (ζ : ZS) (σ : HS) (hr : Rp ζ σ) : Sm QI (g_X11_need z1 z2 z3 ζ) (f_X11_need 26 x1 x2 x3 σ) := by
    unfold g_X11_need f_X11_need
    refine sm_bind (q_X11_freshen _ _ hr) (fun q1 w1 e1 => ?_)
    refine sm_rk (a := 30) (pts (rp_s e1) 26 2 30 rfl) kd_30 ?_
    refine sm_bind (q_X9_isIn _ _ p1 _ _ e1) (fun q2 w2 e2 => ?_)
    refine sm_ieq e2.1 li_0 ?_ ?_
    · exact q_X11_need_33 _ _ e2.2
    · refine sm_bind (q_X11_hasMeasure _ _ p2 _ _ e2.2) (fun q3 w3 e3 => ?_)
      refine sm_ieq e3.1 li_0 ?_ ?_
      · exact q_X11_need_33 _ _ e3.2
      · refine sm_rk (a := 50) (pts (rp_s e3.2) 26 3 50 rfl) kd_50 ?_
        refine sm_bind (q_X10_theyCan _ _ e3.2) (fun q4 w4 e4 => ?_)
        refine sm_ieq e4.1 li_0 ?_ ?_
        · exact q_X11_need_33 _ _ e4.2
        · refine sm_ieq p3 li_0 ?_ ?_
          · refine sm_rk (a := 125) (pts (rp_s e4.2) 26 4 125 rfl) kd_125 ?_
            refine sm_bind (q_X4_needToMaybe _ _ p1 _ _ p2 _ _ e4.2) (fun q5 w5 e5 => ?_)
            exact q_X11_need_60 _ _ e5.1 _ _ e5.2
          · refine sm_rk (a := 125) (pts (rp_s e4.2) 26 4 125 rfl) kd_125 ?_
            refine sm_bind (q_X4_needToBeSure _ _ p1 _ _ p2 _ _ e4.2) (fun q6 w6 e6 => ?_)
            exact q_X11_need_60 _ _ e6.1 _ _ e6.2
set_option maxHeartbeats 4000000 in
set_option maxRecDepth 100000 in
theorem q_X11_share_31  (ζ : ZS) (σ : HS) (hr : Rp ζ σ) : Sm QI (g_X11_share_31 ζ) (f_X11_share_31 σ) := by
    unfold g_X11_share_31 f_X11_share_31
    exact sm_ri li_m1 hr
set_option maxHeartbeats 4000000 in
set_option maxRecDepth 100000 in
theorem q_X11_share_112 (x2 : Int32) (z2 : Int) (p2 : x2 = mJ z2) (x3 : Int32) (z3 : Int) (p3 : x3 = mJ z3) (x5 : Int32) (z5 : Int) (p5 : x5 = mJ z5) (x6 : Int32) (z6 : Int) (p6 : x6 = mJ z6) (x7 : Int32) (z7 : Int) (p7 : x7 = mJ z7) (r84 : Int → Int → ZS → Option (Int × ZS)) (f84 : Int32 → Int32 → HS → Option (Int32 × HS)) (h84 : ∀ (x4 : Int32) (z4 : Int) (p4 : x4 = mJ z4) (x6 : Int32) (z6 : Int) (p6 : x6 = mJ z6) (ζ : ZS) (σ : HS), Rp ζ σ → Sm QI (r84 z4 z6 ζ) (f84 x4 x6 σ)) : ∀ (n : Nat) (x4 : Int32) (z4 : Int) (p4 : x4 = mJ z4) (x8 : Int32) (z8 : Int) (p8 : x8 = mJ z8) (ζ : ZS) (σ : HS), Rp ζ σ → Sm QI (g_X11_share_112 z2 z3 z5 z6 z7 r84 n z4 z8 ζ) (f_X11_share_112 26 x2 x3 x5 x6 x7 f84 n x4 x8 σ) := by
  intro n
  induction n with
  | zero =>
    intro x4 z4 p4 x8 z8 p8 ζ σ hr
    exact sm_none
  | succ n ih =>
    intro x4 z4 p4 x8 z8 p8 ζ σ hr
    rw [g_X11_share_112.eq_2, f_X11_share_112.eq_2]
    refine sm_ilt p7 p8 ?_ ?_
    · exact h84 _ _ p4 _ _ (pa p6 li_1) _ _ hr
    · refine sm_rk (a := 144) (pts (rp_s hr) 26 7 144 rfl) kd_144 ?_
      refine sm_bind (q_X7_open _ _ (hr.1 26 16) _ _ p2 _ _ p6 _ _ p8 _ _ hr) (fun q1 w1 e1 => ?_)
      refine sm_rk (a := 144) (pts (rp_s e1) 26 7 144 rfl) kd_144 ?_
      refine sm_rk (a := 50) (pts (rp_s e1) 26 3 50 rfl) kd_50 ?_
      refine sm_rk (a := 51) (pts (rp_s e1) 50 0 51 rfl) kd_51 ?_
      refine sm_rk (a := 50) (pts (rp_s e1) 26 3 50 rfl) kd_50 ?_
      refine sm_bind (q_X7_narrowBy _ kd_51 _ _ (e1.1 50 4) _ _ e1) (fun q2 w2 e2 => ?_)
      refine sm_rk (a := 144) (pts (rp_s e2) 26 7 144 rfl) kd_144 ?_
      refine sm_rk (a := 125) (pts (rp_s e2) 26 4 125 rfl) kd_125 ?_
      refine sm_rk (a := 126) (pts (rp_s e2) 125 2 126 rfl) kd_126 ?_
      refine sm_bind (q_X7_narrowBy _ kd_126 _ _ p3 _ _ e2) (fun q3 w3 e3 => ?_)
      refine sm_rk (a := 144) (pts (rp_s e3) 26 7 144 rfl) kd_144 ?_
      refine sm_bind (q_X7_width _ _ e3) (fun q4 w4 e4 => ?_)
      exact ih _ _ (pa p4 e4.1) _ _ (pa p8 li_1) _ _ e4.2
set_option maxHeartbeats 4000000 in
set_option maxRecDepth 100000 in
theorem q_X11_share_107 (r84 : Int → Int → ZS → Option (Int × ZS)) (f84 : Int32 → Int32 → HS → Option (Int32 × HS)) (h84 : ∀ (x4 : Int32) (z4 : Int) (p4 : x4 = mJ z4) (x6 : Int32) (z6 : Int) (p6 : x6 = mJ z6) (ζ : ZS) (σ : HS), Rp ζ σ → Sm QI (r84 z4 z6 ζ) (f84 x4 x6 σ)) (x2 : Int32) (z2 : Int) (p2 : x2 = mJ z2) (x3 : Int32) (z3 : Int) (p3 : x3 = mJ z3) (x4 : Int32) (z4 : Int) (p4 : x4 = mJ z4) (x5 : Int32) (z5 : Int) (p5 : x5 = mJ z5) (x6 : Int32) (z6 : Int) (p6 : x6 = mJ z6) (xs0 : Int32) (zs0 : Int) (ps0 : xs0 = mJ zs0) (ζ : ZS) (σ : HS) (hr : Rp ζ σ) : Sm QI (g_X11_share_107 r84 z2 z3 z4 z5 z6 zs0 ζ) (f_X11_share_107 f84 26 x2 x3 x4 x5 x6 xs0 σ) := by
    unfold g_X11_share_107 f_X11_share_107
    exact q_X11_share_112 _ _ p2 _ _ p3 _ _ p5 _ _ p6 _ _ ps0 _ _ h84 FU _ _ p4 _ _ li_0 _ _ hr
set_option maxHeartbeats 4000000 in
set_option maxRecDepth 100000 in
theorem q_X11_share_84 (x2 : Int32) (z2 : Int) (p2 : x2 = mJ z2) (x3 : Int32) (z3 : Int) (p3 : x3 = mJ z3) (x5 : Int32) (z5 : Int) (p5 : x5 = mJ z5) : ∀ (n : Nat) (x4 : Int32) (z4 : Int) (p4 : x4 = mJ z4) (x6 : Int32) (z6 : Int) (p6 : x6 = mJ z6) (ζ : ZS) (σ : HS), Rp ζ σ → Sm QI (g_X11_share_84 z2 z3 z5 n z4 z6 ζ) (f_X11_share_84 26 x2 x3 x5 n x4 x6 σ) := by
  intro n
  induction n with
  | zero =>
    intro x4 z4 p4 x6 z6 p6 ζ σ hr
    exact sm_none
  | succ n ih =>
    intro x4 z4 p4 x6 z6 p6 ζ σ hr
    rw [g_X11_share_84.eq_2, f_X11_share_84.eq_2]
    refine sm_ilt p5 p6 ?_ ?_
    · exact sm_ri p4 hr
    · refine sm_ile (hr.1 26 16) li_3 ?_ ?_
      · exact q_X11_share_107 _ _ ih _ _ p2 _ _ p3 _ _ p4 _ _ p5 _ _ p6 _ _ li_0 _ _ hr
      · exact q_X11_share_107 _ _ ih _ _ p2 _ _ p3 _ _ p4 _ _ p5 _ _ p6 _ _ (ps p2 p6) _ _ hr
set_option maxHeartbeats 4000000 in
set_option maxRecDepth 100000 in
theorem q_X11_share_79 (x2 : Int32) (z2 : Int) (p2 : x2 = mJ z2) (x3 : Int32) (z3 : Int) (p3 : x3 = mJ z3) (x4 : Int32) (z4 : Int) (p4 : x4 = mJ z4) (xs0 : Int32) (zs0 : Int) (ps0 : xs0 = mJ zs0) (ζ : ZS) (σ : HS) (hr : Rp ζ σ) : Sm QI (g_X11_share_79 z2 z3 z4 zs0 ζ) (f_X11_share_79 26 x2 x3 x4 xs0 σ) := by
    unfold g_X11_share_79 f_X11_share_79
    exact q_X11_share_84 _ _ p2 _ _ p3 _ _ ps0 FU _ _ p4 _ _ li_0 _ _ hr
set_option maxHeartbeats 4000000 in
set_option maxRecDepth 100000 in
theorem q_X11_share_63 (x2 : Int32) (z2 : Int) (p2 : x2 = mJ z2) (x3 : Int32) (z3 : Int) (p3 : x3 = mJ z3) (ζ : ZS) (σ : HS) (hr : Rp ζ σ) : Sm QI (g_X11_share_63 z2 z3 ζ) (f_X11_share_63 26 x2 x3 σ) := by
    unfold g_X11_share_63 f_X11_share_63
    refine sm_ile (hr.1 26 16) li_2 ?_ ?_
    · exact q_X11_share_79 _ _ p2 _ _ p3 _ _ li_0 _ _ li_0 _ _ hr
    · exact q_X11_share_79 _ _ p2 _ _ p3 _ _ li_0 _ _ p2 _ _ hr
set_option maxHeartbeats 4000000 in
set_option maxRecDepth 100000 in
theorem q_X11_share_33 (x1 : Int32) (z1 : Int) (p1 : x1 = mJ z1) (x2 : Int32) (z2 : Int) (p2 : x2 = mJ z2) (ζ : ZS) (σ : HS) (hr : Rp ζ σ) : Sm QI (g_X11_share_33 z1 z2 ζ) (f_X11_share_33 26 x1 x2 σ) := by
    unfold g_X11_share_33 f_X11_share_33
    refine sm_ieq p1 li_m1 ?_ ?_
    · exact q_X11_share_63 _ _ p2 _ _ li_0 _ _ hr
    · refine sm_rk (a := 30) (pts (rp_s hr) 26 2 30 rfl) kd_30 ?_
      refine sm_rk (a := 125) (pts (rp_s hr) 26 4 125 rfl) kd_125 ?_
      refine sm_bind (q_X4_leadsOf _ _ p1 _ _ hr) (fun q1 w1 e1 => ?_)
      refine sm_rkd (congrArg some e1.1) (fun c102 kc102 => ?_)
      exact q_X11_share_63 _ _ p2 _ _ (pand (hr.1 30 4) (pxor (pshl li_1 p1) li_m1)) _ _ e1.2
set_option maxHeartbeats 4000000 in
set_option maxRecDepth 100000 in
theorem q_X11_share (x1 : Int32) (z1 : Int) (p1 : x1 = mJ z1) (x2 : Int32) (z2 : Int) (p2 : x2 = mJ z2) (ζ : ZS) (σ : HS) (hr : Rp ζ σ) : Sm QI (g_X11_share z1 z2 ζ) (f_X11_share 26 x1 x2 σ) := by
    unfold g_X11_share f_X11_share
    refine sm_bind (q_X11_freshen _ _ hr) (fun q1 w1 e1 => ?_)
    refine sm_ilt p2 li_1 ?_ ?_
    · exact q_X11_share_31 _ _ e1
    · refine sm_ilt li_20 p2 ?_ ?_
      · exact q_X11_share_31 _ _ e1
      · refine sm_ieq p1 li_m1 ?_ ?_
        · exact q_X11_share_33 _ _ p1 _ _ p2 _ _ e1
        · refine sm_rk (a := 30) (pts (rp_s e1) 26 2 30 rfl) kd_30 ?_
          refine sm_bind (q_X9_isIn _ _ p1 _ _ e1) (fun q2 w2 e2 => ?_)
          refine sm_ieq e2.1 li_0 ?_ ?_
          · exact q_X11_share_31 _ _ e2.2
          · exact q_X11_share_33 _ _ p1 _ _ p2 _ _ e2.2
set_option maxHeartbeats 4000000 in
set_option maxRecDepth 100000 in
theorem q_X11_why_31  (ζ : ZS) (σ : HS) (hr : Rp ζ σ) : Sm QI (g_X11_why_31 ζ) (f_X11_why_31 σ) := by
    unfold g_X11_why_31 f_X11_why_31
    exact sm_ri li_m1 hr
set_option maxHeartbeats 4000000 in
set_option maxRecDepth 100000 in
theorem q_X11_why (x1 : Int32) (z1 : Int) (p1 : x1 = mJ z1) (x2 : Int32) (z2 : Int) (p2 : x2 = mJ z2) (x3 : Int32) (z3 : Int) (p3 : x3 = mJ z3) (ζ : ZS) (σ : HS) (hr : Rp ζ σ) : Sm QI (g_X11_why z1 z2 z3 ζ) (f_X11_why 26 x1 x2 x3 σ) := by
    unfold g_X11_why f_X11_why
    refine sm_bind (q_X11_freshen _ _ hr) (fun q1 w1 e1 => ?_)
    refine sm_bind (q_X11_isPart _ _ p3 _ _ e1) (fun q2 w2 e2 => ?_)
    refine sm_ieq e2.1 li_0 ?_ ?_
    · exact q_X11_why_31 _ _ e2.2
    · refine sm_rk (a := 125) (pts (rp_s e2.2) 26 4 125 rfl) kd_125 ?_
      refine sm_rk (a := 50) (pts (rp_s e2.2) 26 3 50 rfl) kd_50 ?_
      refine sm_rk (a := 68) (pts (rp_s e2.2) 50 2 68 rfl) kd_68 ?_
      refine sm_bind (q_X4_compare _ kd_68 _ _ p1 _ _ p2 _ _ e2.2) (fun q3 w3 e3 => ?_)
      refine sm_ieq e3.1 li_2 ?_ ?_
      · refine sm_rk (a := 30) (pts (rp_s e3.2) 26 2 30 rfl) kd_30 ?_
        refine sm_rk (a := 147) (pts (rp_s e3.2) 26 10 147 rfl) kd_147 ?_
        refine sm_bind (q_X9_fillLead _ _ p1 _ _ p2 _ kd_147 _ _ e3.2) (fun q4 w4 e4 => ?_)
        refine sm_rk (a := 141) (pts (rp_s e4) 26 5 141 rfl) kd_141 ?_
        refine sm_rk (a := 50) (pts (rp_s e4) 26 3 50 rfl) kd_50 ?_
        refine sm_rk (a := 51) (pts (rp_s e4) 50 0 51 rfl) kd_51 ?_
        refine sm_rk (a := 50) (pts (rp_s e4) 26 3 50 rfl) kd_50 ?_
        refine sm_bind (q_X5_among _ kd_51 _ _ (e4.1 50 4) _ _ e4) (fun q5 w5 e5 => ?_)
        refine sm_rk (a := 141) (pts (rp_s e5) 26 5 141 rfl) kd_141 ?_
        refine sm_rk (a := 50) (pts (rp_s e5) 26 3 50 rfl) kd_50 ?_
        refine sm_rk (a := 64) (pts (rp_s e5) 50 1 64 rfl) kd_64 ?_
        refine sm_rk (a := 147) (pts (rp_s e5) 26 10 147 rfl) kd_147 ?_
        refine sm_bind (q_X5_fewest _ kd_64 _ _ li_3 _ kd_147 _ _ e5) (fun q6 w6 e6 => ?_)
        refine sm_bind (q_X11_sizeOrSet _ _ e6.1 _ _ p3 _ _ e6.2) (fun q7 w7 e7 => ?_)
        exact sm_ri e7.1 e7.2
      · exact q_X11_why_31 _ _ e3.2
set_option maxHeartbeats 4000000 in
set_option maxRecDepth 100000 in
theorem q_X11_holds_19  (ζ : ZS) (σ : HS) (hr : Rp ζ σ) : Sm QI (g_X11_holds_19 ζ) (f_X11_holds_19 σ) := by
    unfold g_X11_holds_19 f_X11_holds_19
    exact sm_ri li_m1 hr
set_option maxHeartbeats 4000000 in
set_option maxRecDepth 100000 in
theorem q_X11_holds (x1 : Int32) (z1 : Int) (p1 : x1 = mJ z1) (x2 : Int32) (z2 : Int) (p2 : x2 = mJ z2) (x3 : Int32) (z3 : Int) (p3 : x3 = mJ z3) (ζ : ZS) (σ : HS) (hr : Rp ζ σ) : Sm QI (g_X11_holds z1 z2 z3 ζ) (f_X11_holds 26 x1 x2 x3 σ) := by
    unfold g_X11_holds f_X11_holds
    refine sm_bind (q_X11_freshen _ _ hr) (fun q1 w1 e1 => ?_)
    refine sm_ilt p1 li_0 ?_ ?_
    · exact q_X11_holds_19 _ _ e1
    · refine sm_rkd (rp_r e1 26 14) (fun c102 kc102 => ?_)
      refine sm_ilt p1 (e1.1 c102 9) ?_ ?_
      · refine sm_rk (a := 125) (pts (rp_s e1) 26 4 125 rfl) kd_125 ?_
        refine sm_rk (a := 50) (pts (rp_s e1) 26 3 50 rfl) kd_50 ?_
        refine sm_rk (a := 50) (pts (rp_s e1) 26 3 50 rfl) kd_50 ?_
        refine sm_bind (q_X10_cutBy _ _ (pand (e1.1 50 4) (pxor (pshl li_1 p1) li_m1)) _ _ e1) (fun q3 w3 e3 => ?_)
        refine sm_rkd (congrArg some e3.1) (fun c104 kc104 => ?_)
        refine sm_bind (q_X4_compare _ kc104 _ _ p2 _ _ p3 _ _ e3.2) (fun q5 w5 e5 => ?_)
        exact sm_ri e5.1 e5.2
      · exact q_X11_holds_19 _ _ e1
set_option maxHeartbeats 4000000 in
set_option maxRecDepth 100000 in
theorem q_X11_edge_32  (ζ : ZS) (σ : HS) (hr : Rp ζ σ) : Sm QI (g_X11_edge_32 ζ) (f_X11_edge_32 σ) := by
    unfold g_X11_edge_32 f_X11_edge_32
    exact sm_ri li_m1 hr
set_option maxHeartbeats 4000000 in
set_option maxRecDepth 100000 in
theorem q_X11_edge (x1 : Int32) (z1 : Int) (p1 : x1 = mJ z1) (x2 : Int32) (z2 : Int) (p2 : x2 = mJ z2) (x3 : Int32) (z3 : Int) (p3 : x3 = mJ z3) (ζ : ZS) (σ : HS) (hr : Rp ζ σ) : Sm QI (g_X11_edge z1 z2 z3 ζ) (f_X11_edge 26 x1 x2 x3 σ) := by
    unfold g_X11_edge f_X11_edge
    refine sm_bind (q_X11_freshen _ _ hr) (fun q1 w1 e1 => ?_)
    refine sm_bind (q_X11_hasMeasure _ _ p3 _ _ e1) (fun q2 w2 e2 => ?_)
    refine sm_ieq e2.1 li_0 ?_ ?_
    · exact q_X11_edge_32 _ _ e2.2
    · refine sm_rk (a := 125) (pts (rp_s e2.2) 26 4 125 rfl) kd_125 ?_
      refine sm_rk (a := 50) (pts (rp_s e2.2) 26 3 50 rfl) kd_50 ?_
      refine sm_rk (a := 68) (pts (rp_s e2.2) 50 2 68 rfl) kd_68 ?_
      refine sm_bind (q_X4_compare _ kd_68 _ _ p1 _ _ p2 _ _ e2.2) (fun q3 w3 e3 => ?_)
      refine sm_ieq e3.1 li_2 ?_ ?_
      · refine sm_rk (a := 125) (pts (rp_s e3.2) 26 4 125 rfl) kd_125 ?_
        refine sm_bind (q_X4_leastStillBetter _ _ p1 _ _ p2 _ _ p3 _ _ e3.2) (fun q4 w4 e4 => ?_)
        exact sm_ri e4.1 e4.2
      · exact q_X11_edge_32 _ _ e3.2
set_option maxHeartbeats 4000000 in
set_option maxRecDepth 100000 in
theorem q_X11_agree (x1 : Int32) (z1 : Int) (p1 : x1 = mJ z1) (ζ : ZS) (σ : HS) (hr : Rp ζ σ) : Sm QI (g_X11_agree z1 ζ) (f_X11_agree 26 x1 σ) := by
    unfold g_X11_agree f_X11_agree
    refine sm_bind (q_X11_freshen _ _ hr) (fun q1 w1 e1 => ?_)
    refine sm_bind (q_X11_isPart _ _ p1 _ _ e1) (fun q2 w2 e2 => ?_)
    refine sm_ieq e2.1 li_0 ?_ ?_
    · exact sm_ri li_m1 e2.2
    · refine sm_rk (a := 142) (pts (rp_s e2.2) 26 6 142 rfl) kd_142 ?_
      refine sm_rkd (rp_r e2.2 26 14) (fun c103 kc103 => ?_)
      refine sm_bind (q_X2_mostThatAgree _ kc103 _ _ e2.2) (fun q4 w4 e4 => ?_)
      refine sm_bind (q_X11_sizeOrSet _ _ e4.1 _ _ p1 _ _ e4.2) (fun q5 w5 e5 => ?_)
      exact sm_ri e5.1 e5.2
set_option maxHeartbeats 4000000 in
set_option maxRecDepth 100000 in
theorem q_X11_yields (x1 : Int32) (z1 : Int) (p1 : x1 = mJ z1) (ζ : ZS) (σ : HS) (hr : Rp ζ σ) : Sm QI (g_X11_yields z1 ζ) (f_X11_yields 26 x1 σ) := by
    unfold g_X11_yields f_X11_yields
    refine sm_bind (q_X11_freshen _ _ hr) (fun q1 w1 e1 => ?_)
    refine sm_bind (q_X11_isPart _ _ p1 _ _ e1) (fun q2 w2 e2 => ?_)
    refine sm_ieq e2.1 li_0 ?_ ?_
    · exact sm_ri li_m1 e2.2
    · refine sm_rk (a := 142) (pts (rp_s e2.2) 26 6 142 rfl) kd_142 ?_
      refine sm_rkd (rp_r e2.2 26 14) (fun c103 kc103 => ?_)
      refine sm_bind (q_X2_fewestThatYield _ kc103 _ _ (e2.2.1 26 17) _ _ e2.2) (fun q4 w4 e4 => ?_)
      refine sm_bind (q_X11_sizeOrSet _ _ e4.1 _ _ p1 _ _ e4.2) (fun q5 w5 e5 => ?_)
      exact sm_ri e5.1 e5.2
set_option maxHeartbeats 4000000 in
set_option maxRecDepth 100000 in
theorem q_X11_row_31  (ζ : ZS) (σ : HS) (hr : Rp ζ σ) : Sm QI (g_X11_row_31 ζ) (f_X11_row_31 σ) := by
    unfold g_X11_row_31 f_X11_row_31
    exact sm_ri li_0 hr
set_option maxHeartbeats 4000000 in
set_option maxRecDepth 100000 in
theorem q_X11_row_35 (x1 : Int32) (z1 : Int) (p1 : x1 = mJ z1) : ∀ (n : Nat) (x2 : Int32) (z2 : Int) (p2 : x2 = mJ z2) (ζ : ZS) (σ : HS), Rp ζ σ → Sm QI (g_X11_row_35 z1 n z2 ζ) (f_X11_row_35 26 x1 n x2 σ) := by
  intro n
  induction n with
  | zero =>
    intro x2 z2 p2 ζ σ hr
    exact sm_none
  | succ n ih =>
    intro x2 z2 p2 ζ σ hr
    rw [g_X11_row_35.eq_2, f_X11_row_35.eq_2]
    refine sm_ile (hr.1 26 13) p2 ?_ ?_
    · refine sm_rk (a := 149) (pts (rp_s hr) 26 12 149 rfl) kd_149 ?_
      refine sm_ck (hr.1 26 13) ln_149 (fun b101 => ?_)
      have hr102 := raI (a := 149) hr (hr.1 26 13) b101 (Nat.le_of_ble_eq_true rfl) p1
      have hr103 := rwI (a := 26) (k := 13) hr102 (pa (hr102.1 26 13) li_1)
      exact sm_ri li_1 hr103
    · refine sm_rk (a := 149) (pts (rp_s hr) 26 12 149 rfl) kd_149 ?_
      refine sm_ck p2 ln_149 (fun b104 => ?_)
      refine sm_ieq (rdI (a := 149) hr p2 b104 (Nat.le_of_ble_eq_true rfl)) p1 ?_ ?_
      · exact sm_ri li_0 hr
      · exact ih _ _ (pa p2 li_1) _ _ hr
set_option maxHeartbeats 4000000 in
set_option maxRecDepth 100000 in
theorem q_X11_row (x1 : Int32) (z1 : Int) (p1 : x1 = mJ z1) (ζ : ZS) (σ : HS) (hr : Rp ζ σ) : Sm QI (g_X11_row z1 ζ) (f_X11_row 26 x1 σ) := by
    unfold g_X11_row f_X11_row
    refine sm_ieq p1 li_m1 ?_ ?_
    · have hr101 := rwI (a := 26) (k := 13) hr li_0
      exact sm_ri li_1 hr101
    · refine sm_ilt p1 li_0 ?_ ?_
      · exact q_X11_row_31 _ _ hr
      · refine sm_ile li_8 p1 ?_ ?_
        · exact q_X11_row_31 _ _ hr
        · refine sm_ilt (hr.1 26 13) li_8 ?_ ?_
          · exact q_X11_row_35 _ _ p1 FU _ _ li_0 _ _ hr
          · exact q_X11_row_31 _ _ hr
set_option maxHeartbeats 4000000 in
set_option maxRecDepth 100000 in
theorem q_X11_judged_21  (ζ : ZS) (σ : HS) (hr : Rp ζ σ) : Sm QI (g_X11_judged_21 ζ) (f_X11_judged_21 σ) := by
    unfold g_X11_judged_21 f_X11_judged_21
    exact sm_ri li_m1 hr
set_option maxHeartbeats 4000000 in
set_option maxRecDepth 100000 in
theorem q_X11_judged_90 (xs0 : Int32) (zs0 : Int) (ps0 : xs0 = mJ zs0) (ζ : ZS) (σ : HS) (hr : Rp ζ σ) : Sm QI (g_X11_judged_90 zs0 ζ) (f_X11_judged_90 xs0 σ) := by
    unfold g_X11_judged_90 f_X11_judged_90
    exact sm_ri ps0 hr
set_option maxHeartbeats 4000000 in
set_option maxRecDepth 100000 in
theorem q_X11_judged_25 (x1 : Int32) (z1 : Int) (p1 : x1 = mJ z1) : ∀ (n : Nat) (x2 : Int32) (z2 : Int) (p2 : x2 = mJ z2) (ζ : ZS) (σ : HS), Rp ζ σ → Sm QI (g_X11_judged_25 z1 n z2 ζ) (f_X11_judged_25 26 x1 n x2 σ) := by
  intro n
  induction n with
  | zero =>
    intro x2 z2 p2 ζ σ hr
    exact sm_none
  | succ n ih =>
    intro x2 z2 p2 ζ σ hr
    rw [g_X11_judged_25.eq_2, f_X11_judged_25.eq_2]
    refine sm_ile (hr.1 26 13) p2 ?_ ?_
    · refine sm_rk (a := 125) (pts (rp_s hr) 26 4 125 rfl) kd_125 ?_
      refine sm_rk (a := 149) (pts (rp_s hr) 26 12 149 rfl) kd_149 ?_
      refine sm_bind (q_X4_brokenPlace _ kd_149 _ _ (hr.1 26 13) _ _ hr) (fun q1 w1 e1 => ?_)
      refine sm_ieq p1 li_1 ?_ ?_
      · exact sm_ri e1.1 e1.2
      · refine sm_ieq e1.1 li_m1 ?_ ?_
        · exact q_X11_judged_90 _ _ li_1 _ _ e1.2
        · exact q_X11_judged_90 _ _ li_0 _ _ e1.2
    · refine sm_rk (a := 30) (pts (rp_s hr) 26 2 30 rfl) kd_30 ?_
      refine sm_rk (a := 149) (pts (rp_s hr) 26 12 149 rfl) kd_149 ?_
      refine sm_ck p2 ln_149 (fun b102 => ?_)
      refine sm_bind (q_X9_isIn _ _ (rdI (a := 149) hr p2 b102 (Nat.le_of_ble_eq_true rfl)) _ _ hr) (fun q3 w3 e3 => ?_)
      refine sm_ieq e3.1 li_0 ?_ ?_
      · exact sm_ri li_m1 e3.2
      · exact ih _ _ (pa p2 li_1) _ _ e3.2
set_option maxHeartbeats 4000000 in
set_option maxRecDepth 100000 in
theorem q_X11_judged (x1 : Int32) (z1 : Int) (p1 : x1 = mJ z1) (ζ : ZS) (σ : HS) (hr : Rp ζ σ) : Sm QI (g_X11_judged z1 ζ) (f_X11_judged 26 x1 σ) := by
    unfold g_X11_judged f_X11_judged
    refine sm_bind (q_X11_freshen _ _ hr) (fun q1 w1 e1 => ?_)
    refine sm_bind (q_X11_isPart _ _ p1 _ _ e1) (fun q2 w2 e2 => ?_)
    refine sm_ieq e2.1 li_0 ?_ ?_
    · exact q_X11_judged_21 _ _ e2.2
    · refine sm_rk (a := 50) (pts (rp_s e2.2) 26 3 50 rfl) kd_50 ?_
      refine sm_bind (q_X10_theyCan _ _ e2.2) (fun q3 w3 e3 => ?_)
      refine sm_ieq e3.1 li_0 ?_ ?_
      · exact q_X11_judged_21 _ _ e3.2
      · exact q_X11_judged_25 _ _ p1 FU _ _ li_0 _ _ e3.2
set_option maxHeartbeats 4000000 in
set_option maxRecDepth 100000 in
theorem q_X11_worst  (ζ : ZS) (σ : HS) (hr : Rp ζ σ) : Sm QI (g_X11_worst ζ) (f_X11_worst 26 σ) := by
    unfold g_X11_worst f_X11_worst
    refine sm_bind (q_X11_freshen _ _ hr) (fun q1 w1 e1 => ?_)
    refine sm_rk (a := 30) (pts (rp_s e1) 26 2 30 rfl) kd_30 ?_
    refine sm_bind (q_X9_bestAtWorst _ _ (e1.1 26 16) _ _ e1) (fun q2 w2 e2 => ?_)
    exact sm_ri e2.1 e2.2
set_option maxHeartbeats 4000000 in
set_option maxRecDepth 100000 in
theorem q_X11_first_97  : ∀ (n : Nat) (x4 : Int32) (z4 : Int) (p4 : x4 = mJ z4) (x5 : Int32) (z5 : Int) (p5 : x5 = mJ z5) (ζ : ZS) (σ : HS), Rp ζ σ → Sm QI (g_X11_first_97 n z4 z5 ζ) (f_X11_first_97 26 n x4 x5 σ) := by
  intro n
  induction n with
  | zero =>
    intro x4 z4 p4 x5 z5 p5 ζ σ hr
    exact sm_none
  | succ n ih =>
    intro x4 z4 p4 x5 z5 p5 ζ σ hr
    rw [g_X11_first_97.eq_2, f_X11_first_97.eq_2]
    refine sm_ile (hr.1 26 16) p5 ?_ ?_
    · exact sm_ri p4 hr
    · refine sm_rk (a := 30) (pts (rp_s hr) 26 2 30 rfl) kd_30 ?_
      refine sm_rk (a := 147) (pts (rp_s hr) 26 10 147 rfl) kd_147 ?_
      refine sm_ck p5 ln_147 (fun b101 => ?_)
      refine sm_bind (q_X9_topOf _ _ p4 _ _ (rdI (a := 147) hr p5 b101 (Nat.le_of_ble_eq_true rfl)) _ _ hr) (fun q2 w2 e2 => ?_)
      exact ih _ _ e2.1 _ _ (pa p5 li_1) _ _ e2.2
set_option maxHeartbeats 4000000 in
set_option maxRecDepth 100000 in
theorem q_X11_first_55  (ζ : ZS) (σ : HS) (hr : Rp ζ σ) : Sm QI (g_X11_first_55 ζ) (f_X11_first_55 σ) := by
    unfold g_X11_first_55 f_X11_first_55
    exact sm_ri li_m1 hr
set_option maxHeartbeats 4000000 in
set_option maxRecDepth 100000 in
theorem q_X11_first_16  : ∀ (n : Nat) (x2 : Int32) (z2 : Int) (p2 : x2 = mJ z2) (x3 : Int32) (z3 : Int) (p3 : x3 = mJ z3) (x4 : Int32) (z4 : Int) (p4 : x4 = mJ z4) (ζ : ZS) (σ : HS), Rp ζ σ → Sm QI (g_X11_first_16 n z2 z3 z4 ζ) (f_X11_first_16 26 n x2 x3 x4 σ) := by
  intro n
  induction n with
  | zero =>
    intro x2 z2 p2 x3 z3 p3 x4 z4 p4 ζ σ hr
    exact sm_none
  | succ n ih =>
    intro x2 z2 p2 x3 z3 p3 x4 z4 p4 ζ σ hr
    rw [g_X11_first_16.eq_2, f_X11_first_16.eq_2]
    refine sm_ilt p4 li_0 ?_ ?_
    · refine sm_ieq p2 li_0 ?_ ?_
      · refine sm_rk (a := 30) (pts (rp_s hr) 26 2 30 rfl) kd_30 ?_
        exact q_X11_first_97 FU _ _ (hr.1 30 4) _ _ li_0 _ _ hr
      · exact sm_ri li_m1 hr
    · refine sm_gd (fun b101 => ?_)
      refine sm_gd (fun b102 => ?_)
      refine sm_ilt (prem p2 li_10 b101) li_0 ?_ ?_
      · exact q_X11_first_55 _ _ hr
      · refine sm_ile (hr.1 26 16) (prem p2 li_10 b101) ?_ ?_
        · exact q_X11_first_55 _ _ hr
        · refine sm_ieq (pand p3 (pshl li_1 (prem p2 li_10 b101))) li_0 ?_ ?_
          · refine sm_rk (a := 147) (pts (rp_s hr) 26 10 147 rfl) kd_147 ?_
            refine sm_ck p4 ln_147 (fun b103 => ?_)
            have hr104 := raI (a := 147) hr p4 b103 (Nat.le_of_ble_eq_true rfl) (prem p2 li_10 b101)
            exact ih _ _ (pdiv p2 li_10 b102) _ _ (por p3 (pshl li_1 (prem p2 li_10 b101))) _ _ (pa p4 li_m1) _ _ hr104
          · exact q_X11_first_55 _ _ hr
set_option maxHeartbeats 4000000 in
set_option maxRecDepth 100000 in
theorem q_X11_first (x1 : Int32) (z1 : Int) (p1 : x1 = mJ z1) (ζ : ZS) (σ : HS) (hr : Rp ζ σ) : Sm QI (g_X11_first z1 ζ) (f_X11_first 26 x1 σ) := by
    unfold g_X11_first f_X11_first
    refine sm_bind (q_X11_freshen _ _ hr) (fun q1 w1 e1 => ?_)
    exact q_X11_first_16 FU _ _ p1 _ _ li_0 _ _ (ps (e1.1 26 16) li_1) _ _ e1
set_option maxHeartbeats 4000000 in
set_option maxRecDepth 100000 in
theorem q_X11_many_25  (ζ : ZS) (σ : HS) (hr : Rp ζ σ) : Sm QI (g_X11_many_25 ζ) (f_X11_many_25 σ) := by
    unfold g_X11_many_25 f_X11_many_25
    exact sm_ri li_m1 hr
set_option maxHeartbeats 4000000 in
set_option maxRecDepth 100000 in
theorem q_X11_many (x1 : Int32) (z1 : Int) (p1 : x1 = mJ z1) (ζ : ZS) (σ : HS) (hr : Rp ζ σ) : Sm QI (g_X11_many z1 ζ) (f_X11_many 26 x1 σ) := by
    unfold g_X11_many f_X11_many
    refine sm_bind (q_X11_freshen _ _ hr) (fun q1 w1 e1 => ?_)
    refine sm_ilt p1 li_1 ?_ ?_
    · exact q_X11_many_25 _ _ e1
    · refine sm_ilt li_100 p1 ?_ ?_
      · exact q_X11_many_25 _ _ e1
      · refine sm_rk (a := 50) (pts (rp_s e1) 26 3 50 rfl) kd_50 ?_
        refine sm_bind (q_X10_theyCan _ _ e1) (fun q2 w2 e2 => ?_)
        refine sm_ieq e2.1 li_0 ?_ ?_
        · exact q_X11_many_25 _ _ e2.2
        · refine sm_rk (a := 125) (pts (rp_s e2.2) 26 4 125 rfl) kd_125 ?_
          refine sm_bind (q_X4_notOutdone _ _ p1 _ _ e2.2) (fun q3 w3 e3 => ?_)
          exact sm_ri e3.1 e3.2
set_option maxHeartbeats 4000000 in
set_option maxRecDepth 100000 in
theorem q_X11_count (x1 : Int32) (z1 : Int) (p1 : x1 = mJ z1) (ζ : ZS) (σ : HS) (hr : Rp ζ σ) : Sm QI (g_X11_count z1 ζ) (f_X11_count 26 x1 σ) := by
    unfold g_X11_count f_X11_count
    refine sm_bind (q_X11_freshen _ _ hr) (fun q1 w1 e1 => ?_)
    refine sm_ieq p1 li_0 ?_ ?_
    · exact sm_ri (e1.1 26 16) e1
    refine sm_ieq p1 li_1 ?_ ?_
    · refine sm_rk (a := 30) (pts (rp_s e1) 26 2 30 rfl) kd_30 ?_
      refine sm_bind (q_J6_bitCount_0f7a4 _ _ (e1.1 30 3) _ _ e1) (fun q2 w2 e2 => ?_)
      exact sm_ri e2.1 e2.2
    refine sm_ieq p1 li_2 ?_ ?_
    · refine sm_rk (a := 30) (pts (rp_s e1) 26 2 30 rfl) kd_30 ?_
      refine sm_bind (q_J6_bitCount_0f7a4 _ _ (e1.1 30 4) _ _ e1) (fun q3 w3 e3 => ?_)
      exact sm_ri e3.1 e3.2
    refine sm_ieq p1 li_3 ?_ ?_
    · refine sm_rkd (rp_r e1 26 14) (fun c104 kc104 => ?_)
      exact sm_ri (e1.1 c104 9) e1
    refine sm_ieq p1 li_4 ?_ ?_
    · refine sm_rk (a := 50) (pts (rp_s e1) 26 3 50 rfl) kd_50 ?_
      refine sm_bind (q_J6_bitCount_0f7a4 _ _ (e1.1 50 4) _ _ e1) (fun q5 w5 e5 => ?_)
      exact sm_ri e5.1 e5.2
    refine sm_ieq p1 li_5 ?_ ?_
    · refine sm_rk (a := 27) (pts (rp_s e1) 26 0 27 rfl) kd_27 ?_
      exact sm_ri (e1.1 27 1) e1
    refine sm_ieq p1 li_6 ?_ ?_
    · refine sm_rk (a := 50) (pts (rp_s e1) 26 3 50 rfl) kd_50 ?_
      refine sm_rk (a := 68) (pts (rp_s e1) 50 2 68 rfl) kd_68 ?_
      exact sm_ri (e1.1 68 5) e1
    refine sm_ieq p1 li_7 ?_ ?_
    · exact sm_ri (e1.1 26 13) e1
    exact sm_ri li_m1 e1
