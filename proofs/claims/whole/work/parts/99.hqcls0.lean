set_option maxHeartbeats 4000000 in
set_option maxRecDepth 100000 in
theorem q_J9_floorDiv_7cf53_21 (x2 : Int32) (z2 : Int) (p2 : x2 = mJ z2) (ζ : ZS) (σ : HS) (hr : Rp ζ σ) : Sm QI (g_J9_floorDiv_7cf53_21 z2 ζ) (f_J9_floorDiv_7cf53_21 x2 σ) := by
    unfold g_J9_floorDiv_7cf53_21 f_J9_floorDiv_7cf53_21
    exact sm_ri p2 hr
set_option maxHeartbeats 4000000 in
set_option maxRecDepth 100000 in
theorem q_J9_floorDiv_7cf53 (x0 : Int32) (z0 : Int) (p0 : x0 = mJ z0) (x1 : Int32) (z1 : Int) (p1 : x1 = mJ z1) (ζ : ZS) (σ : HS) (hr : Rp ζ σ) : Sm QI (g_J9_floorDiv_7cf53 z0 z1 ζ) (f_J9_floorDiv_7cf53 x0 x1 σ) := by
    unfold g_J9_floorDiv_7cf53 f_J9_floorDiv_7cf53
    refine sm_nz p1 (fun b101 => ?_)
    refine sm_ile li_0 (pxor p0 p1) ?_ ?_
    · exact q_J9_floorDiv_7cf53_21 _ _ (pdiv p0 p1 b101) _ _ hr
    · refine sm_ieq (pm (pdiv p0 p1 b101) p1) p0 ?_ ?_
      · exact q_J9_floorDiv_7cf53_21 _ _ (pdiv p0 p1 b101) _ _ hr
      · exact sm_ri (ps (pdiv p0 p1 b101) li_1) hr
set_option maxHeartbeats 4000000 in
set_option maxRecDepth 100000 in
theorem q_J9_floorDiv_f86c9_27 (x4 : Int64) (z4 : Int) (p4 : x4 = mL z4) (ζ : ZS) (σ : HS) (hr : Rp ζ σ) : Sm QJ (g_J9_floorDiv_f86c9_27 z4 ζ) (f_J9_floorDiv_f86c9_27 x4 σ) := by
    unfold g_J9_floorDiv_f86c9_27 f_J9_floorDiv_f86c9_27
    exact sm_rj p4 hr
set_option maxHeartbeats 4000000 in
set_option maxRecDepth 100000 in
theorem q_J9_floorDiv_f86c9 (x0 : Int64) (z0 : Int) (p0 : x0 = mL z0) (x2 : Int64) (z2 : Int) (p2 : x2 = mL z2) (ζ : ZS) (σ : HS) (hr : Rp ζ σ) : Sm QJ (g_J9_floorDiv_f86c9 z0 z2 ζ) (f_J9_floorDiv_f86c9 x0 x2 σ) := by
    unfold g_J9_floorDiv_f86c9 f_J9_floorDiv_f86c9
    refine sm_nzJ p2 (fun b101 => ?_)
    refine sm_jle lj_0 (plxor p0 p2) ?_ ?_
    · exact q_J9_floorDiv_f86c9_27 _ _ (pdivJ p0 p2 b101) _ _ hr
    · refine sm_jeq (pmJ (pdivJ p0 p2 b101) p2) p0 ?_ ?_
      · exact q_J9_floorDiv_f86c9_27 _ _ (pdivJ p0 p2 b101) _ _ hr
      · exact sm_rj (psJ (pdivJ p0 p2 b101) lj_1) hr
set_option maxHeartbeats 4000000 in
set_option maxRecDepth 100000 in
theorem q_J9_max_7cf53_10 (xs0 : Int32) (zs0 : Int) (ps0 : xs0 = mJ zs0) (ζ : ZS) (σ : HS) (hr : Rp ζ σ) : Sm QI (g_J9_max_7cf53_10 zs0 ζ) (f_J9_max_7cf53_10 xs0 σ) := by
    unfold g_J9_max_7cf53_10 f_J9_max_7cf53_10
    exact sm_ri ps0 hr
set_option maxHeartbeats 4000000 in
set_option maxRecDepth 100000 in
theorem q_J9_max_7cf53 (x0 : Int32) (z0 : Int) (p0 : x0 = mJ z0) (x1 : Int32) (z1 : Int) (p1 : x1 = mJ z1) (ζ : ZS) (σ : HS) (hr : Rp ζ σ) : Sm QI (g_J9_max_7cf53 z0 z1 ζ) (f_J9_max_7cf53 x0 x1 σ) := by
    unfold g_J9_max_7cf53 f_J9_max_7cf53
    refine sm_ilt p0 p1 ?_ ?_
    · exact q_J9_max_7cf53_10 _ _ p1 _ _ hr
    · exact q_J9_max_7cf53_10 _ _ p0 _ _ hr
set_option maxHeartbeats 4000000 in
set_option maxRecDepth 100000 in
theorem q_J9_max_f86c9_11 (xs0 : Int64) (zs0 : Int) (ps0 : xs0 = mL zs0) (ζ : ZS) (σ : HS) (hr : Rp ζ σ) : Sm QJ (g_J9_max_f86c9_11 zs0 ζ) (f_J9_max_f86c9_11 xs0 σ) := by
    unfold g_J9_max_f86c9_11 f_J9_max_f86c9_11
    exact sm_rj ps0 hr
set_option maxHeartbeats 4000000 in
set_option maxRecDepth 100000 in
theorem q_J9_max_f86c9 (x0 : Int64) (z0 : Int) (p0 : x0 = mL z0) (x2 : Int64) (z2 : Int) (p2 : x2 = mL z2) (ζ : ZS) (σ : HS) (hr : Rp ζ σ) : Sm QJ (g_J9_max_f86c9 z0 z2 ζ) (f_J9_max_f86c9 x0 x2 σ) := by
    unfold g_J9_max_f86c9 f_J9_max_f86c9
    refine sm_jlt p0 p2 ?_ ?_
    · exact q_J9_max_f86c9_11 _ _ p2 _ _ hr
    · exact q_J9_max_f86c9_11 _ _ p0 _ _ hr
set_option maxHeartbeats 4000000 in
set_option maxRecDepth 100000 in
theorem q_J9_min_7cf53_10 (xs0 : Int32) (zs0 : Int) (ps0 : xs0 = mJ zs0) (ζ : ZS) (σ : HS) (hr : Rp ζ σ) : Sm QI (g_J9_min_7cf53_10 zs0 ζ) (f_J9_min_7cf53_10 xs0 σ) := by
    unfold g_J9_min_7cf53_10 f_J9_min_7cf53_10
    exact sm_ri ps0 hr
set_option maxHeartbeats 4000000 in
set_option maxRecDepth 100000 in
theorem q_J9_min_7cf53 (x0 : Int32) (z0 : Int) (p0 : x0 = mJ z0) (x1 : Int32) (z1 : Int) (p1 : x1 = mJ z1) (ζ : ZS) (σ : HS) (hr : Rp ζ σ) : Sm QI (g_J9_min_7cf53 z0 z1 ζ) (f_J9_min_7cf53 x0 x1 σ) := by
    unfold g_J9_min_7cf53 f_J9_min_7cf53
    refine sm_ilt p1 p0 ?_ ?_
    · exact q_J9_min_7cf53_10 _ _ p1 _ _ hr
    · exact q_J9_min_7cf53_10 _ _ p0 _ _ hr
set_option maxHeartbeats 4000000 in
set_option maxRecDepth 100000 in
theorem q_X0_clear_2 (ct : Nat) (kt : kd ct = 0) : ∀ (n : Nat) (x1 : Int32) (z1 : Int) (p1 : x1 = mJ z1) (ζ : ZS) (σ : HS), Rp ζ σ → Sm QV (g_X0_clear_2 ct n z1 ζ) (f_X0_clear_2 ct n x1 σ) := by
  intro n
  induction n with
  | zero =>
    intro x1 z1 p1 ζ σ hr
    exact sm_none
  | succ n ih =>
    intro x1 z1 p1 ζ σ hr
    rw [g_X0_clear_2.eq_2, f_X0_clear_2.eq_2]
    refine sm_ile li_4 p1 ?_ ?_
    · have hr101 := rwI (a := ct) (k := 9) hr li_0
      exact sm_rv hr101
    · refine sm_rk (pt0_k (rp_s hr) kt 0 1 (by decide) rfl) (k0_k kt 1 (by decide) (by decide)) ?_
      refine sm_ck p1 (l0_k kt 1 (by decide) (by decide)) (fun b102 => ?_)
      have hr103 := raI (a := ct + 1) hr p1 b102 (Nat.le_of_ble_eq_true rfl) li_m1
      refine sm_rk (pt0_k (rp_s hr103) kt 1 2 (by decide) rfl) (k0_k kt 2 (by decide) (by decide)) ?_
      refine sm_ck p1 (l0_k kt 2 (by decide) (by decide)) (fun b104 => ?_)
      have hr105 := raI (a := ct + 2) hr103 p1 b104 (Nat.le_of_ble_eq_true rfl) li_m1
      refine sm_rk (pt0_k (rp_s hr105) kt 2 3 (by decide) rfl) (k0_k kt 3 (by decide) (by decide)) ?_
      refine sm_ck p1 (l0_k kt 3 (by decide) (by decide)) (fun b106 => ?_)
      have hr107 := raI (a := ct + 3) hr105 p1 b106 (Nat.le_of_ble_eq_true rfl) li_m1
      exact ih _ _ (pa p1 li_1) _ _ hr107
set_option maxHeartbeats 4000000 in
set_option maxRecDepth 100000 in
theorem q_X0_clear (ct : Nat) (kt : kd ct = 0) (ζ : ZS) (σ : HS) (hr : Rp ζ σ) : Sm QV (g_X0_clear ct ζ) (f_X0_clear ct σ) := by
    unfold g_X0_clear f_X0_clear
    exact q_X0_clear_2 _ kt FU _ _ li_0 _ _ hr
set_option maxHeartbeats 4000000 in
set_option maxRecDepth 100000 in
theorem q_X0_say (ct : Nat) (kt : kd ct = 0) (x1 : Int32) (z1 : Int) (p1 : x1 = mJ z1) (x2 : Int32) (z2 : Int) (p2 : x2 = mJ z2) (x3 : Int32) (z3 : Int) (p3 : x3 = mJ z3) (x4 : Int32) (z4 : Int) (p4 : x4 = mJ z4) (x5 : Int32) (z5 : Int) (p5 : x5 = mJ z5) (x6 : Int32) (z6 : Int) (p6 : x6 = mJ z6) (ζ : ZS) (σ : HS) (hr : Rp ζ σ) : Sm QV (g_X0_say ct z1 z2 z3 z4 z5 z6 ζ) (f_X0_say ct x1 x2 x3 x4 x5 x6 σ) := by
    unfold g_X0_say f_X0_say
    refine sm_ilt (hr.1 ct 9) li_12 ?_ ?_
    · refine sm_rk (pt0_k (rp_s hr) kt 3 4 (by decide) rfl) (k0_k kt 4 (by decide) (by decide)) ?_
      refine sm_ck (hr.1 ct 9) (l0_q kt 4 (by decide) (by decide)) (fun b101 => ?_)
      have hr102 := raI (a := ct + 4) hr (hr.1 ct 9) b101 (Nat.le_of_ble_eq_true rfl) p1
      refine sm_rk (pt0_k (rp_s hr102) kt 4 5 (by decide) rfl) (k0_k kt 5 (by decide) (by decide)) ?_
      refine sm_ck (hr102.1 ct 9) (l0_q kt 5 (by decide) (by decide)) (fun b103 => ?_)
      have hr104 := raI (a := ct + 5) hr102 (hr102.1 ct 9) b103 (Nat.le_of_ble_eq_true rfl) p2
      refine sm_rk (pt0_k (rp_s hr104) kt 5 6 (by decide) rfl) (k0_k kt 6 (by decide) (by decide)) ?_
      refine sm_ck (hr104.1 ct 9) (l0_q kt 6 (by decide) (by decide)) (fun b105 => ?_)
      have hr106 := raI (a := ct + 6) hr104 (hr104.1 ct 9) b105 (Nat.le_of_ble_eq_true rfl) p3
      refine sm_rk (pt0_k (rp_s hr106) kt 6 7 (by decide) rfl) (k0_k kt 7 (by decide) (by decide)) ?_
      refine sm_ck (hr106.1 ct 9) (l0_q kt 7 (by decide) (by decide)) (fun b107 => ?_)
      have hr108 := raI (a := ct + 7) hr106 (hr106.1 ct 9) b107 (Nat.le_of_ble_eq_true rfl) p4
      refine sm_rk (pt0_k (rp_s hr108) kt 7 8 (by decide) rfl) (k0_k kt 8 (by decide) (by decide)) ?_
      refine sm_ck (hr108.1 ct 9) (l0_q kt 8 (by decide) (by decide)) (fun b109 => ?_)
      have hr110 := raI (a := ct + 8) hr108 (hr108.1 ct 9) b109 (Nat.le_of_ble_eq_true rfl) p5
      refine sm_rk (pt0_k (rp_s hr110) kt 8 9 (by decide) rfl) (k0_k kt 9 (by decide) (by decide)) ?_
      refine sm_ck (hr110.1 ct 9) (l0_q kt 9 (by decide) (by decide)) (fun b111 => ?_)
      have hr112 := raI (a := ct + 9) hr110 (hr110.1 ct 9) b111 (Nat.le_of_ble_eq_true rfl) p6
      have hr113 := rwI (a := ct) (k := 9) hr112 (pa (hr112.1 ct 9) li_1)
      exact sm_rv hr113
    · exact sm_rv hr
set_option maxHeartbeats 4000000 in
set_option maxRecDepth 100000 in
theorem q_X0_sayingsOf_31 (r4 : Int → Int → ZS → Option (Int × ZS)) (f4 : Int32 → Int32 → HS → Option (Int32 × HS)) (h4 : ∀ (x2 : Int32) (z2 : Int) (p2 : x2 = mJ z2) (x3 : Int32) (z3 : Int) (p3 : x3 = mJ z3) (ζ : ZS) (σ : HS), Rp ζ σ → Sm QI (r4 z2 z3 ζ) (f4 x2 x3 σ)) (ct : Nat) (kt : kd ct = 0) (x1 : Int32) (z1 : Int) (p1 : x1 = mJ z1) (x2 : Int32) (z2 : Int) (p2 : x2 = mJ z2) (x3 : Int32) (z3 : Int) (p3 : x3 = mJ z3) (ζ : ZS) (σ : HS) (hr : Rp ζ σ) : Sm QI (g_X0_sayingsOf_31 r4 ct z1 z2 z3 ζ) (f_X0_sayingsOf_31 f4 ct x1 x2 x3 σ) := by
    unfold g_X0_sayingsOf_31 f_X0_sayingsOf_31
    exact h4 _ _ p2 _ _ (pa p3 li_1) _ _ hr
set_option maxHeartbeats 4000000 in
set_option maxRecDepth 100000 in
theorem q_X0_sayingsOf_4 (ct : Nat) (kt : kd ct = 0) (x1 : Int32) (z1 : Int) (p1 : x1 = mJ z1) : ∀ (n : Nat) (x2 : Int32) (z2 : Int) (p2 : x2 = mJ z2) (x3 : Int32) (z3 : Int) (p3 : x3 = mJ z3) (ζ : ZS) (σ : HS), Rp ζ σ → Sm QI (g_X0_sayingsOf_4 ct z1 n z2 z3 ζ) (f_X0_sayingsOf_4 ct x1 n x2 x3 σ) := by
  intro n
  induction n with
  | zero =>
    intro x2 z2 p2 x3 z3 p3 ζ σ hr
    exact sm_none
  | succ n ih =>
    intro x2 z2 p2 x3 z3 p3 ζ σ hr
    rw [g_X0_sayingsOf_4.eq_2, f_X0_sayingsOf_4.eq_2]
    refine sm_ile (hr.1 ct 9) p3 ?_ ?_
    · exact sm_ri p2 hr
    · refine sm_rk (pt0_k (rp_s hr) kt 3 4 (by decide) rfl) (k0_k kt 4 (by decide) (by decide)) ?_
      refine sm_ck p3 (l0_q kt 4 (by decide) (by decide)) (fun b101 => ?_)
      refine sm_ieq (pand p1 (pshl li_1 (rdI (a := ct + 4) hr p3 b101 (Nat.le_of_ble_eq_true rfl)))) li_0 ?_ ?_
      · exact q_X0_sayingsOf_31 _ _ ih _ kt _ _ p1 _ _ p2 _ _ p3 _ _ hr
      · exact q_X0_sayingsOf_31 _ _ ih _ kt _ _ p1 _ _ (por p2 (pshl li_1 p3)) _ _ p3 _ _ hr
set_option maxHeartbeats 4000000 in
set_option maxRecDepth 100000 in
theorem q_X0_sayingsOf (ct : Nat) (kt : kd ct = 0) (x1 : Int32) (z1 : Int) (p1 : x1 = mJ z1) (ζ : ZS) (σ : HS) (hr : Rp ζ σ) : Sm QI (g_X0_sayingsOf ct z1 ζ) (f_X0_sayingsOf ct x1 σ) := by
    unfold g_X0_sayingsOf f_X0_sayingsOf
    exact q_X0_sayingsOf_4 _ kt _ _ p1 FU _ _ li_0 _ _ li_0 _ _ hr
set_option maxHeartbeats 4000000 in
set_option maxRecDepth 100000 in
theorem q_X9_isTold_26 (xs0 : Int32) (zs0 : Int) (ps0 : xs0 = mJ zs0) (ζ : ZS) (σ : HS) (hr : Rp ζ σ) : Sm QI (g_X9_isTold_26 zs0 ζ) (f_X9_isTold_26 xs0 σ) := by
    unfold g_X9_isTold_26 f_X9_isTold_26
    exact sm_zr ps0 hr
set_option maxHeartbeats 4000000 in
set_option maxRecDepth 100000 in
theorem q_X9_isTold_25  (ζ : ZS) (σ : HS) (hr : Rp ζ σ) : Sm QI (g_X9_isTold_25 ζ) (f_X9_isTold_25 σ) := by
    unfold g_X9_isTold_25 f_X9_isTold_25
    exact q_X9_isTold_26 _ _ li_0 _ _ hr
set_option maxHeartbeats 4000000 in
set_option maxRecDepth 100000 in
theorem q_X9_isTold (x1 : Int32) (z1 : Int) (p1 : x1 = mJ z1) (ζ : ZS) (σ : HS) (hr : Rp ζ σ) : Sm QI (g_X9_isTold z1 ζ) (f_X9_isTold 30 x1 σ) := by
    unfold g_X9_isTold f_X9_isTold
    refine sm_ilt p1 li_0 ?_ ?_
    · exact q_X9_isTold_25 _ _ hr
    · refine sm_ile li_8 p1 ?_ ?_
      · exact q_X9_isTold_25 _ _ hr
      · refine sm_ieq (pand (hr.1 30 3) (pshl li_1 p1)) li_0 ?_ ?_
        · exact q_X9_isTold_25 _ _ hr
        · exact q_X9_isTold_26 _ _ li_1 _ _ hr
set_option maxHeartbeats 4000000 in
set_option maxRecDepth 100000 in
theorem q_X9_fillLead_3 (x1 : Int32) (z1 : Int) (p1 : x1 = mJ z1) (x2 : Int32) (z2 : Int) (p2 : x2 = mJ z2) (c3 : Nat) (k3 : kd c3 = 14) : ∀ (n : Nat) (x4 : Int32) (z4 : Int) (p4 : x4 = mJ z4) (ζ : ZS) (σ : HS), Rp ζ σ → Sm QV (g_X9_fillLead_3 z1 z2 c3 n z4 ζ) (f_X9_fillLead_3 30 x1 x2 c3 n x4 σ) := by
  intro n
  induction n with
  | zero =>
    intro x4 z4 p4 ζ σ hr
    exact sm_none
  | succ n ih =>
    intro x4 z4 p4 ζ σ hr
    rw [g_X9_fillLead_3.eq_2, f_X9_fillLead_3.eq_2]
    refine sm_ile li_4 p4 ?_ ?_
    · exact sm_rv hr
    · refine sm_rk (a := 40) (pts (rp_s hr) 30 1 40 rfl) kd_40 ?_
      refine sm_ck p1 ln_40 (fun b101 => ?_)
      refine sm_rk (aa18 hr kd_40 ln_40 p1 b101) (ak18 kd_40 ln_40 b101) ?_
      refine sm_ck p4 (al18 kd_40 ln_40 b101) (fun b102 => ?_)
      refine sm_rk (a := 40) (pts (rp_s hr) 30 1 40 rfl) kd_40 ?_
      refine sm_ck p2 ln_40 (fun b103 => ?_)
      refine sm_rk (aa18 hr kd_40 ln_40 p2 b103) (ak18 kd_40 ln_40 b103) ?_
      refine sm_ck p4 (al18 kd_40 ln_40 b103) (fun b104 => ?_)
      refine sm_ck p4 rfl (fun b105 => ?_)
      have hr106 := raI (a := c3) hr p4 b105 (ln_le _) (ps (rdI (a := 40 + 1 + Int.toNat z1) hr p4 b102 (Nat.le_of_ble_eq_true rfl)) (rdI (a := 40 + 1 + Int.toNat z2) hr p4 b104 (Nat.le_of_ble_eq_true rfl)))
      exact ih _ _ (pa p4 li_1) _ _ hr106
set_option maxHeartbeats 4000000 in
set_option maxRecDepth 100000 in
theorem q_X9_fillLead (x1 : Int32) (z1 : Int) (p1 : x1 = mJ z1) (x2 : Int32) (z2 : Int) (p2 : x2 = mJ z2) (c3 : Nat) (k3 : kd c3 = 14) (ζ : ZS) (σ : HS) (hr : Rp ζ σ) : Sm QV (g_X9_fillLead z1 z2 c3 ζ) (f_X9_fillLead 30 x1 x2 c3 σ) := by
    unfold g_X9_fillLead f_X9_fillLead
    exact q_X9_fillLead_3 _ _ p1 _ _ p2 _ k3 FU _ _ li_0 _ _ hr
set_option maxHeartbeats 4000000 in
set_option maxRecDepth 100000 in
theorem q_X0_fillRow_211  (ζ : ZS) (σ : HS) (hr : Rp ζ σ) : Sm QV (g_X0_fillRow_211 ζ) (f_X0_fillRow_211 σ) := by
    unfold g_X0_fillRow_211 f_X0_fillRow_211
    exact sm_rv hr
set_option maxHeartbeats 4000000 in
set_option maxRecDepth 100000 in
theorem q_X0_fillRow_68 (r46 : Int → ZS → Option ZS) (f46 : Int32 → HS → Option HS) (h46 : ∀ (x6 : Int32) (z6 : Int) (p6 : x6 = mJ z6) (ζ : ZS) (σ : HS), Rp ζ σ → Sm QV (r46 z6 ζ) (f46 x6 σ)) (ct : Nat) (kt : kd ct = 0) (x1 : Int32) (z1 : Int) (p1 : x1 = mJ z1) (c2 : Nat) (k2 : kd c2 = 14) (x4 : Int32) (z4 : Int) (p4 : x4 = mJ z4) (x5 : Int32) (z5 : Int) (p5 : x5 = mJ z5) (x6 : Int32) (z6 : Int) (p6 : x6 = mJ z6) (xs0 : Int32) (zs0 : Int) (ps0 : xs0 = mJ zs0) (xs1 : Int32) (zs1 : Int) (ps1 : xs1 = mJ zs1) (cs2 : Nat) (ks2 : kd cs2 = 14) (ζ : ZS) (σ : HS) (hr : Rp ζ σ) : Sm QV (g_X0_fillRow_68 r46 ct z1 c2 z4 z5 z6 zs0 zs1 cs2 ζ) (f_X0_fillRow_68 f46 ct x1 c2 30 x4 x5 x6 xs0 xs1 cs2 σ) := by
    unfold g_X0_fillRow_68 f_X0_fillRow_68
    refine sm_ck ps1 rfl (fun b101 => ?_)
    have hr102 := raI (a := cs2) hr ps1 b101 (ln_le _) ps0
    exact h46 _ _ (pa p6 li_1) _ _ hr102
set_option maxHeartbeats 4000000 in
set_option maxRecDepth 100000 in
theorem q_X0_fillRow_46 (ct : Nat) (kt : kd ct = 0) (x1 : Int32) (z1 : Int) (p1 : x1 = mJ z1) (c2 : Nat) (k2 : kd c2 = 14) (x4 : Int32) (z4 : Int) (p4 : x4 = mJ z4) (x5 : Int32) (z5 : Int) (p5 : x5 = mJ z5) : ∀ (n : Nat) (x6 : Int32) (z6 : Int) (p6 : x6 = mJ z6) (ζ : ZS) (σ : HS), Rp ζ σ → Sm QV (g_X0_fillRow_46 ct z1 c2 z4 z5 n z6 ζ) (f_X0_fillRow_46 ct x1 c2 30 x4 x5 n x6 σ) := by
  intro n
  induction n with
  | zero =>
    intro x6 z6 p6 ζ σ hr
    exact sm_none
  | succ n ih =>
    intro x6 z6 p6 ζ σ hr
    rw [g_X0_fillRow_46.eq_2, f_X0_fillRow_46.eq_2]
    refine sm_ile li_4 p6 ?_ ?_
    · refine sm_rk (pt0_k (rp_s hr) kt 4 5 (by decide) rfl) (k0_k kt 5 (by decide) (by decide)) ?_
      refine sm_ck p1 (l0_q kt 5 (by decide) (by decide)) (fun b101 => ?_)
      refine sm_ieq (rdI (a := ct + 5) hr p1 b101 (Nat.le_of_ble_eq_true rfl)) li_1 ?_ ?_
      · refine sm_rk (pt0_k (rp_s hr) kt 5 6 (by decide) rfl) (k0_k kt 6 (by decide) (by decide)) ?_
        refine sm_ck p1 (l0_q kt 6 (by decide) (by decide)) (fun b123 => ?_)
        refine sm_ck (rdI (a := ct + 6) hr p1 b123 (Nat.le_of_ble_eq_true rfl)) rfl (fun b124 => ?_)
        refine sm_ck (rdI (a := ct + 6) hr p1 b123 (Nat.le_of_ble_eq_true rfl)) rfl (fun b125 => ?_)
        have hr126 := raI (a := c2) hr (rdI (a := ct + 6) hr p1 b123 (Nat.le_of_ble_eq_true rfl)) b125 (ln_le _) (pa (rdI (a := c2) hr (rdI (a := ct + 6) hr p1 b123 (Nat.le_of_ble_eq_true rfl)) b124 (ln_le _)) li_100)
        exact q_X0_fillRow_211 _ _ hr126
      · refine sm_rk (pt0_k (rp_s hr) kt 4 5 (by decide) rfl) (k0_k kt 5 (by decide) (by decide)) ?_
        refine sm_ck p1 (l0_q kt 5 (by decide) (by decide)) (fun b102 => ?_)
        refine sm_ieq (rdI (a := ct + 5) hr p1 b102 (Nat.le_of_ble_eq_true rfl)) li_2 ?_ ?_
        · refine sm_rk (pt0_k (rp_s hr) kt 5 6 (by decide) rfl) (k0_k kt 6 (by decide) (by decide)) ?_
          refine sm_ck p1 (l0_q kt 6 (by decide) (by decide)) (fun b119 => ?_)
          refine sm_ck (rdI (a := ct + 6) hr p1 b119 (Nat.le_of_ble_eq_true rfl)) rfl (fun b120 => ?_)
          refine sm_ck (rdI (a := ct + 6) hr p1 b119 (Nat.le_of_ble_eq_true rfl)) rfl (fun b121 => ?_)
          have hr122 := raI (a := c2) hr (rdI (a := ct + 6) hr p1 b119 (Nat.le_of_ble_eq_true rfl)) b121 (ln_le _) (ps (rdI (a := c2) hr (rdI (a := ct + 6) hr p1 b119 (Nat.le_of_ble_eq_true rfl)) b120 (ln_le _)) li_100)
          exact q_X0_fillRow_211 _ _ hr122
        · refine sm_rk (pt0_k (rp_s hr) kt 4 5 (by decide) rfl) (k0_k kt 5 (by decide) (by decide)) ?_
          refine sm_ck p1 (l0_q kt 5 (by decide) (by decide)) (fun b103 => ?_)
          refine sm_ieq (rdI (a := ct + 5) hr p1 b103 (Nat.le_of_ble_eq_true rfl)) li_0 ?_ ?_
          · refine sm_rk (pt0_k (rp_s hr) kt 5 6 (by decide) rfl) (k0_k kt 6 (by decide) (by decide)) ?_
            refine sm_ck p1 (l0_q kt 6 (by decide) (by decide)) (fun b111 => ?_)
            refine sm_rk (pt0_k (rp_s hr) kt 7 8 (by decide) rfl) (k0_k kt 8 (by decide) (by decide)) ?_
            refine sm_ck p1 (l0_q kt 8 (by decide) (by decide)) (fun b112 => ?_)
            refine sm_ck (rdI (a := ct + 6) hr p1 b111 (Nat.le_of_ble_eq_true rfl)) rfl (fun b113 => ?_)
            have hr114 := raI (a := c2) hr (rdI (a := ct + 6) hr p1 b111 (Nat.le_of_ble_eq_true rfl)) b113 (ln_le _) (rdI (a := ct + 8) hr p1 b112 (Nat.le_of_ble_eq_true rfl))
            refine sm_rk (pt0_k (rp_s hr114) kt 6 7 (by decide) rfl) (k0_k kt 7 (by decide) (by decide)) ?_
            refine sm_ck p1 (l0_q kt 7 (by decide) (by decide)) (fun b115 => ?_)
            refine sm_rk (pt0_k (rp_s hr114) kt 8 9 (by decide) rfl) (k0_k kt 9 (by decide) (by decide)) ?_
            refine sm_ck p1 (l0_q kt 9 (by decide) (by decide)) (fun b116 => ?_)
            refine sm_ck (rdI (a := ct + 7) hr114 p1 b115 (Nat.le_of_ble_eq_true rfl)) rfl (fun b117 => ?_)
            have hr118 := raI (a := c2) hr114 (rdI (a := ct + 7) hr114 p1 b115 (Nat.le_of_ble_eq_true rfl)) b117 (ln_le _) (pn (rdI (a := ct + 9) hr114 p1 b116 (Nat.le_of_ble_eq_true rfl)))
            exact q_X0_fillRow_211 _ _ hr118
          · refine sm_rk (pt0_k (rp_s hr) kt 5 6 (by decide) rfl) (k0_k kt 6 (by decide) (by decide)) ?_
            refine sm_ck p1 (l0_q kt 6 (by decide) (by decide)) (fun b104 => ?_)
            refine sm_bind (q_X9_isTold _ _ (rdI (a := ct + 6) hr p1 b104 (Nat.le_of_ble_eq_true rfl)) _ _ hr) (fun q5 w5 e5 => ?_)
            refine sm_ieq e5.1 li_0 ?_ ?_
            · exact q_X0_fillRow_211 _ _ e5.2
            · refine sm_rk (pt0_k (rp_s e5.2) kt 6 7 (by decide) rfl) (k0_k kt 7 (by decide) (by decide)) ?_
              refine sm_ck p1 (l0_q kt 7 (by decide) (by decide)) (fun b106 => ?_)
              refine sm_bind (q_X9_isTold _ _ (rdI (a := ct + 7) e5.2 p1 b106 (Nat.le_of_ble_eq_true rfl)) _ _ e5.2) (fun q7 w7 e7 => ?_)
              refine sm_ieq e7.1 li_0 ?_ ?_
              · exact q_X0_fillRow_211 _ _ e7.2
              · refine sm_rk (pt0_k (rp_s e7.2) kt 5 6 (by decide) rfl) (k0_k kt 6 (by decide) (by decide)) ?_
                refine sm_ck p1 (l0_q kt 6 (by decide) (by decide)) (fun b108 => ?_)
                refine sm_rk (pt0_k (rp_s e7.2) kt 6 7 (by decide) rfl) (k0_k kt 7 (by decide) (by decide)) ?_
                refine sm_ck p1 (l0_q kt 7 (by decide) (by decide)) (fun b109 => ?_)
                refine sm_bind (q_X9_fillLead _ _ (rdI (a := ct + 6) e7.2 p1 b108 (Nat.le_of_ble_eq_true rfl)) _ _ (rdI (a := ct + 7) e7.2 p1 b109 (Nat.le_of_ble_eq_true rfl)) _ k2 _ _ e7.2) (fun q10 w10 e10 => ?_)
                exact q_X0_fillRow_211 _ _ e10
    · refine sm_ile p4 p6 ?_ ?_
      · exact q_X0_fillRow_68 _ _ ih _ kt _ _ p1 _ k2 _ _ p4 _ _ p5 _ _ p6 _ _ li_0 _ _ p6 _ k2 _ _ hr
      · exact q_X0_fillRow_68 _ _ ih _ kt _ _ p1 _ k2 _ _ p4 _ _ p5 _ _ p6 _ _ p5 _ _ p6 _ k2 _ _ hr
set_option maxHeartbeats 4000000 in
set_option maxRecDepth 100000 in
theorem q_X0_fillRow_43 (ct : Nat) (kt : kd ct = 0) (x1 : Int32) (z1 : Int) (p1 : x1 = mJ z1) (c2 : Nat) (k2 : kd c2 = 14) (x4 : Int32) (z4 : Int) (p4 : x4 = mJ z4) (x5 : Int32) (z5 : Int) (p5 : x5 = mJ z5) (ζ : ZS) (σ : HS) (hr : Rp ζ σ) : Sm QV (g_X0_fillRow_43 ct z1 c2 z4 z5 ζ) (f_X0_fillRow_43 ct x1 c2 30 x4 x5 σ) := by
    unfold g_X0_fillRow_43 f_X0_fillRow_43
    exact q_X0_fillRow_46 _ kt _ _ p1 _ k2 _ _ p4 _ _ p5 FU _ _ li_0 _ _ hr
set_option maxHeartbeats 4000000 in
set_option maxRecDepth 100000 in
theorem q_X0_fillRow (ct : Nat) (kt : kd ct = 0) (x1 : Int32) (z1 : Int) (p1 : x1 = mJ z1) (c2 : Nat) (k2 : kd c2 = 14) (x4 : Int32) (z4 : Int) (p4 : x4 = mJ z4) (ζ : ZS) (σ : HS) (hr : Rp ζ σ) : Sm QV (g_X0_fillRow ct z1 c2 z4 ζ) (f_X0_fillRow ct x1 c2 30 x4 σ) := by
    unfold g_X0_fillRow f_X0_fillRow
    refine sm_rk (pt0_k (rp_s hr) kt 4 5 (by decide) rfl) (k0_k kt 5 (by decide) (by decide)) ?_
    refine sm_ck p1 (l0_q kt 5 (by decide) (by decide)) (fun b101 => ?_)
    refine sm_ieq (rdI (a := ct + 5) hr p1 b101 (Nat.le_of_ble_eq_true rfl)) li_1 ?_ ?_
    · refine sm_rk (pt0_k (rp_s hr) kt 7 8 (by decide) rfl) (k0_k kt 8 (by decide) (by decide)) ?_
      refine sm_ck p1 (l0_q kt 8 (by decide) (by decide)) (fun b104 => ?_)
      exact q_X0_fillRow_43 _ kt _ _ p1 _ k2 _ _ p4 _ _ (pn (rdI (a := ct + 8) hr p1 b104 (Nat.le_of_ble_eq_true rfl))) _ _ hr
    · refine sm_rk (pt0_k (rp_s hr) kt 4 5 (by decide) rfl) (k0_k kt 5 (by decide) (by decide)) ?_
      refine sm_ck p1 (l0_q kt 5 (by decide) (by decide)) (fun b102 => ?_)
      refine sm_ieq (rdI (a := ct + 5) hr p1 b102 (Nat.le_of_ble_eq_true rfl)) li_2 ?_ ?_
      · refine sm_rk (pt0_k (rp_s hr) kt 7 8 (by decide) rfl) (k0_k kt 8 (by decide) (by decide)) ?_
        refine sm_ck p1 (l0_q kt 8 (by decide) (by decide)) (fun b103 => ?_)
        exact q_X0_fillRow_43 _ kt _ _ p1 _ k2 _ _ p4 _ _ (rdI (a := ct + 8) hr p1 b103 (Nat.le_of_ble_eq_true rfl)) _ _ hr
      · exact q_X0_fillRow_43 _ kt _ _ p1 _ k2 _ _ p4 _ _ li_0 _ _ hr
set_option maxHeartbeats 4000000 in
set_option maxRecDepth 100000 in
theorem q_X1_becomeWhole_51 (r17 : Int → ZS → Option ZS) (f17 : Int32 → HS → Option HS) (h17 : ∀ (x2 : Int32) (z2 : Int) (p2 : x2 = mJ z2) (ζ : ZS) (σ : HS), Rp ζ σ → Sm QV (r17 z2 ζ) (f17 x2 σ)) (r27 : Int → ZS → Option ZS) (f27 : Int32 → HS → Option HS) (h27 : ∀ (x3 : Int32) (z3 : Int) (p3 : x3 = mJ z3) (ζ : ZS) (σ : HS), Rp ζ σ → Sm QV (r27 z3 ζ) (f27 x3 σ)) (ct : Nat) (kt : kd ct = 1) (x2 : Int32) (z2 : Int) (p2 : x2 = mJ z2) (x3 : Int32) (z3 : Int) (p3 : x3 = mJ z3) (xs0 : Int64) (zs0 : Int) (ps0 : xs0 = mL zs0) (xs1 : Int32) (zs1 : Int) (ps1 : xs1 = mJ zs1) (cs2 : Nat) (ks2 : kd cs2 = 15) (ζ : ZS) (σ : HS) (hr : Rp ζ σ) : Sm QV (g_X1_becomeWhole_51 r17 r27 ct z2 z3 zs0 zs1 cs2 ζ) (f_X1_becomeWhole_51 f17 f27 ct x2 x3 xs0 xs1 cs2 σ) := by
    unfold g_X1_becomeWhole_51 f_X1_becomeWhole_51
    refine sm_ck ps1 rfl (fun b101 => ?_)
    have hr102 := raJ (a := cs2) hr ps1 b101 (ln_le _) ps0
    exact h27 _ _ (pa p3 li_1) _ _ hr102
set_option maxHeartbeats 4000000 in
set_option maxRecDepth 100000 in
theorem q_X1_becomeWhole_27 (ct : Nat) (kt : kd ct = 1) (x2 : Int32) (z2 : Int) (p2 : x2 = mJ z2) (r17 : Int → ZS → Option ZS) (f17 : Int32 → HS → Option HS) (h17 : ∀ (x2 : Int32) (z2 : Int) (p2 : x2 = mJ z2) (ζ : ZS) (σ : HS), Rp ζ σ → Sm QV (r17 z2 ζ) (f17 x2 σ)) : ∀ (n : Nat) (x3 : Int32) (z3 : Int) (p3 : x3 = mJ z3) (ζ : ZS) (σ : HS), Rp ζ σ → Sm QV (g_X1_becomeWhole_27 ct z2 r17 n z3 ζ) (f_X1_becomeWhole_27 ct x2 f17 n x3 σ) := by
  intro n
  induction n with
  | zero =>
    intro x3 z3 p3 ζ σ hr
    exact sm_none
  | succ n ih =>
    intro x3 z3 p3 ζ σ hr
    rw [g_X1_becomeWhole_27.eq_2, f_X1_becomeWhole_27.eq_2]
    refine sm_ile li_4 p3 ?_ ?_
    · refine sm_rk (pt1_1 (rp_s hr) kt) (k1_1 kt) ?_
      refine sm_ck p2 (l1_1 kt) (fun b101 => ?_)
      have hr102 := raI (a := ct + 2) hr p2 b101 (Nat.le_of_ble_eq_true rfl) (pand (ps (pshl li_1 (hr.1 ct 4)) li_1) (pxor (pshl li_1 p2) li_m1))
      exact h17 _ _ (pa p2 li_1) _ _ hr102
    · refine sm_rk (pt1_0 (rp_s hr) kt) (k1_0 kt) ?_
      refine sm_ieq p3 p2 ?_ ?_
      · exact q_X1_becomeWhole_51 _ _ h17 _ _ ih _ kt _ _ p2 _ _ p3 _ _ lj_1 _ _ (pa (pm p2 li_4) p3) _ (k1_0 kt) _ _ hr
      · exact q_X1_becomeWhole_51 _ _ h17 _ _ ih _ kt _ _ p2 _ _ p3 _ _ lj_0 _ _ (pa (pm p2 li_4) p3) _ (k1_0 kt) _ _ hr
set_option maxHeartbeats 4000000 in
set_option maxRecDepth 100000 in
theorem q_X1_becomeWhole_17 (ct : Nat) (kt : kd ct = 1) : ∀ (n : Nat) (x2 : Int32) (z2 : Int) (p2 : x2 = mJ z2) (ζ : ZS) (σ : HS), Rp ζ σ → Sm QV (g_X1_becomeWhole_17 ct n z2 ζ) (f_X1_becomeWhole_17 ct n x2 σ) := by
  intro n
  induction n with
  | zero =>
    intro x2 z2 p2 ζ σ hr
    exact sm_none
  | succ n ih =>
    intro x2 z2 p2 ζ σ hr
    rw [g_X1_becomeWhole_17.eq_2, f_X1_becomeWhole_17.eq_2]
    refine sm_ile (hr.1 ct 5) p2 ?_ ?_
    · exact sm_rv hr
    · exact q_X1_becomeWhole_27 _ kt _ _ p2 _ _ ih FU _ _ li_0 _ _ hr
set_option maxHeartbeats 4000000 in
set_option maxRecDepth 100000 in
theorem q_X1_becomeWhole (ct : Nat) (kt : kd ct = 1) (x1 : Int32) (z1 : Int) (p1 : x1 = mJ z1) (ζ : ZS) (σ : HS) (hr : Rp ζ σ) : Sm QV (g_X1_becomeWhole ct z1 ζ) (f_X1_becomeWhole ct x1 σ) := by
    unfold g_X1_becomeWhole f_X1_becomeWhole
    have hr101 := rwI (a := ct) (k := 3) hr p1
    have hr102 := rwI (a := ct) (k := 4) hr101 p1
    have hr103 := rwI (a := ct) (k := 5) hr102 p1
    exact q_X1_becomeWhole_17 _ kt FU _ _ li_0 _ _ hr103
set_option maxHeartbeats 4000000 in
set_option maxRecDepth 100000 in
theorem q_X1_weight (ct : Nat) (kt : kd ct = 1) (x1 : Int32) (z1 : Int) (p1 : x1 = mJ z1) (x2 : Int32) (z2 : Int) (p2 : x2 = mJ z2) (ζ : ZS) (σ : HS) (hr : Rp ζ σ) : Sm QJ (g_X1_weight ct z1 z2 ζ) (f_X1_weight ct x1 x2 σ) := by
    unfold g_X1_weight f_X1_weight
    refine sm_rk (pt1_0 (rp_s hr) kt) (k1_0 kt) ?_
    refine sm_ck (pa (pm p1 li_4) p2) (l1_0 kt) (fun b101 => ?_)
    exact sm_rj (rdJ (a := ct + 1) hr (pa (pm p1 li_4) p2) b101 (Nat.le_of_ble_eq_true rfl)) hr
set_option maxHeartbeats 4000000 in
set_option maxRecDepth 100000 in
theorem q_X1_take_13 (ct : Nat) (kt : kd ct = 1) (c1 : Nat) (k1 : kd c1 = 1) (x2 : Int32) (z2 : Int) (p2 : x2 = mJ z2) (x3 : Int32) (z3 : Int) (p3 : x3 = mJ z3) : ∀ (n : Nat) (x4 : Int32) (z4 : Int) (p4 : x4 = mJ z4) (ζ : ZS) (σ : HS), Rp ζ σ → Sm QV (g_X1_take_13 ct c1 z2 z3 n z4 ζ) (f_X1_take_13 ct c1 x2 x3 n x4 σ) := by
  intro n
  induction n with
  | zero =>
    intro x4 z4 p4 ζ σ hr
    exact sm_none
  | succ n ih =>
    intro x4 z4 p4 ζ σ hr
    rw [g_X1_take_13.eq_2, f_X1_take_13.eq_2]
    refine sm_ile li_4 p4 ?_ ?_
    · refine sm_rk (pt1_1 (rp_s hr) kt) (k1_1 kt) ?_
      refine sm_rk (pt1_1 (rp_s hr) k1) (k1_1 k1) ?_
      refine sm_ck p2 (l1_1 k1) (fun b101 => ?_)
      refine sm_ck (hr.1 ct 5) (l1_1 kt) (fun b102 => ?_)
      have hr103 := raI (a := ct + 2) hr (hr.1 ct 5) b102 (Nat.le_of_ble_eq_true rfl) (por (rdI (a := c1 + 2) hr p2 b101 (Nat.le_of_ble_eq_true rfl)) p3)
      have hr104 := rwI (a := ct) (k := 5) hr103 (pa (hr103.1 ct 5) li_1)
      exact sm_rv hr104
    · refine sm_rk (pt1_0 (rp_s hr) kt) (k1_0 kt) ?_
      refine sm_bind (q_X1_weight _ k1 _ _ p2 _ _ p4 _ _ hr) (fun q5 w5 e5 => ?_)
      refine sm_ck (pa (pm (hr.1 ct 5) li_4) p4) (l1_0 kt) (fun b106 => ?_)
      have hr107 := raJ (a := ct + 1) e5.2 (pa (pm (hr.1 ct 5) li_4) p4) b106 (Nat.le_of_ble_eq_true rfl) e5.1
      exact ih _ _ (pa p4 li_1) _ _ hr107
set_option maxHeartbeats 4000000 in
set_option maxRecDepth 100000 in
theorem q_X1_take (ct : Nat) (kt : kd ct = 1) (c1 : Nat) (k1 : kd c1 = 1) (x2 : Int32) (z2 : Int) (p2 : x2 = mJ z2) (x3 : Int32) (z3 : Int) (p3 : x3 = mJ z3) (ζ : ZS) (σ : HS) (hr : Rp ζ σ) : Sm QV (g_X1_take ct c1 z2 z3 ζ) (f_X1_take ct c1 x2 x3 σ) := by
    unfold g_X1_take f_X1_take
    refine sm_ilt (hr.1 ct 5) li_44 ?_ ?_
    · exact q_X1_take_13 _ kt _ k1 _ _ p2 _ _ p3 FU _ _ li_0 _ _ hr
    · exact sm_rv hr
set_option maxHeartbeats 4000000 in
set_option maxRecDepth 100000 in
theorem q_X1_become_23 (ct : Nat) (kt : kd ct = 1) (c1 : Nat) (k1 : kd c1 = 1) : ∀ (n : Nat) (x2 : Int32) (z2 : Int) (p2 : x2 = mJ z2) (ζ : ZS) (σ : HS), Rp ζ σ → Sm QV (g_X1_become_23 ct c1 n z2 ζ) (f_X1_become_23 ct c1 n x2 σ) := by
  intro n
  induction n with
  | zero =>
    intro x2 z2 p2 ζ σ hr
    exact sm_none
  | succ n ih =>
    intro x2 z2 p2 ζ σ hr
    rw [g_X1_become_23.eq_2, f_X1_become_23.eq_2]
    refine sm_ile (hr.1 c1 5) p2 ?_ ?_
    · exact sm_rv hr
    · refine sm_bind (q_X1_take _ kt _ k1 _ _ p2 _ _ li_0 _ _ hr) (fun q1 w1 e1 => ?_)
      exact ih _ _ (pa p2 li_1) _ _ e1
set_option maxHeartbeats 4000000 in
set_option maxRecDepth 100000 in
theorem q_X1_become (ct : Nat) (kt : kd ct = 1) (c1 : Nat) (k1 : kd c1 = 1) (ζ : ZS) (σ : HS) (hr : Rp ζ σ) : Sm QV (g_X1_become ct c1 ζ) (f_X1_become ct c1 σ) := by
    unfold g_X1_become f_X1_become
    have hr101 := rwI (a := ct) (k := 3) hr (hr.1 c1 3)
    have hr102 := rwI (a := ct) (k := 4) hr101 (hr101.1 c1 4)
    have hr103 := rwI (a := ct) (k := 5) hr102 li_0
    exact q_X1_become_23 _ kt _ k1 FU _ _ li_0 _ _ hr103
set_option maxHeartbeats 4000000 in
set_option maxRecDepth 100000 in
theorem q_X1_product_5 (ct : Nat) (kt : kd ct = 1) (x1 : Int32) (z1 : Int) (p1 : x1 = mJ z1) (c2 : Nat) (k2 : kd c2 = 14) : ∀ (n : Nat) (x3 : Int64) (z3 : Int) (p3 : x3 = mL z3) (x5 : Int32) (z5 : Int) (p5 : x5 = mJ z5) (ζ : ZS) (σ : HS), Rp ζ σ → Sm QJ (g_X1_product_5 ct z1 c2 n z3 z5 ζ) (f_X1_product_5 ct x1 c2 n x3 x5 σ) := by
  intro n
  induction n with
  | zero =>
    intro x3 z3 p3 x5 z5 p5 ζ σ hr
    exact sm_none
  | succ n ih =>
    intro x3 z3 p3 x5 z5 p5 ζ σ hr
    rw [g_X1_product_5.eq_2, f_X1_product_5.eq_2]
    refine sm_ile (hr.1 ct 3) p5 ?_ ?_
    · exact sm_rj p3 hr
    · refine sm_rk (pt1_0 (rp_s hr) kt) (k1_0 kt) ?_
      refine sm_ck (pa (pm p1 li_4) p5) (l1_0 kt) (fun b101 => ?_)
      refine sm_ck p5 rfl (fun b102 => ?_)
      refine sm_gw (fun b103 => ?_)
      exact ih _ _ (paJ p3 (pmJ (rdJ (a := ct + 1) hr (pa (pm p1 li_4) p5) b101 (Nat.le_of_ble_eq_true rfl)) (pi2l (rdI (a := c2) hr p5 b102 (ln_le _)) b103))) _ _ (pa p5 li_1) _ _ hr
set_option maxHeartbeats 4000000 in
set_option maxRecDepth 100000 in
theorem q_X1_product (ct : Nat) (kt : kd ct = 1) (x1 : Int32) (z1 : Int) (p1 : x1 = mJ z1) (c2 : Nat) (k2 : kd c2 = 14) (ζ : ZS) (σ : HS) (hr : Rp ζ σ) : Sm QJ (g_X1_product ct z1 c2 ζ) (f_X1_product ct x1 c2 σ) := by
    unfold g_X1_product f_X1_product
    exact q_X1_product_5 _ kt _ _ p1 _ k2 FU _ _ lj_0 _ _ li_0 _ _ hr
set_option maxHeartbeats 4000000 in
set_option maxRecDepth 100000 in
theorem q_X1_sum_5 (ct : Nat) (kt : kd ct = 1) (x1 : Int32) (z1 : Int) (p1 : x1 = mJ z1) : ∀ (n : Nat) (x2 : Int64) (z2 : Int) (p2 : x2 = mL z2) (x4 : Int32) (z4 : Int) (p4 : x4 = mJ z4) (ζ : ZS) (σ : HS), Rp ζ σ → Sm QJ (g_X1_sum_5 ct z1 n z2 z4 ζ) (f_X1_sum_5 ct x1 n x2 x4 σ) := by
  intro n
  induction n with
  | zero =>
    intro x2 z2 p2 x4 z4 p4 ζ σ hr
    exact sm_none
  | succ n ih =>
    intro x2 z2 p2 x4 z4 p4 ζ σ hr
    rw [g_X1_sum_5.eq_2, f_X1_sum_5.eq_2]
    refine sm_ile (hr.1 ct 3) p4 ?_ ?_
    · exact sm_rj p2 hr
    · refine sm_rk (pt1_0 (rp_s hr) kt) (k1_0 kt) ?_
      refine sm_ck (pa (pm p1 li_4) p4) (l1_0 kt) (fun b101 => ?_)
      exact ih _ _ (paJ p2 (rdJ (a := ct + 1) hr (pa (pm p1 li_4) p4) b101 (Nat.le_of_ble_eq_true rfl))) _ _ (pa p4 li_1) _ _ hr
set_option maxHeartbeats 4000000 in
set_option maxRecDepth 100000 in
theorem q_X1_sum (ct : Nat) (kt : kd ct = 1) (x1 : Int32) (z1 : Int) (p1 : x1 = mJ z1) (ζ : ZS) (σ : HS) (hr : Rp ζ σ) : Sm QJ (g_X1_sum ct z1 ζ) (f_X1_sum ct x1 σ) := by
    unfold g_X1_sum f_X1_sum
    exact q_X1_sum_5 _ kt _ _ p1 FU _ _ lj_0 _ _ li_0 _ _ hr
set_option maxHeartbeats 4000000 in
set_option maxRecDepth 100000 in
theorem q_X1_isEdge_68 (r32 : Int → ZS → Option (Int × ZS)) (f32 : Int32 → HS → Option (Int32 × HS)) (h32 : ∀ (x4 : Int32) (z4 : Int) (p4 : x4 = mJ z4) (ζ : ZS) (σ : HS), Rp ζ σ → Sm QI (r32 z4 ζ) (f32 x4 σ)) (ct : Nat) (kt : kd ct = 1) (x1 : Int32) (z1 : Int) (p1 : x1 = mJ z1) (x2 : Int32) (z2 : Int) (p2 : x2 = mJ z2) (x3 : Int32) (z3 : Int) (p3 : x3 = mJ z3) (x4 : Int32) (z4 : Int) (p4 : x4 = mJ z4) (ζ : ZS) (σ : HS) (hr : Rp ζ σ) : Sm QI (g_X1_isEdge_68 r32 ct z1 z2 z3 z4 ζ) (f_X1_isEdge_68 f32 ct x1 x2 x3 x4 σ) := by
    unfold g_X1_isEdge_68 f_X1_isEdge_68
    exact h32 _ _ (pa p4 li_1) _ _ hr
set_option maxHeartbeats 4000000 in
set_option maxRecDepth 100000 in
theorem q_X1_isEdge_32 (ct : Nat) (kt : kd ct = 1) (x1 : Int32) (z1 : Int) (p1 : x1 = mJ z1) (x2 : Int32) (z2 : Int) (p2 : x2 = mJ z2) (x3 : Int32) (z3 : Int) (p3 : x3 = mJ z3) : ∀ (n : Nat) (x4 : Int32) (z4 : Int) (p4 : x4 = mJ z4) (ζ : ZS) (σ : HS), Rp ζ σ → Sm QI (g_X1_isEdge_32 ct z1 z2 z3 n z4 ζ) (f_X1_isEdge_32 ct x1 x2 x3 n x4 σ) := by
  intro n
  induction n with
  | zero =>
    intro x4 z4 p4 ζ σ hr
    exact sm_none
  | succ n ih =>
    intro x4 z4 p4 ζ σ hr
    rw [g_X1_isEdge_32.eq_2, f_X1_isEdge_32.eq_2]
    refine sm_ile (hr.1 ct 5) p4 ?_ ?_
    · exact sm_ri li_1 hr
    · refine sm_rk (pt1_1 (rp_s hr) kt) (k1_1 kt) ?_
      refine sm_ck p4 (l1_1 kt) (fun b101 => ?_)
      refine sm_ieq (pand (rdI (a := ct + 2) hr p4 b101 (Nat.le_of_ble_eq_true rfl)) p3) p3 ?_ ?_
      · refine sm_ieq p4 p1 ?_ ?_
        · exact q_X1_isEdge_68 _ _ ih _ kt _ _ p1 _ _ p2 _ _ p3 _ _ p4 _ _ hr
        · refine sm_ieq p4 p2 ?_ ?_
          · exact q_X1_isEdge_68 _ _ ih _ kt _ _ p1 _ _ p2 _ _ p3 _ _ p4 _ _ hr
          · exact sm_ri li_0 hr
      · exact q_X1_isEdge_68 _ _ ih _ kt _ _ p1 _ _ p2 _ _ p3 _ _ p4 _ _ hr
set_option maxHeartbeats 4000000 in
set_option maxRecDepth 100000 in
theorem q_X1_isEdge (ct : Nat) (kt : kd ct = 1) (x1 : Int32) (z1 : Int) (p1 : x1 = mJ z1) (x2 : Int32) (z2 : Int) (p2 : x2 = mJ z2) (ζ : ZS) (σ : HS) (hr : Rp ζ σ) : Sm QI (g_X1_isEdge ct z1 z2 ζ) (f_X1_isEdge ct x1 x2 σ) := by
    unfold g_X1_isEdge f_X1_isEdge
    refine sm_rk (pt1_1 (rp_s hr) kt) (k1_1 kt) ?_
    refine sm_ck p1 (l1_1 kt) (fun b101 => ?_)
    refine sm_rk (pt1_1 (rp_s hr) kt) (k1_1 kt) ?_
    refine sm_ck p2 (l1_1 kt) (fun b102 => ?_)
    refine sm_bind (q_J6_bitCount_0f7a4 _ _ (pand (rdI (a := ct + 2) hr p1 b101 (Nat.le_of_ble_eq_true rfl)) (rdI (a := ct + 2) hr p2 b102 (Nat.le_of_ble_eq_true rfl))) _ _ hr) (fun q3 w3 e3 => ?_)
    refine sm_ile (ps (e3.2.1 ct 3) li_2) e3.1 ?_ ?_
    · exact q_X1_isEdge_32 _ kt _ _ p1 _ _ p2 _ _ (pand (rdI (a := ct + 2) hr p1 b101 (Nat.le_of_ble_eq_true rfl)) (rdI (a := ct + 2) hr p2 b102 (Nat.le_of_ble_eq_true rfl))) FU _ _ li_0 _ _ e3.2
    · exact sm_ri li_0 e3.2
set_option maxHeartbeats 4000000 in
set_option maxRecDepth 100000 in
theorem q_X3_commonDivisor_67 (x4 : Int64) (z4 : Int) (p4 : x4 = mL z4) (ζ : ZS) (σ : HS) (hr : Rp ζ σ) : Sm QJ (g_X3_commonDivisor_67 z4 ζ) (f_X3_commonDivisor_67 x4 σ) := by
    unfold g_X3_commonDivisor_67 f_X3_commonDivisor_67
    exact sm_rj p4 hr
set_option maxHeartbeats 4000000 in
set_option maxRecDepth 100000 in
theorem q_X3_commonDivisor_31  : ∀ (n : Nat) (x4 : Int64) (z4 : Int) (p4 : x4 = mL z4) (x6 : Int64) (z6 : Int) (p6 : x6 = mL z6) (x8 : Int32) (z8 : Int) (p8 : x8 = mJ z8) (ζ : ZS) (σ : HS), Rp ζ σ → Sm QJ (g_X3_commonDivisor_31 n z4 z6 z8 ζ) (f_X3_commonDivisor_31 n x4 x6 x8 σ) := by
  intro n
  induction n with
  | zero =>
    intro x4 z4 p4 x6 z6 p6 x8 z8 p8 ζ σ hr
    exact sm_none
  | succ n ih =>
    intro x4 z4 p4 x6 z6 p6 x8 z8 p8 ζ σ hr
    rw [g_X3_commonDivisor_31.eq_2, f_X3_commonDivisor_31.eq_2]
    refine sm_ile li_200 p8 ?_ ?_
    · exact q_X3_commonDivisor_67 _ _ p4 _ _ hr
    · refine sm_jeq p6 lj_0 ?_ ?_
      · exact q_X3_commonDivisor_67 _ _ p4 _ _ hr
      · refine sm_nzJ p6 (fun b101 => ?_)
        exact ih _ _ p6 _ _ (premJ p4 p6 b101) _ _ (pa p8 li_1) _ _ hr
set_option maxHeartbeats 4000000 in
set_option maxRecDepth 100000 in
theorem q_X3_commonDivisor_26 (x4 : Int64) (z4 : Int) (p4 : x4 = mL z4) (xs0 : Int64) (zs0 : Int) (ps0 : xs0 = mL zs0) (ζ : ZS) (σ : HS) (hr : Rp ζ σ) : Sm QJ (g_X3_commonDivisor_26 z4 zs0 ζ) (f_X3_commonDivisor_26 x4 xs0 σ) := by
    unfold g_X3_commonDivisor_26 f_X3_commonDivisor_26
    exact q_X3_commonDivisor_31 FU _ _ p4 _ _ ps0 _ _ li_0 _ _ hr
set_option maxHeartbeats 4000000 in
set_option maxRecDepth 100000 in
theorem q_X3_commonDivisor_12 (x2 : Int64) (z2 : Int) (p2 : x2 = mL z2) (xs0 : Int64) (zs0 : Int) (ps0 : xs0 = mL zs0) (ζ : ZS) (σ : HS) (hr : Rp ζ σ) : Sm QJ (g_X3_commonDivisor_12 z2 zs0 ζ) (f_X3_commonDivisor_12 x2 xs0 σ) := by
    unfold g_X3_commonDivisor_12 f_X3_commonDivisor_12
    refine sm_jle lj_0 p2 ?_ ?_
    · exact q_X3_commonDivisor_26 _ _ ps0 _ _ p2 _ _ hr
    · exact q_X3_commonDivisor_26 _ _ ps0 _ _ (pnJ p2) _ _ hr
set_option maxHeartbeats 4000000 in
set_option maxRecDepth 100000 in
theorem q_X3_commonDivisor (x0 : Int64) (z0 : Int) (p0 : x0 = mL z0) (x2 : Int64) (z2 : Int) (p2 : x2 = mL z2) (ζ : ZS) (σ : HS) (hr : Rp ζ σ) : Sm QJ (g_X3_commonDivisor z0 z2 ζ) (f_X3_commonDivisor x0 x2 σ) := by
    unfold g_X3_commonDivisor f_X3_commonDivisor
    refine sm_jle lj_0 p0 ?_ ?_
    · exact q_X3_commonDivisor_12 _ _ p2 _ _ p0 _ _ hr
    · exact q_X3_commonDivisor_12 _ _ p2 _ _ (pnJ p0) _ _ hr
set_option maxHeartbeats 4000000 in
set_option maxRecDepth 100000 in
theorem q_X1_join_134 (ct : Nat) (kt : kd ct = 1) (c1 : Nat) (k1 : kd c1 = 1) (x2 : Int32) (z2 : Int) (p2 : x2 = mJ z2) (x3 : Int32) (z3 : Int) (p3 : x3 = mJ z3) (x4 : Int32) (z4 : Int) (p4 : x4 = mJ z4) (ζ : ZS) (σ : HS) (hr : Rp ζ σ) : Sm QV (g_X1_join_134 ct c1 z2 z3 z4 ζ) (f_X1_join_134 ct c1 x2 x3 x4 σ) := by
    unfold g_X1_join_134 f_X1_join_134
    refine sm_rk (pt1_1 (rp_s hr) kt) (k1_1 kt) ?_
    refine sm_rk (pt1_1 (rp_s hr) k1) (k1_1 k1) ?_
    refine sm_ck p2 (l1_1 k1) (fun b101 => ?_)
    refine sm_rk (pt1_1 (rp_s hr) k1) (k1_1 k1) ?_
    refine sm_ck p3 (l1_1 k1) (fun b102 => ?_)
    refine sm_ck (hr.1 ct 5) (l1_1 kt) (fun b103 => ?_)
    have hr104 := raI (a := ct + 2) hr (hr.1 ct 5) b103 (Nat.le_of_ble_eq_true rfl) (por (pand (rdI (a := c1 + 2) hr p2 b101 (Nat.le_of_ble_eq_true rfl)) (rdI (a := c1 + 2) hr p3 b102 (Nat.le_of_ble_eq_true rfl))) p4)
    have hr105 := rwI (a := ct) (k := 5) hr104 (pa (hr104.1 ct 5) li_1)
    exact sm_rv hr105
set_option maxHeartbeats 4000000 in
set_option maxRecDepth 100000 in
theorem q_X1_join_107 (ct : Nat) (kt : kd ct = 1) (c1 : Nat) (k1 : kd c1 = 1) (x2 : Int32) (z2 : Int) (p2 : x2 = mJ z2) (x3 : Int32) (z3 : Int) (p3 : x3 = mJ z3) (x4 : Int32) (z4 : Int) (p4 : x4 = mJ z4) (x9 : Int64) (z9 : Int) (p9 : x9 = mL z9) (x11 : Int32) (z11 : Int) (p11 : x11 = mJ z11) : ∀ (n : Nat) (x12 : Int32) (z12 : Int) (p12 : x12 = mJ z12) (ζ : ZS) (σ : HS), Rp ζ σ → Sm QV (g_X1_join_107 ct c1 z2 z3 z4 z9 z11 n z12 ζ) (f_X1_join_107 ct c1 x2 x3 x4 x9 x11 n x12 σ) := by
  intro n
  induction n with
  | zero =>
    intro x12 z12 p12 ζ σ hr
    exact sm_none
  | succ n ih =>
    intro x12 z12 p12 ζ σ hr
    rw [g_X1_join_107.eq_2, f_X1_join_107.eq_2]
    refine sm_ile li_4 p12 ?_ ?_
    · exact q_X1_join_134 _ kt _ k1 _ _ p2 _ _ p3 _ _ p4 _ _ hr
    · refine sm_rk (pt1_0 (rp_s hr) kt) (k1_0 kt) ?_
      refine sm_ck (pa p11 p12) (l1_0 kt) (fun b101 => ?_)
      refine sm_nzJ p9 (fun b102 => ?_)
      refine sm_ck (pa p11 p12) (l1_0 kt) (fun b103 => ?_)
      have hr104 := raJ (a := ct + 1) hr (pa p11 p12) b103 (Nat.le_of_ble_eq_true rfl) (pdivJ (rdJ (a := ct + 1) hr (pa p11 p12) b101 (Nat.le_of_ble_eq_true rfl)) p9 b102)
      exact ih _ _ (pa p12 li_1) _ _ hr104
set_option maxHeartbeats 4000000 in
set_option maxRecDepth 100000 in
theorem q_X1_join_41 (ct : Nat) (kt : kd ct = 1) (c1 : Nat) (k1 : kd c1 = 1) (x2 : Int32) (z2 : Int) (p2 : x2 = mJ z2) (x3 : Int32) (z3 : Int) (p3 : x3 = mJ z3) (x4 : Int32) (z4 : Int) (p4 : x4 = mJ z4) (x5 : Int64) (z5 : Int) (p5 : x5 = mL z5) (x7 : Int64) (z7 : Int) (p7 : x7 = mL z7) (x11 : Int32) (z11 : Int) (p11 : x11 = mJ z11) : ∀ (n : Nat) (x9 : Int64) (z9 : Int) (p9 : x9 = mL z9) (x12 : Int32) (z12 : Int) (p12 : x12 = mJ z12) (ζ : ZS) (σ : HS), Rp ζ σ → Sm QV (g_X1_join_41 ct c1 z2 z3 z4 z5 z7 z11 n z9 z12 ζ) (f_X1_join_41 ct c1 x2 x3 x4 x5 x7 x11 n x9 x12 σ) := by
  intro n
  induction n with
  | zero =>
    intro x9 z9 p9 x12 z12 p12 ζ σ hr
    exact sm_none
  | succ n ih =>
    intro x9 z9 p9 x12 z12 p12 ζ σ hr
    rw [g_X1_join_41.eq_2, f_X1_join_41.eq_2]
    refine sm_ile li_4 p12 ?_ ?_
    · refine sm_jle p9 lj_1 ?_ ?_
      · exact q_X1_join_134 _ kt _ k1 _ _ p2 _ _ p3 _ _ p4 _ _ hr
      · exact q_X1_join_107 _ kt _ k1 _ _ p2 _ _ p3 _ _ p4 _ _ p9 _ _ p11 FU _ _ li_0 _ _ hr
    · refine sm_bind (q_X1_weight _ k1 _ _ p2 _ _ p12 _ _ hr) (fun q1 w1 e1 => ?_)
      refine sm_bind (q_X1_weight _ k1 _ _ p3 _ _ p12 _ _ e1.2) (fun q2 w2 e2 => ?_)
      refine sm_rk (pt1_0 (rp_s e2.2) kt) (k1_0 kt) ?_
      refine sm_ck (pa p11 p12) (l1_0 kt) (fun b103 => ?_)
      have hr104 := raJ (a := ct + 1) e2.2 (pa p11 p12) b103 (Nat.le_of_ble_eq_true rfl) (paJ (pmJ p7 e1.1) (pmJ p5 e2.1))
      refine sm_bind (q_X3_commonDivisor _ _ (paJ (pmJ p7 e1.1) (pmJ p5 e2.1)) _ _ p9 _ _ hr104) (fun q5 w5 e5 => ?_)
      exact ih _ _ e5.1 _ _ (pa p12 li_1) _ _ e5.2
set_option maxHeartbeats 4000000 in
set_option maxRecDepth 100000 in
theorem q_X1_join (ct : Nat) (kt : kd ct = 1) (c1 : Nat) (k1 : kd c1 = 1) (x2 : Int32) (z2 : Int) (p2 : x2 = mJ z2) (x3 : Int32) (z3 : Int) (p3 : x3 = mJ z3) (x4 : Int32) (z4 : Int) (p4 : x4 = mJ z4) (ζ : ZS) (σ : HS) (hr : Rp ζ σ) : Sm QV (g_X1_join ct c1 z2 z3 z4 ζ) (f_X1_join ct c1 x2 x3 x4 σ) := by
    unfold g_X1_join f_X1_join
    refine sm_ilt (hr.1 ct 5) li_44 ?_ ?_
    · refine sm_rk (pt1_2 (rp_s hr) k1) (k1_2 k1) ?_
      refine sm_ck p2 (l1_2 k1) (fun b101 => ?_)
      refine sm_rk (pt1_2 (rp_s hr) k1) (k1_2 k1) ?_
      refine sm_ck p3 (l1_2 k1) (fun b102 => ?_)
      exact q_X1_join_41 _ kt _ k1 _ _ p2 _ _ p3 _ _ p4 _ _ (rdJ (a := c1 + 3) hr p2 b101 (Nat.le_of_ble_eq_true rfl)) _ _ (pnJ (rdJ (a := c1 + 3) hr p3 b102 (Nat.le_of_ble_eq_true rfl))) _ _ (pm (hr.1 ct 5) li_4) FU _ _ lj_0 _ _ li_0 _ _ hr
    · exact sm_rv hr
set_option maxHeartbeats 4000000 in
set_option maxRecDepth 100000 in
theorem q_X1_becomeCut_174 (r108 : Int → ZS → Option ZS) (f108 : Int32 → HS → Option HS) (h108 : ∀ (x4 : Int32) (z4 : Int) (p4 : x4 = mJ z4) (ζ : ZS) (σ : HS), Rp ζ σ → Sm QV (r108 z4 ζ) (f108 x4 σ)) (r120 : Int → ZS → Option ZS) (f120 : Int32 → HS → Option HS) (h120 : ∀ (x5 : Int32) (z5 : Int) (p5 : x5 = mJ z5) (ζ : ZS) (σ : HS), Rp ζ σ → Sm QV (r120 z5 ζ) (f120 x5 σ)) (ct : Nat) (kt : kd ct = 1) (c1 : Nat) (k1 : kd c1 = 1) (x3 : Int32) (z3 : Int) (p3 : x3 = mJ z3) (x4 : Int32) (z4 : Int) (p4 : x4 = mJ z4) (x5 : Int32) (z5 : Int) (p5 : x5 = mJ z5) (ζ : ZS) (σ : HS) (hr : Rp ζ σ) : Sm QV (g_X1_becomeCut_174 r108 r120 ct c1 z3 z4 z5 ζ) (f_X1_becomeCut_174 f108 f120 ct c1 x3 x4 x5 σ) := by
    unfold g_X1_becomeCut_174 f_X1_becomeCut_174
    exact h120 _ _ (pa p5 li_1) _ _ hr
set_option maxHeartbeats 4000000 in
set_option maxRecDepth 100000 in
theorem q_X1_becomeCut_120 (ct : Nat) (kt : kd ct = 1) (c1 : Nat) (k1 : kd c1 = 1) (x3 : Int32) (z3 : Int) (p3 : x3 = mJ z3) (x4 : Int32) (z4 : Int) (p4 : x4 = mJ z4) (r108 : Int → ZS → Option ZS) (f108 : Int32 → HS → Option HS) (h108 : ∀ (x4 : Int32) (z4 : Int) (p4 : x4 = mJ z4) (ζ : ZS) (σ : HS), Rp ζ σ → Sm QV (r108 z4 ζ) (f108 x4 σ)) : ∀ (n : Nat) (x5 : Int32) (z5 : Int) (p5 : x5 = mJ z5) (ζ : ZS) (σ : HS), Rp ζ σ → Sm QV (g_X1_becomeCut_120 ct c1 z3 z4 r108 n z5 ζ) (f_X1_becomeCut_120 ct c1 x3 x4 f108 n x5 σ) := by
  intro n
  induction n with
  | zero =>
    intro x5 z5 p5 ζ σ hr
    exact sm_none
  | succ n ih =>
    intro x5 z5 p5 ζ σ hr
    rw [g_X1_becomeCut_120.eq_2, f_X1_becomeCut_120.eq_2]
    refine sm_ile (hr.1 c1 5) p5 ?_ ?_
    · exact h108 _ _ (pa p4 li_1) _ _ hr
    · refine sm_rk (pt1_2 (rp_s hr) k1) (k1_2 k1) ?_
      refine sm_ck p4 (l1_2 k1) (fun b101 => ?_)
      refine sm_jle (rdJ (a := c1 + 3) hr p4 b101 (Nat.le_of_ble_eq_true rfl)) lj_0 ?_ ?_
      · exact q_X1_becomeCut_174 _ _ h108 _ _ ih _ kt _ k1 _ _ p3 _ _ p4 _ _ p5 _ _ hr
      · refine sm_rk (pt1_2 (rp_s hr) k1) (k1_2 k1) ?_
        refine sm_ck p5 (l1_2 k1) (fun b102 => ?_)
        refine sm_jle lj_0 (rdJ (a := c1 + 3) hr p5 b102 (Nat.le_of_ble_eq_true rfl)) ?_ ?_
        · exact q_X1_becomeCut_174 _ _ h108 _ _ ih _ kt _ k1 _ _ p3 _ _ p4 _ _ p5 _ _ hr
        · refine sm_bind (q_X1_isEdge _ k1 _ _ p4 _ _ p5 _ _ hr) (fun q3 w3 e3 => ?_)
          refine sm_ieq e3.1 li_0 ?_ ?_
          · exact q_X1_becomeCut_174 _ _ h108 _ _ ih _ kt _ k1 _ _ p3 _ _ p4 _ _ p5 _ _ e3.2
          · refine sm_bind (q_X1_join _ kt _ k1 _ _ p4 _ _ p5 _ _ p3 _ _ e3.2) (fun q4 w4 e4 => ?_)
            exact q_X1_becomeCut_174 _ _ h108 _ _ ih _ kt _ k1 _ _ p3 _ _ p4 _ _ p5 _ _ e4
set_option maxHeartbeats 4000000 in
set_option maxRecDepth 100000 in
theorem q_X1_becomeCut_108 (ct : Nat) (kt : kd ct = 1) (c1 : Nat) (k1 : kd c1 = 1) (x3 : Int32) (z3 : Int) (p3 : x3 = mJ z3) : ∀ (n : Nat) (x4 : Int32) (z4 : Int) (p4 : x4 = mJ z4) (ζ : ZS) (σ : HS), Rp ζ σ → Sm QV (g_X1_becomeCut_108 ct c1 z3 n z4 ζ) (f_X1_becomeCut_108 ct c1 x3 n x4 σ) := by
  intro n
  induction n with
  | zero =>
    intro x4 z4 p4 ζ σ hr
    exact sm_none
  | succ n ih =>
    intro x4 z4 p4 ζ σ hr
    rw [g_X1_becomeCut_108.eq_2, f_X1_becomeCut_108.eq_2]
    refine sm_ile (hr.1 c1 5) p4 ?_ ?_
    · exact sm_rv hr
    · exact q_X1_becomeCut_120 _ kt _ k1 _ _ p3 _ _ p4 _ _ ih FU _ _ li_0 _ _ hr
set_option maxHeartbeats 4000000 in
set_option maxRecDepth 100000 in
theorem q_X1_becomeCut_99 (r46 : Int → ZS → Option ZS) (f46 : Int32 → HS → Option HS) (h46 : ∀ (x4 : Int32) (z4 : Int) (p4 : x4 = mJ z4) (ζ : ZS) (σ : HS), Rp ζ σ → Sm QV (r46 z4 ζ) (f46 x4 σ)) (ct : Nat) (kt : kd ct = 1) (c1 : Nat) (k1 : kd c1 = 1) (c2 : Nat) (k2 : kd c2 = 14) (x3 : Int32) (z3 : Int) (p3 : x3 = mJ z3) (x4 : Int32) (z4 : Int) (p4 : x4 = mJ z4) (ζ : ZS) (σ : HS) (hr : Rp ζ σ) : Sm QV (g_X1_becomeCut_99 r46 ct c1 c2 z3 z4 ζ) (f_X1_becomeCut_99 f46 ct c1 c2 x3 x4 σ) := by
    unfold g_X1_becomeCut_99 f_X1_becomeCut_99
    exact h46 _ _ (pa p4 li_1) _ _ hr
set_option maxHeartbeats 4000000 in
set_option maxRecDepth 100000 in
theorem q_X1_becomeCut_96 (r46 : Int → ZS → Option ZS) (f46 : Int32 → HS → Option HS) (h46 : ∀ (x4 : Int32) (z4 : Int) (p4 : x4 = mJ z4) (ζ : ZS) (σ : HS), Rp ζ σ → Sm QV (r46 z4 ζ) (f46 x4 σ)) (ct : Nat) (kt : kd ct = 1) (c1 : Nat) (k1 : kd c1 = 1) (c2 : Nat) (k2 : kd c2 = 14) (x3 : Int32) (z3 : Int) (p3 : x3 = mJ z3) (x4 : Int32) (z4 : Int) (p4 : x4 = mJ z4) (xs0 : Int32) (zs0 : Int) (ps0 : xs0 = mJ zs0) (xs1 : Int32) (zs1 : Int) (ps1 : xs1 = mJ zs1) (cs2 : Nat) (ks2 : kd cs2 = 1) (cs3 : Nat) (ks3 : kd cs3 = 1) (ζ : ZS) (σ : HS) (hr : Rp ζ σ) : Sm QV (g_X1_becomeCut_96 r46 ct c1 c2 z3 z4 zs0 zs1 cs2 cs3 ζ) (f_X1_becomeCut_96 f46 ct c1 c2 x3 x4 xs0 xs1 cs2 cs3 σ) := by
    unfold g_X1_becomeCut_96 f_X1_becomeCut_96
    refine sm_bind (q_X1_take _ ks3 _ ks2 _ _ ps1 _ _ ps0 _ _ hr) (fun q1 w1 e1 => ?_)
    exact q_X1_becomeCut_99 _ _ h46 _ kt _ k1 _ k2 _ _ p3 _ _ p4 _ _ e1
set_option maxHeartbeats 4000000 in
set_option maxRecDepth 100000 in
theorem q_X1_becomeCut_46 (ct : Nat) (kt : kd ct = 1) (c1 : Nat) (k1 : kd c1 = 1) (c2 : Nat) (k2 : kd c2 = 14) (x3 : Int32) (z3 : Int) (p3 : x3 = mJ z3) : ∀ (n : Nat) (x4 : Int32) (z4 : Int) (p4 : x4 = mJ z4) (ζ : ZS) (σ : HS), Rp ζ σ → Sm QV (g_X1_becomeCut_46 ct c1 c2 z3 n z4 ζ) (f_X1_becomeCut_46 ct c1 c2 x3 n x4 σ) := by
  intro n
  induction n with
  | zero =>
    intro x4 z4 p4 ζ σ hr
    exact sm_none
  | succ n ih =>
    intro x4 z4 p4 ζ σ hr
    rw [g_X1_becomeCut_46.eq_2, f_X1_becomeCut_46.eq_2]
    refine sm_ile (hr.1 c1 5) p4 ?_ ?_
    · exact q_X1_becomeCut_108 _ kt _ k1 _ _ p3 FU _ _ li_0 _ _ hr
    · refine sm_bind (q_X1_product _ k1 _ _ p4 _ k2 _ _ hr) (fun q1 w1 e1 => ?_)
      refine sm_rk (pt1_2 (rp_s e1.2) k1) (k1_2 k1) ?_
      refine sm_ck p4 (l1_2 k1) (fun b102 => ?_)
      have hr103 := raJ (a := c1 + 3) e1.2 p4 b102 (Nat.le_of_ble_eq_true rfl) e1.1
      refine sm_jlt e1.1 lj_0 ?_ ?_
      · exact q_X1_becomeCut_99 _ _ ih _ kt _ k1 _ k2 _ _ p3 _ _ p4 _ _ hr103
      · refine sm_jeq e1.1 lj_0 ?_ ?_
        · exact q_X1_becomeCut_96 _ _ ih _ kt _ k1 _ k2 _ _ p3 _ _ p4 _ _ p3 _ _ p4 _ k1 _ kt _ _ hr103
        · exact q_X1_becomeCut_96 _ _ ih _ kt _ k1 _ k2 _ _ p3 _ _ p4 _ _ li_0 _ _ p4 _ k1 _ kt _ _ hr103
set_option maxHeartbeats 4000000 in
set_option maxRecDepth 100000 in
theorem q_X1_becomeCut_19 (ct : Nat) (kt : kd ct = 1) (c1 : Nat) (k1 : kd c1 = 1) (c2 : Nat) (k2 : kd c2 = 14) (xs0 : Int32) (zs0 : Int) (ps0 : xs0 = mJ zs0) (ζ : ZS) (σ : HS) (hr : Rp ζ σ) : Sm QV (g_X1_becomeCut_19 ct c1 c2 zs0 ζ) (f_X1_becomeCut_19 ct c1 c2 xs0 σ) := by
    unfold g_X1_becomeCut_19 f_X1_becomeCut_19
    have hr101 := rwI (a := ct) (k := 3) hr (hr.1 c1 3)
    have hr102 := rwI (a := ct) (k := 4) hr101 (pa (hr101.1 c1 4) li_1)
    have hr103 := rwI (a := ct) (k := 5) hr102 li_0
    exact q_X1_becomeCut_46 _ kt _ k1 _ k2 _ _ ps0 FU _ _ li_0 _ _ hr103
set_option maxHeartbeats 4000000 in
set_option maxRecDepth 100000 in
theorem q_X1_becomeCut (ct : Nat) (kt : kd ct = 1) (c1 : Nat) (k1 : kd c1 = 1) (c2 : Nat) (k2 : kd c2 = 14) (ζ : ZS) (σ : HS) (hr : Rp ζ σ) : Sm QV (g_X1_becomeCut ct c1 c2 ζ) (f_X1_becomeCut ct c1 c2 σ) := by
    unfold g_X1_becomeCut f_X1_becomeCut
    refine sm_ile li_31 (hr.1 c1 4) ?_ ?_
    · exact q_X1_becomeCut_19 _ kt _ k1 _ k2 _ _ li_0 _ _ hr
    · exact q_X1_becomeCut_19 _ kt _ k1 _ k2 _ _ (pshl li_1 (hr.1 c1 4)) _ _ hr
set_option maxHeartbeats 4000000 in
set_option maxRecDepth 100000 in
theorem q_X1_isBehind_47 (xs0 : Int32) (zs0 : Int) (ps0 : xs0 = mJ zs0) (ζ : ZS) (σ : HS) (hr : Rp ζ σ) : Sm QI (g_X1_isBehind_47 zs0 ζ) (f_X1_isBehind_47 xs0 σ) := by
    unfold g_X1_isBehind_47 f_X1_isBehind_47
    exact sm_zr ps0 hr
set_option maxHeartbeats 4000000 in
set_option maxRecDepth 100000 in
theorem q_X1_isBehind_2 (ct : Nat) (kt : kd ct = 1) (x1 : Int32) (z1 : Int) (p1 : x1 = mJ z1) (x2 : Int32) (z2 : Int) (p2 : x2 = mJ z2) : ∀ (n : Nat) (x3 : Int32) (z3 : Int) (p3 : x3 = mJ z3) (ζ : ZS) (σ : HS), Rp ζ σ → Sm QI (g_X1_isBehind_2 ct z1 z2 n z3 ζ) (f_X1_isBehind_2 ct x1 x2 n x3 σ) := by
  intro n
  induction n with
  | zero =>
    intro x3 z3 p3 ζ σ hr
    exact sm_none
  | succ n ih =>
    intro x3 z3 p3 ζ σ hr
    rw [g_X1_isBehind_2.eq_2, f_X1_isBehind_2.eq_2]
    refine sm_ile (hr.1 ct 3) p3 ?_ ?_
    · exact sm_ri li_0 hr
    · refine sm_bind (q_X1_weight _ kt _ _ p1 _ _ p3 _ _ hr) (fun q1 w1 e1 => ?_)
      refine sm_bind (q_X1_weight _ kt _ _ p2 _ _ p3 _ _ e1.2) (fun q2 w2 e2 => ?_)
      refine sm_jeq e1.1 e2.1 ?_ ?_
      · exact ih _ _ (pa p3 li_1) _ _ e2.2
      · refine sm_bind (q_X1_weight _ kt _ _ p1 _ _ p3 _ _ e2.2) (fun q3 w3 e3 => ?_)
        refine sm_bind (q_X1_weight _ kt _ _ p2 _ _ p3 _ _ e3.2) (fun q4 w4 e4 => ?_)
        refine sm_jle e3.1 e4.1 ?_ ?_
        · exact q_X1_isBehind_47 _ _ li_0 _ _ e4.2
        · exact q_X1_isBehind_47 _ _ li_1 _ _ e4.2
set_option maxHeartbeats 4000000 in
set_option maxRecDepth 100000 in
theorem q_X1_isBehind (ct : Nat) (kt : kd ct = 1) (x1 : Int32) (z1 : Int) (p1 : x1 = mJ z1) (x2 : Int32) (z2 : Int) (p2 : x2 = mJ z2) (ζ : ZS) (σ : HS) (hr : Rp ζ σ) : Sm QI (g_X1_isBehind ct z1 z2 ζ) (f_X1_isBehind ct x1 x2 σ) := by
    unfold g_X1_isBehind f_X1_isBehind
    exact q_X1_isBehind_2 _ kt _ _ p1 _ _ p2 FU _ _ li_0 _ _ hr
set_option maxHeartbeats 4000000 in
set_option maxRecDepth 100000 in
theorem q_X1_swap_2 (ct : Nat) (kt : kd ct = 1) (x1 : Int32) (z1 : Int) (p1 : x1 = mJ z1) (x2 : Int32) (z2 : Int) (p2 : x2 = mJ z2) : ∀ (n : Nat) (x3 : Int32) (z3 : Int) (p3 : x3 = mJ z3) (ζ : ZS) (σ : HS), Rp ζ σ → Sm QV (g_X1_swap_2 ct z1 z2 n z3 ζ) (f_X1_swap_2 ct x1 x2 n x3 σ) := by
  intro n
  induction n with
  | zero =>
    intro x3 z3 p3 ζ σ hr
    exact sm_none
  | succ n ih =>
    intro x3 z3 p3 ζ σ hr
    rw [g_X1_swap_2.eq_2, f_X1_swap_2.eq_2]
    refine sm_ile li_4 p3 ?_ ?_
    · refine sm_rk (pt1_1 (rp_s hr) kt) (k1_1 kt) ?_
      refine sm_ck p1 (l1_1 kt) (fun b101 => ?_)
      refine sm_rk (pt1_1 (rp_s hr) kt) (k1_1 kt) ?_
      refine sm_rk (pt1_1 (rp_s hr) kt) (k1_1 kt) ?_
      refine sm_ck p2 (l1_1 kt) (fun b102 => ?_)
      refine sm_ck p1 (l1_1 kt) (fun b103 => ?_)
      have hr104 := raI (a := ct + 2) hr p1 b103 (Nat.le_of_ble_eq_true rfl) (rdI (a := ct + 2) hr p2 b102 (Nat.le_of_ble_eq_true rfl))
      refine sm_rk (pt1_1 (rp_s hr104) kt) (k1_1 kt) ?_
      refine sm_ck p2 (l1_1 kt) (fun b105 => ?_)
      have hr106 := raI (a := ct + 2) hr104 p2 b105 (Nat.le_of_ble_eq_true rfl) (rdI (a := ct + 2) hr p1 b101 (Nat.le_of_ble_eq_true rfl))
      exact sm_rv hr106
    · refine sm_bind (q_X1_weight _ kt _ _ p1 _ _ p3 _ _ hr) (fun q7 w7 e7 => ?_)
      refine sm_rk (pt1_0 (rp_s e7.2) kt) (k1_0 kt) ?_
      refine sm_bind (q_X1_weight _ kt _ _ p2 _ _ p3 _ _ e7.2) (fun q8 w8 e8 => ?_)
      refine sm_ck (pa (pm p1 li_4) p3) (l1_0 kt) (fun b109 => ?_)
      have hr110 := raJ (a := ct + 1) e8.2 (pa (pm p1 li_4) p3) b109 (Nat.le_of_ble_eq_true rfl) e8.1
      refine sm_rk (pt1_0 (rp_s hr110) kt) (k1_0 kt) ?_
      refine sm_ck (pa (pm p2 li_4) p3) (l1_0 kt) (fun b111 => ?_)
      have hr112 := raJ (a := ct + 1) hr110 (pa (pm p2 li_4) p3) b111 (Nat.le_of_ble_eq_true rfl) e7.1
      exact ih _ _ (pa p3 li_1) _ _ hr112
set_option maxHeartbeats 4000000 in
set_option maxRecDepth 100000 in
theorem q_X1_swap (ct : Nat) (kt : kd ct = 1) (x1 : Int32) (z1 : Int) (p1 : x1 = mJ z1) (x2 : Int32) (z2 : Int) (p2 : x2 = mJ z2) (ζ : ZS) (σ : HS) (hr : Rp ζ σ) : Sm QV (g_X1_swap ct z1 z2 ζ) (f_X1_swap ct x1 x2 σ) := by
    unfold g_X1_swap f_X1_swap
    exact q_X1_swap_2 _ kt _ _ p1 _ _ p2 FU _ _ li_0 _ _ hr
set_option maxHeartbeats 4000000 in
set_option maxRecDepth 100000 in
theorem q_X1_sort_41 (r2 : Int → ZS → Option ZS) (f2 : Int32 → HS → Option HS) (h2 : ∀ (x1 : Int32) (z1 : Int) (p1 : x1 = mJ z1) (ζ : ZS) (σ : HS), Rp ζ σ → Sm QV (r2 z1 ζ) (f2 x1 σ)) (ct : Nat) (kt : kd ct = 1) (x1 : Int32) (z1 : Int) (p1 : x1 = mJ z1) (ζ : ZS) (σ : HS) (hr : Rp ζ σ) : Sm QV (g_X1_sort_41 r2 ct z1 ζ) (f_X1_sort_41 f2 ct x1 σ) := by
    unfold g_X1_sort_41 f_X1_sort_41
    exact h2 _ _ (pa p1 li_1) _ _ hr
set_option maxHeartbeats 4000000 in
set_option maxRecDepth 100000 in
theorem q_X1_sort_12 (ct : Nat) (kt : kd ct = 1) (x1 : Int32) (z1 : Int) (p1 : x1 = mJ z1) (r2 : Int → ZS → Option ZS) (f2 : Int32 → HS → Option HS) (h2 : ∀ (x1 : Int32) (z1 : Int) (p1 : x1 = mJ z1) (ζ : ZS) (σ : HS), Rp ζ σ → Sm QV (r2 z1 ζ) (f2 x1 σ)) : ∀ (n : Nat) (x2 : Int32) (z2 : Int) (p2 : x2 = mJ z2) (ζ : ZS) (σ : HS), Rp ζ σ → Sm QV (g_X1_sort_12 ct z1 r2 n z2 ζ) (f_X1_sort_12 ct x1 f2 n x2 σ) := by
  intro n
  induction n with
  | zero =>
    intro x2 z2 p2 ζ σ hr
    exact sm_none
  | succ n ih =>
    intro x2 z2 p2 ζ σ hr
    rw [g_X1_sort_12.eq_2, f_X1_sort_12.eq_2]
    refine sm_ile p2 li_0 ?_ ?_
    · exact q_X1_sort_41 _ _ h2 _ kt _ _ p1 _ _ hr
    · refine sm_bind (q_X1_isBehind _ kt _ _ (ps p2 li_1) _ _ p2 _ _ hr) (fun q1 w1 e1 => ?_)
      refine sm_ieq e1.1 li_0 ?_ ?_
      · exact q_X1_sort_41 _ _ h2 _ kt _ _ p1 _ _ e1.2
      · refine sm_bind (q_X1_swap _ kt _ _ (ps p2 li_1) _ _ p2 _ _ e1.2) (fun q2 w2 e2 => ?_)
        exact ih _ _ (pa p2 li_m1) _ _ e2
set_option maxHeartbeats 4000000 in
set_option maxRecDepth 100000 in
theorem q_X1_sort_2 (ct : Nat) (kt : kd ct = 1) : ∀ (n : Nat) (x1 : Int32) (z1 : Int) (p1 : x1 = mJ z1) (ζ : ZS) (σ : HS), Rp ζ σ → Sm QV (g_X1_sort_2 ct n z1 ζ) (f_X1_sort_2 ct n x1 σ) := by
  intro n
  induction n with
  | zero =>
    intro x1 z1 p1 ζ σ hr
    exact sm_none
  | succ n ih =>
    intro x1 z1 p1 ζ σ hr
    rw [g_X1_sort_2.eq_2, f_X1_sort_2.eq_2]
    refine sm_ile (hr.1 ct 5) p1 ?_ ?_
    · exact sm_rv hr
    · exact q_X1_sort_12 _ kt _ _ p1 _ _ ih FU _ _ p1 _ _ hr
set_option maxHeartbeats 4000000 in
set_option maxRecDepth 100000 in
theorem q_X1_sort (ct : Nat) (kt : kd ct = 1) (ζ : ZS) (σ : HS) (hr : Rp ζ σ) : Sm QV (g_X1_sort ct ζ) (f_X1_sort ct σ) := by
    unfold g_X1_sort f_X1_sort
    exact q_X1_sort_2 _ kt FU _ _ li_1 _ _ hr
set_option maxHeartbeats 4000000 in
set_option maxRecDepth 100000 in
theorem q_X1_keeps_2 (ct : Nat) (kt : kd ct = 1) (c1 : Nat) (k1 : kd c1 = 14) : ∀ (n : Nat) (x2 : Int32) (z2 : Int) (p2 : x2 = mJ z2) (ζ : ZS) (σ : HS), Rp ζ σ → Sm QI (g_X1_keeps_2 ct c1 n z2 ζ) (f_X1_keeps_2 ct c1 n x2 σ) := by
  intro n
  induction n with
  | zero =>
    intro x2 z2 p2 ζ σ hr
    exact sm_none
  | succ n ih =>
    intro x2 z2 p2 ζ σ hr
    rw [g_X1_keeps_2.eq_2, f_X1_keeps_2.eq_2]
    refine sm_ile (hr.1 ct 5) p2 ?_ ?_
    · exact sm_ri li_1 hr
    · refine sm_bind (q_X1_product _ kt _ _ p2 _ k1 _ _ hr) (fun q1 w1 e1 => ?_)
      refine sm_jle lj_0 e1.1 ?_ ?_
      · exact ih _ _ (pa p2 li_1) _ _ e1.2
      · exact sm_ri li_0 e1.2
set_option maxHeartbeats 4000000 in
set_option maxRecDepth 100000 in
theorem q_X1_keeps (ct : Nat) (kt : kd ct = 1) (c1 : Nat) (k1 : kd c1 = 14) (ζ : ZS) (σ : HS) (hr : Rp ζ σ) : Sm QI (g_X1_keeps ct c1 ζ) (f_X1_keeps ct c1 σ) := by
    unfold g_X1_keeps f_X1_keeps
    exact q_X1_keeps_2 _ kt _ k1 FU _ _ li_0 _ _ hr
set_option maxHeartbeats 4000000 in
set_option maxRecDepth 100000 in
theorem q_X1_impliesWith_155 (xs0 : Int32) (zs0 : Int) (ps0 : xs0 = mJ zs0) (ζ : ZS) (σ : HS) (hr : Rp ζ σ) : Sm QI (g_X1_impliesWith_155 zs0 ζ) (f_X1_impliesWith_155 xs0 σ) := by
    unfold g_X1_impliesWith_155 f_X1_impliesWith_155
    exact sm_zr ps0 hr
set_option maxHeartbeats 4000000 in
set_option maxRecDepth 100000 in
theorem q_X1_impliesWith_150  (ζ : ZS) (σ : HS) (hr : Rp ζ σ) : Sm QI (g_X1_impliesWith_150 ζ) (f_X1_impliesWith_150 σ) := by
    unfold g_X1_impliesWith_150 f_X1_impliesWith_150
    exact q_X1_impliesWith_155 _ _ li_1 _ _ hr
set_option maxHeartbeats 4000000 in
set_option maxRecDepth 100000 in
theorem q_X1_impliesWith_124 (r14 : Int → Int → Int → Int → Int → ZS → Option (Int × ZS)) (f14 : Int64 → Int64 → Int64 → Int64 → Int32 → HS → Option (Int32 × HS)) (h14 : ∀ (x3 : Int64) (z3 : Int) (p3 : x3 = mL z3) (x5 : Int64) (z5 : Int) (p5 : x5 = mL z5) (x7 : Int64) (z7 : Int) (p7 : x7 = mL z7) (x9 : Int64) (z9 : Int) (p9 : x9 = mL z9) (x11 : Int32) (z11 : Int) (p11 : x11 = mJ z11) (ζ : ZS) (σ : HS), Rp ζ σ → Sm QI (r14 z3 z5 z7 z9 z11 ζ) (f14 x3 x5 x7 x9 x11 σ)) (ct : Nat) (kt : kd ct = 1) (c1 : Nat) (k1 : kd c1 = 14) (c2 : Nat) (k2 : kd c2 = 14) (x3 : Int64) (z3 : Int) (p3 : x3 = mL z3) (x5 : Int64) (z5 : Int) (p5 : x5 = mL z5) (x7 : Int64) (z7 : Int) (p7 : x7 = mL z7) (x9 : Int64) (z9 : Int) (p9 : x9 = mL z9) (x11 : Int32) (z11 : Int) (p11 : x11 = mJ z11) (ζ : ZS) (σ : HS) (hr : Rp ζ σ) : Sm QI (g_X1_impliesWith_124 r14 ct c1 c2 z3 z5 z7 z9 z11 ζ) (f_X1_impliesWith_124 f14 ct c1 c2 x3 x5 x7 x9 x11 σ) := by
    unfold g_X1_impliesWith_124 f_X1_impliesWith_124
    exact h14 _ _ p3 _ _ p5 _ _ p7 _ _ p9 _ _ (pa p11 li_1) _ _ hr
set_option maxHeartbeats 4000000 in
set_option maxRecDepth 100000 in
theorem q_X1_impliesWith_91 (r14 : Int → Int → Int → Int → Int → ZS → Option (Int × ZS)) (f14 : Int64 → Int64 → Int64 → Int64 → Int32 → HS → Option (Int32 × HS)) (h14 : ∀ (x3 : Int64) (z3 : Int) (p3 : x3 = mL z3) (x5 : Int64) (z5 : Int) (p5 : x5 = mL z5) (x7 : Int64) (z7 : Int) (p7 : x7 = mL z7) (x9 : Int64) (z9 : Int) (p9 : x9 = mL z9) (x11 : Int32) (z11 : Int) (p11 : x11 = mJ z11) (ζ : ZS) (σ : HS), Rp ζ σ → Sm QI (r14 z3 z5 z7 z9 z11 ζ) (f14 x3 x5 x7 x9 x11 σ)) (ct : Nat) (kt : kd ct = 1) (c1 : Nat) (k1 : kd c1 = 14) (c2 : Nat) (k2 : kd c2 = 14) (x3 : Int64) (z3 : Int) (p3 : x3 = mL z3) (x5 : Int64) (z5 : Int) (p5 : x5 = mL z5) (x7 : Int64) (z7 : Int) (p7 : x7 = mL z7) (x9 : Int64) (z9 : Int) (p9 : x9 = mL z9) (x11 : Int32) (z11 : Int) (p11 : x11 = mJ z11) (x12 : Int64) (z12 : Int) (p12 : x12 = mL z12) (x14 : Int64) (z14 : Int) (p14 : x14 = mL z14) (ζ : ZS) (σ : HS) (hr : Rp ζ σ) : Sm QI (g_X1_impliesWith_91 r14 ct c1 c2 z3 z5 z7 z9 z11 z12 z14 ζ) (f_X1_impliesWith_91 f14 ct c1 c2 x3 x5 x7 x9 x11 x12 x14 σ) := by
    unfold g_X1_impliesWith_91 f_X1_impliesWith_91
    refine sm_jle lj_0 p12 ?_ ?_
    · exact q_X1_impliesWith_124 _ _ h14 _ kt _ k1 _ k2 _ _ p3 _ _ p5 _ _ p7 _ _ p9 _ _ p11 _ _ hr
    · refine sm_jle (pmJ (pnJ p14) p9) (pmJ p7 (pnJ p12)) ?_ ?_
      · exact q_X1_impliesWith_124 _ _ h14 _ kt _ k1 _ k2 _ _ p3 _ _ p5 _ _ p7 _ _ p9 _ _ p11 _ _ hr
      · exact q_X1_impliesWith_124 _ _ h14 _ kt _ k1 _ k2 _ _ p3 _ _ p5 _ _ (pnJ p14) _ _ (pnJ p12) _ _ p11 _ _ hr
set_option maxHeartbeats 4000000 in
set_option maxRecDepth 100000 in
theorem q_X1_impliesWith_84 (r14 : Int → Int → Int → Int → Int → ZS → Option (Int × ZS)) (f14 : Int64 → Int64 → Int64 → Int64 → Int32 → HS → Option (Int32 × HS)) (h14 : ∀ (x3 : Int64) (z3 : Int) (p3 : x3 = mL z3) (x5 : Int64) (z5 : Int) (p5 : x5 = mL z5) (x7 : Int64) (z7 : Int) (p7 : x7 = mL z7) (x9 : Int64) (z9 : Int) (p9 : x9 = mL z9) (x11 : Int32) (z11 : Int) (p11 : x11 = mJ z11) (ζ : ZS) (σ : HS), Rp ζ σ → Sm QI (r14 z3 z5 z7 z9 z11 ζ) (f14 x3 x5 x7 x9 x11 σ)) (ct : Nat) (kt : kd ct = 1) (c1 : Nat) (k1 : kd c1 = 14) (c2 : Nat) (k2 : kd c2 = 14) (x7 : Int64) (z7 : Int) (p7 : x7 = mL z7) (x9 : Int64) (z9 : Int) (p9 : x9 = mL z9) (x11 : Int32) (z11 : Int) (p11 : x11 = mJ z11) (x12 : Int64) (z12 : Int) (p12 : x12 = mL z12) (x14 : Int64) (z14 : Int) (p14 : x14 = mL z14) (ζ : ZS) (σ : HS) (hr : Rp ζ σ) : Sm QI (g_X1_impliesWith_84 r14 ct c1 c2 z7 z9 z11 z12 z14 ζ) (f_X1_impliesWith_84 f14 ct c1 c2 x7 x9 x11 x12 x14 σ) := by
    unfold g_X1_impliesWith_84 f_X1_impliesWith_84
    exact q_X1_impliesWith_91 _ _ h14 _ kt _ k1 _ k2 _ _ p14 _ _ p12 _ _ p7 _ _ p9 _ _ p11 _ _ p12 _ _ p14 _ _ hr
set_option maxHeartbeats 4000000 in
set_option maxRecDepth 100000 in
theorem q_X1_impliesWith_57 (r14 : Int → Int → Int → Int → Int → ZS → Option (Int × ZS)) (f14 : Int64 → Int64 → Int64 → Int64 → Int32 → HS → Option (Int32 × HS)) (h14 : ∀ (x3 : Int64) (z3 : Int) (p3 : x3 = mL z3) (x5 : Int64) (z5 : Int) (p5 : x5 = mL z5) (x7 : Int64) (z7 : Int) (p7 : x7 = mL z7) (x9 : Int64) (z9 : Int) (p9 : x9 = mL z9) (x11 : Int32) (z11 : Int) (p11 : x11 = mJ z11) (ζ : ZS) (σ : HS), Rp ζ σ → Sm QI (r14 z3 z5 z7 z9 z11 ζ) (f14 x3 x5 x7 x9 x11 σ)) (ct : Nat) (kt : kd ct = 1) (c1 : Nat) (k1 : kd c1 = 14) (c2 : Nat) (k2 : kd c2 = 14) (x3 : Int64) (z3 : Int) (p3 : x3 = mL z3) (x5 : Int64) (z5 : Int) (p5 : x5 = mL z5) (x7 : Int64) (z7 : Int) (p7 : x7 = mL z7) (x9 : Int64) (z9 : Int) (p9 : x9 = mL z9) (x11 : Int32) (z11 : Int) (p11 : x11 = mJ z11) (x12 : Int64) (z12 : Int) (p12 : x12 = mL z12) (x14 : Int64) (z14 : Int) (p14 : x14 = mL z14) (ζ : ZS) (σ : HS) (hr : Rp ζ σ) : Sm QI (g_X1_impliesWith_57 r14 ct c1 c2 z3 z5 z7 z9 z11 z12 z14 ζ) (f_X1_impliesWith_57 f14 ct c1 c2 x3 x5 x7 x9 x11 x12 x14 σ) := by
    unfold g_X1_impliesWith_57 f_X1_impliesWith_57
    refine sm_jle p12 lj_0 ?_ ?_
    · exact q_X1_impliesWith_91 _ _ h14 _ kt _ k1 _ k2 _ _ p3 _ _ p5 _ _ p7 _ _ p9 _ _ p11 _ _ p12 _ _ p14 _ _ hr
    · refine sm_jeq p5 lj_0 ?_ ?_
      · exact q_X1_impliesWith_84 _ _ h14 _ kt _ k1 _ k2 _ _ p7 _ _ p9 _ _ p11 _ _ p12 _ _ p14 _ _ hr
      · refine sm_jle (pmJ p3 p12) (pmJ p14 p5) ?_ ?_
        · exact q_X1_impliesWith_91 _ _ h14 _ kt _ k1 _ k2 _ _ p3 _ _ p5 _ _ p7 _ _ p9 _ _ p11 _ _ p12 _ _ p14 _ _ hr
        · exact q_X1_impliesWith_84 _ _ h14 _ kt _ k1 _ k2 _ _ p7 _ _ p9 _ _ p11 _ _ p12 _ _ p14 _ _ hr
set_option maxHeartbeats 4000000 in
set_option maxRecDepth 100000 in
theorem q_X1_impliesWith_14 (ct : Nat) (kt : kd ct = 1) (c1 : Nat) (k1 : kd c1 = 14) (c2 : Nat) (k2 : kd c2 = 14) : ∀ (n : Nat) (x3 : Int64) (z3 : Int) (p3 : x3 = mL z3) (x5 : Int64) (z5 : Int) (p5 : x5 = mL z5) (x7 : Int64) (z7 : Int) (p7 : x7 = mL z7) (x9 : Int64) (z9 : Int) (p9 : x9 = mL z9) (x11 : Int32) (z11 : Int) (p11 : x11 = mJ z11) (ζ : ZS) (σ : HS), Rp ζ σ → Sm QI (g_X1_impliesWith_14 ct c1 c2 n z3 z5 z7 z9 z11 ζ) (f_X1_impliesWith_14 ct c1 c2 n x3 x5 x7 x9 x11 σ) := by
  intro n
  induction n with
  | zero =>
    intro x3 z3 p3 x5 z5 p5 x7 z7 p7 x9 z9 p9 x11 z11 p11 ζ σ hr
    exact sm_none
  | succ n ih =>
    intro x3 z3 p3 x5 z5 p5 x7 z7 p7 x9 z9 p9 x11 z11 p11 ζ σ hr
    rw [g_X1_impliesWith_14.eq_2, f_X1_impliesWith_14.eq_2]
    refine sm_ile (hr.1 ct 5) p11 ?_ ?_
    · refine sm_jeq p5 lj_0 ?_ ?_
      · exact q_X1_impliesWith_150 _ _ hr
      · refine sm_jlt (pmJ p3 p9) (pmJ p7 p5) ?_ ?_
        · exact q_X1_impliesWith_155 _ _ li_0 _ _ hr
        · exact q_X1_impliesWith_150 _ _ hr
    · refine sm_bind (q_X1_product _ kt _ _ p11 _ k1 _ _ hr) (fun q1 w1 e1 => ?_)
      refine sm_bind (q_X1_product _ kt _ _ p11 _ k2 _ _ e1.2) (fun q2 w2 e2 => ?_)
      refine sm_jlt e1.1 lj_0 ?_ ?_
      · exact q_X1_impliesWith_57 _ _ ih _ kt _ k1 _ k2 _ _ p3 _ _ p5 _ _ p7 _ _ p9 _ _ p11 _ _ e1.1 _ _ e2.1 _ _ e2.2
      · refine sm_jle lj_0 e2.1 ?_ ?_
        · exact q_X1_impliesWith_57 _ _ ih _ kt _ k1 _ k2 _ _ p3 _ _ p5 _ _ p7 _ _ p9 _ _ p11 _ _ e1.1 _ _ e2.1 _ _ e2.2
        · exact sm_ri li_0 e2.2
set_option maxHeartbeats 4000000 in
set_option maxRecDepth 100000 in
theorem q_X1_impliesWith (ct : Nat) (kt : kd ct = 1) (c1 : Nat) (k1 : kd c1 = 14) (c2 : Nat) (k2 : kd c2 = 14) (ζ : ZS) (σ : HS) (hr : Rp ζ σ) : Sm QI (g_X1_impliesWith ct c1 c2 ζ) (f_X1_impliesWith ct c1 c2 σ) := by
    unfold g_X1_impliesWith f_X1_impliesWith
    exact q_X1_impliesWith_14 _ kt _ k1 _ k2 FU _ _ lj_0 _ _ lj_0 _ _ lj_0 _ _ lj_1 _ _ li_0 _ _ hr
set_option maxHeartbeats 4000000 in
set_option maxRecDepth 100000 in
theorem q_X2_prepare_3 (c1 : Nat) (k1 : kd c1 = 0) (x2 : Int32) (z2 : Int) (p2 : x2 = mJ z2) (x3 : Int32) (z3 : Int) (p3 : x3 = mJ z3) : ∀ (n : Nat) (x4 : Int32) (z4 : Int) (p4 : x4 = mJ z4) (ζ : ZS) (σ : HS), Rp ζ σ → Sm QV (g_X2_prepare_3 c1 z2 z3 n z4 ζ) (f_X2_prepare_3 142 c1 x2 x3 n x4 σ) := by
  intro n
  induction n with
  | zero =>
    intro x4 z4 p4 ζ σ hr
    exact sm_none
  | succ n ih =>
    intro x4 z4 p4 ζ σ hr
    rw [g_X2_prepare_3.eq_2, f_X2_prepare_3.eq_2]
    refine sm_ile li_8 p4 ?_ ?_
    · have hr101 := rwI (a := 142) (k := 3) hr p2
      refine sm_zc p3 ?_
      have hr102 := rwI (a := 142) (k := 4) hr101 p3
      have hr103 := rwI (a := 142) (k := 5) hr102 li_m1
      refine sm_rk (a := 50) (pts (rp_s hr103) 142 0 50 rfl) kd_50 ?_
      refine sm_rk (a := 72) (pts (rp_s hr103) 50 3 72 rfl) kd_72 ?_
      refine sm_ck li_0 ln_72 (fun b104 => ?_)
      refine sm_rk (aa17 hr103 li_0 b104) (ak17 b104) ?_
      refine sm_rk (a := 50) (pts (rp_s hr103) 142 0 50 rfl) kd_50 ?_
      refine sm_rk (a := 64) (pts (rp_s hr103) 50 1 64 rfl) kd_64 ?_
      refine sm_bind (q_X1_become _ (ak17 b104) _ kd_64 _ _ hr103) (fun q5 w5 e5 => ?_)
      exact sm_rv e5
    · refine sm_rk (a := 143) (pts (rp_s hr) 142 2 143 rfl) kd_143 ?_
      refine sm_bind (q_X0_sayingsOf _ k1 _ _ (pand p2 (pshl li_1 p4)) _ _ hr) (fun q6 w6 e6 => ?_)
      refine sm_ck p4 ln_143 (fun b107 => ?_)
      have hr108 := raI (a := 143) e6.2 p4 b107 (Nat.le_of_ble_eq_true rfl) e6.1
      exact ih _ _ (pa p4 li_1) _ _ hr108
set_option maxHeartbeats 4000000 in
set_option maxRecDepth 100000 in
theorem q_X2_prepare (c1 : Nat) (k1 : kd c1 = 0) (x2 : Int32) (z2 : Int) (p2 : x2 = mJ z2) (x3 : Int32) (z3 : Int) (p3 : x3 = mJ z3) (ζ : ZS) (σ : HS) (hr : Rp ζ σ) : Sm QV (g_X2_prepare c1 z2 z3 ζ) (f_X2_prepare 142 c1 x2 x3 σ) := by
    unfold g_X2_prepare f_X2_prepare
    exact q_X2_prepare_3 _ k1 _ _ p2 _ _ p3 FU _ _ li_0 _ _ hr
set_option maxHeartbeats 4000000 in
set_option maxRecDepth 100000 in
theorem q_X4_fillGoods_2 (c1 : Nat) (k1 : kd c1 = 1) (x2 : Int32) (z2 : Int) (p2 : x2 = mJ z2) : ∀ (n : Nat) (x3 : Int32) (z3 : Int) (p3 : x3 = mJ z3) (ζ : ZS) (σ : HS), Rp ζ σ → Sm QV (g_X4_fillGoods_2 c1 z2 n z3 ζ) (f_X4_fillGoods_2 125 c1 x2 n x3 σ) := by
  intro n
  induction n with
  | zero =>
    intro x3 z3 p3 ζ σ hr
    exact sm_none
  | succ n ih =>
    intro x3 z3 p3 ζ σ hr
    rw [g_X4_fillGoods_2.eq_2, f_X4_fillGoods_2.eq_2]
    refine sm_ile li_8 p3 ?_ ?_
    · exact sm_rv hr
    · refine sm_rk (a := 137) (pts (rp_s hr) 125 5 137 rfl) kd_137 ?_
      refine sm_rk (a := 30) (pts (rp_s hr) 125 0 30 rfl) kd_30 ?_
      refine sm_rk (a := 40) (pts (rp_s hr) 30 1 40 rfl) kd_40 ?_
      refine sm_ck p3 ln_40 (fun b101 => ?_)
      refine sm_rk (aa18 hr kd_40 ln_40 p3 b101) (ak18 kd_40 ln_40 b101) ?_
      refine sm_bind (q_X1_product _ k1 _ _ p2 _ (ak18 kd_40 ln_40 b101) _ _ hr) (fun q2 w2 e2 => ?_)
      refine sm_ck p3 ln_137 (fun b103 => ?_)
      have hr104 := raJ (a := 137) e2.2 p3 b103 (Nat.le_of_ble_eq_true rfl) e2.1
      exact ih _ _ (pa p3 li_1) _ _ hr104
set_option maxHeartbeats 4000000 in
set_option maxRecDepth 100000 in
theorem q_X4_fillGoods (c1 : Nat) (k1 : kd c1 = 1) (x2 : Int32) (z2 : Int) (p2 : x2 = mJ z2) (ζ : ZS) (σ : HS) (hr : Rp ζ σ) : Sm QV (g_X4_fillGoods c1 z2 ζ) (f_X4_fillGoods 125 c1 x2 σ) := by
    unfold g_X4_fillGoods f_X4_fillGoods
    exact q_X4_fillGoods_2 _ k1 _ _ p2 FU _ _ li_0 _ _ hr
set_option maxHeartbeats 4000000 in
set_option maxRecDepth 100000 in
theorem q_X9_greatestOf_62 (r9 : Int → Int → Int → ZS → Option (Int × ZS)) (f9 : Int32 → Int64 → Int32 → HS → Option (Int32 × HS)) (h9 : ∀ (x2 : Int32) (z2 : Int) (p2 : x2 = mJ z2) (x3 : Int64) (z3 : Int) (p3 : x3 = mL z3) (x5 : Int32) (z5 : Int) (p5 : x5 = mJ z5) (ζ : ZS) (σ : HS), Rp ζ σ → Sm QI (r9 z2 z3 z5 ζ) (f9 x2 x3 x5 σ)) (x0 : Int32) (z0 : Int) (p0 : x0 = mJ z0) (c1 : Nat) (k1 : kd c1 = 15) (x2 : Int32) (z2 : Int) (p2 : x2 = mJ z2) (x3 : Int64) (z3 : Int) (p3 : x3 = mL z3) (x5 : Int32) (z5 : Int) (p5 : x5 = mJ z5) (ζ : ZS) (σ : HS) (hr : Rp ζ σ) : Sm QI (g_X9_greatestOf_62 r9 z0 c1 z2 z3 z5 ζ) (f_X9_greatestOf_62 f9 x0 c1 x2 x3 x5 σ) := by
    unfold g_X9_greatestOf_62 f_X9_greatestOf_62
    exact h9 _ _ p2 _ _ p3 _ _ (pa p5 li_1) _ _ hr
set_option maxHeartbeats 4000000 in
set_option maxRecDepth 100000 in
theorem q_X9_greatestOf_56 (r9 : Int → Int → Int → ZS → Option (Int × ZS)) (f9 : Int32 → Int64 → Int32 → HS → Option (Int32 × HS)) (h9 : ∀ (x2 : Int32) (z2 : Int) (p2 : x2 = mJ z2) (x3 : Int64) (z3 : Int) (p3 : x3 = mL z3) (x5 : Int32) (z5 : Int) (p5 : x5 = mJ z5) (ζ : ZS) (σ : HS), Rp ζ σ → Sm QI (r9 z2 z3 z5 ζ) (f9 x2 x3 x5 σ)) (x0 : Int32) (z0 : Int) (p0 : x0 = mJ z0) (c1 : Nat) (k1 : kd c1 = 15) (x5 : Int32) (z5 : Int) (p5 : x5 = mJ z5) (xs0 : Int32) (zs0 : Int) (ps0 : xs0 = mJ zs0) (ζ : ZS) (σ : HS) (hr : Rp ζ σ) : Sm QI (g_X9_greatestOf_56 r9 z0 c1 z5 zs0 ζ) (f_X9_greatestOf_56 f9 x0 c1 x5 xs0 σ) := by
    unfold g_X9_greatestOf_56 f_X9_greatestOf_56
    refine sm_ck p5 rfl (fun b101 => ?_)
    exact q_X9_greatestOf_62 _ _ h9 _ _ p0 _ k1 _ _ ps0 _ _ (rdJ (a := c1) hr p5 b101 (ln_le _)) _ _ p5 _ _ hr
set_option maxHeartbeats 4000000 in
set_option maxRecDepth 100000 in
theorem q_X9_greatestOf_9 (x0 : Int32) (z0 : Int) (p0 : x0 = mJ z0) (c1 : Nat) (k1 : kd c1 = 15) : ∀ (n : Nat) (x2 : Int32) (z2 : Int) (p2 : x2 = mJ z2) (x3 : Int64) (z3 : Int) (p3 : x3 = mL z3) (x5 : Int32) (z5 : Int) (p5 : x5 = mJ z5) (ζ : ZS) (σ : HS), Rp ζ σ → Sm QI (g_X9_greatestOf_9 z0 c1 n z2 z3 z5 ζ) (f_X9_greatestOf_9 x0 c1 n x2 x3 x5 σ) := by
  intro n
  induction n with
  | zero =>
    intro x2 z2 p2 x3 z3 p3 x5 z5 p5 ζ σ hr
    exact sm_none
  | succ n ih =>
    intro x2 z2 p2 x3 z3 p3 x5 z5 p5 ζ σ hr
    rw [g_X9_greatestOf_9.eq_2, f_X9_greatestOf_9.eq_2]
    refine sm_ile li_8 p5 ?_ ?_
    · exact sm_ri p2 hr
    · refine sm_ieq (pand p0 (pshl li_1 p5)) li_0 ?_ ?_
      · exact q_X9_greatestOf_62 _ _ ih _ _ p0 _ k1 _ _ p2 _ _ p3 _ _ p5 _ _ hr
      · refine sm_ck p5 rfl (fun b101 => ?_)
        refine sm_jlt (rdJ (a := c1) hr p5 b101 (ln_le _)) p3 ?_ ?_
        · exact q_X9_greatestOf_62 _ _ ih _ _ p0 _ k1 _ _ p2 _ _ p3 _ _ p5 _ _ hr
        · refine sm_ck p5 rfl (fun b102 => ?_)
          refine sm_jle (rdJ (a := c1) hr p5 b102 (ln_le _)) p3 ?_ ?_
          · exact q_X9_greatestOf_56 _ _ ih _ _ p0 _ k1 _ _ p5 _ _ (por p2 (pshl li_1 p5)) _ _ hr
          · exact q_X9_greatestOf_56 _ _ ih _ _ p0 _ k1 _ _ p5 _ _ (pshl li_1 p5) _ _ hr
set_option maxHeartbeats 4000000 in
set_option maxRecDepth 100000 in
theorem q_X9_greatestOf (x0 : Int32) (z0 : Int) (p0 : x0 = mJ z0) (c1 : Nat) (k1 : kd c1 = 15) (ζ : ZS) (σ : HS) (hr : Rp ζ σ) : Sm QI (g_X9_greatestOf z0 c1 ζ) (f_X9_greatestOf x0 c1 σ) := by
    unfold g_X9_greatestOf f_X9_greatestOf
    exact q_X9_greatestOf_9 _ _ p0 _ k1 FU _ _ li_0 _ _ lj_m1 _ _ li_0 _ _ hr
set_option maxHeartbeats 4000000 in
set_option maxRecDepth 100000 in
theorem q_X4_bestByCorner (c1 : Nat) (k1 : kd c1 = 1) (x2 : Int32) (z2 : Int) (p2 : x2 = mJ z2) (ζ : ZS) (σ : HS) (hr : Rp ζ σ) : Sm QI (g_X4_bestByCorner c1 z2 ζ) (f_X4_bestByCorner 125 c1 x2 σ) := by
    unfold g_X4_bestByCorner f_X4_bestByCorner
    refine sm_bind (q_X4_fillGoods _ k1 _ _ p2 _ _ hr) (fun q1 w1 e1 => ?_)
    refine sm_rk (a := 30) (pts (rp_s e1) 125 0 30 rfl) kd_30 ?_
    refine sm_rk (a := 137) (pts (rp_s e1) 125 5 137 rfl) kd_137 ?_
    refine sm_bind (q_X9_greatestOf _ _ (e1.1 30 4) _ kd_137 _ _ e1) (fun q2 w2 e2 => ?_)
    exact sm_ri e2.1 e2.2
set_option maxHeartbeats 4000000 in
set_option maxRecDepth 100000 in
theorem q_X4_surelyBest_37 (x2 : Int32) (z2 : Int) (p2 : x2 = mJ z2) (ζ : ZS) (σ : HS) (hr : Rp ζ σ) : Sm QI (g_X4_surelyBest_37 z2 ζ) (f_X4_surelyBest_37 x2 σ) := by
    unfold g_X4_surelyBest_37 f_X4_surelyBest_37
    exact sm_ri p2 hr
set_option maxHeartbeats 4000000 in
set_option maxRecDepth 100000 in
theorem q_X4_surelyBest_10 (c1 : Nat) (k1 : kd c1 = 1) : ∀ (n : Nat) (x2 : Int32) (z2 : Int) (p2 : x2 = mJ z2) (x3 : Int32) (z3 : Int) (p3 : x3 = mJ z3) (ζ : ZS) (σ : HS), Rp ζ σ → Sm QI (g_X4_surelyBest_10 c1 n z2 z3 ζ) (f_X4_surelyBest_10 125 c1 n x2 x3 σ) := by
  intro n
  induction n with
  | zero =>
    intro x2 z2 p2 x3 z3 p3 ζ σ hr
    exact sm_none
  | succ n ih =>
    intro x2 z2 p2 x3 z3 p3 ζ σ hr
    rw [g_X4_surelyBest_10.eq_2, f_X4_surelyBest_10.eq_2]
    refine sm_ile (hr.1 c1 5) p3 ?_ ?_
    · exact q_X4_surelyBest_37 _ _ p2 _ _ hr
    · refine sm_ieq p2 li_0 ?_ ?_
      · exact q_X4_surelyBest_37 _ _ p2 _ _ hr
      · refine sm_bind (q_X4_bestByCorner _ k1 _ _ p3 _ _ hr) (fun q1 w1 e1 => ?_)
        exact ih _ _ (pand p2 e1.1) _ _ (pa p3 li_1) _ _ e1.2
set_option maxHeartbeats 4000000 in
set_option maxRecDepth 100000 in
theorem q_X4_surelyBest (c1 : Nat) (k1 : kd c1 = 1) (ζ : ZS) (σ : HS) (hr : Rp ζ σ) : Sm QI (g_X4_surelyBest c1 ζ) (f_X4_surelyBest 125 c1 σ) := by
    unfold g_X4_surelyBest f_X4_surelyBest
    refine sm_rk (a := 30) (pts (rp_s hr) 125 0 30 rfl) kd_30 ?_
    exact q_X4_surelyBest_10 _ k1 FU _ _ (hr.1 30 4) _ _ li_0 _ _ hr
