set_option maxHeartbeats 4000000 in
set_option maxRecDepth 100000 in
theorem q_X12_addsRow (x1 : Int64) (z1 : Int) (p1 : x1 = mL z1) (x3 : Int64) (z3 : Int) (p3 : x3 = mL z3) (x5 : Int64) (z5 : Int) (p5 : x5 = mL z5) (x7 : Int64) (z7 : Int) (p7 : x7 = mL z7) (ζ : ZS) (σ : HS) (hr : Rp ζ σ) : Sm QV (g_X12_addsRow z1 z3 z5 z7 ζ) (f_X12_addsRow 0 x1 x3 x5 x7 σ) := by
    unfold g_X12_addsRow f_X12_addsRow
    refine sm_rk (a := 19) (pts (rp_s hr) 0 27 19 rfl) kd_19 ?_
    refine sm_ck (pm li_4 (hr.1 0 26)) ln_19 (fun b101 => ?_)
    have hr102 := raJ (a := 19) hr (pm li_4 (hr.1 0 26)) b101 (Nat.le_of_ble_eq_true rfl) p1
    refine sm_rk (a := 19) (pts (rp_s hr102) 0 27 19 rfl) kd_19 ?_
    refine sm_ck (pa (pm li_4 (hr102.1 0 26)) li_1) ln_19 (fun b103 => ?_)
    have hr104 := raJ (a := 19) hr102 (pa (pm li_4 (hr102.1 0 26)) li_1) b103 (Nat.le_of_ble_eq_true rfl) p3
    refine sm_rk (a := 19) (pts (rp_s hr104) 0 27 19 rfl) kd_19 ?_
    refine sm_ck (pa (pm li_4 (hr104.1 0 26)) li_2) ln_19 (fun b105 => ?_)
    have hr106 := raJ (a := 19) hr104 (pa (pm li_4 (hr104.1 0 26)) li_2) b105 (Nat.le_of_ble_eq_true rfl) p5
    refine sm_rk (a := 19) (pts (rp_s hr106) 0 27 19 rfl) kd_19 ?_
    refine sm_ck (pa (pm li_4 (hr106.1 0 26)) li_3) ln_19 (fun b107 => ?_)
    have hr108 := raJ (a := 19) hr106 (pa (pm li_4 (hr106.1 0 26)) li_3) b107 (Nat.le_of_ble_eq_true rfl) p7
    have hr109 := rwI (a := 0) (k := 26) hr108 (pa (hr108.1 0 26) li_1)
    exact sm_rv hr109
set_option maxHeartbeats 4000000 in
set_option maxRecDepth 100000 in
theorem q_X12_one_10 (xs0 : Int64) (zs0 : Int) (ps0 : xs0 = mL zs0) (ζ : ZS) (σ : HS) (hr : Rp ζ σ) : Sm QJ (g_X12_one_10 zs0 ζ) (f_X12_one_10 xs0 σ) := by
    unfold g_X12_one_10 f_X12_one_10
    exact sm_rj ps0 hr
set_option maxHeartbeats 4000000 in
set_option maxRecDepth 100000 in
theorem q_X12_one (x0 : Int32) (z0 : Int) (p0 : x0 = mJ z0) (x1 : Int32) (z1 : Int) (p1 : x1 = mJ z1) (x2 : Int64) (z2 : Int) (p2 : x2 = mL z2) (ζ : ZS) (σ : HS) (hr : Rp ζ σ) : Sm QJ (g_X12_one z0 z1 z2 ζ) (f_X12_one x0 x1 x2 σ) := by
    unfold g_X12_one f_X12_one
    refine sm_ieq p0 p1 ?_ ?_
    · exact q_X12_one_10 _ _ p2 _ _ hr
    · exact q_X12_one_10 _ _ lj_0 _ _ hr
set_option maxHeartbeats 4000000 in
set_option maxRecDepth 100000 in
theorem q_X12_addsPair (x1 : Int32) (z1 : Int) (p1 : x1 = mJ z1) (x2 : Int64) (z2 : Int) (p2 : x2 = mL z2) (x4 : Int32) (z4 : Int) (p4 : x4 = mJ z4) (x5 : Int64) (z5 : Int) (p5 : x5 = mL z5) (ζ : ZS) (σ : HS) (hr : Rp ζ σ) : Sm QV (g_X12_addsPair z1 z2 z4 z5 ζ) (f_X12_addsPair 0 x1 x2 x4 x5 σ) := by
    unfold g_X12_addsPair f_X12_addsPair
    refine sm_bind (q_X12_one _ _ p1 _ _ li_0 _ _ p2 _ _ hr) (fun q1 w1 e1 => ?_)
    refine sm_bind (q_X12_one _ _ p4 _ _ li_0 _ _ p5 _ _ e1.2) (fun q2 w2 e2 => ?_)
    refine sm_bind (q_X12_one _ _ p1 _ _ li_1 _ _ p2 _ _ e2.2) (fun q3 w3 e3 => ?_)
    refine sm_bind (q_X12_one _ _ p4 _ _ li_1 _ _ p5 _ _ e3.2) (fun q4 w4 e4 => ?_)
    refine sm_bind (q_X12_one _ _ p1 _ _ li_2 _ _ p2 _ _ e4.2) (fun q5 w5 e5 => ?_)
    refine sm_bind (q_X12_one _ _ p4 _ _ li_2 _ _ p5 _ _ e5.2) (fun q6 w6 e6 => ?_)
    refine sm_bind (q_X12_one _ _ p1 _ _ li_3 _ _ p2 _ _ e6.2) (fun q7 w7 e7 => ?_)
    refine sm_bind (q_X12_one _ _ p4 _ _ li_3 _ _ p5 _ _ e7.2) (fun q8 w8 e8 => ?_)
    refine sm_bind (q_X12_addsRow _ _ (psJ e1.1 e2.1) _ _ (psJ e3.1 e4.1) _ _ (psJ e5.1 e6.1) _ _ (psJ e7.1 e8.1) _ _ e8.2) (fun q9 w9 e9 => ?_)
    exact sm_rv e9
set_option maxHeartbeats 4000000 in
set_option maxRecDepth 100000 in
theorem q_X12_shareOf_14 (xs0 : Int64) (zs0 : Int) (ps0 : xs0 = mL zs0) (ζ : ZS) (σ : HS) (hr : Rp ζ σ) : Sm QJ (g_X12_shareOf_14 zs0 ζ) (f_X12_shareOf_14 xs0 σ) := by
    unfold g_X12_shareOf_14 f_X12_shareOf_14
    exact sm_rj ps0 hr
set_option maxHeartbeats 4000000 in
set_option maxRecDepth 100000 in
theorem q_X12_shareOf (x1 : Int32) (z1 : Int) (p1 : x1 = mJ z1) (x2 : Int32) (z2 : Int) (p2 : x2 = mJ z2) (ζ : ZS) (σ : HS) (hr : Rp ζ σ) : Sm QJ (g_X12_shareOf z1 z2 ζ) (f_X12_shareOf 0 x1 x2 σ) := by
    unfold g_X12_shareOf f_X12_shareOf
    refine sm_ile (hr.1 0 20) p1 ?_ ?_
    · exact q_X12_shareOf_14 _ _ lj_0 _ _ hr
    · refine sm_gw (fun b101 => ?_)
      exact q_X12_shareOf_14 _ _ (pi2l p2 b101) _ _ hr
set_option maxHeartbeats 4000000 in
set_option maxRecDepth 100000 in
theorem q_X12_addsShare (x1 : Int32) (z1 : Int) (p1 : x1 = mJ z1) (x2 : Int32) (z2 : Int) (p2 : x2 = mJ z2) (x3 : Int64) (z3 : Int) (p3 : x3 = mL z3) (ζ : ZS) (σ : HS) (hr : Rp ζ σ) : Sm QV (g_X12_addsShare z1 z2 z3 ζ) (f_X12_addsShare 0 x1 x2 x3 σ) := by
    unfold g_X12_addsShare f_X12_addsShare
    refine sm_bind (q_X12_one _ _ p1 _ _ li_0 _ _ lj_100 _ _ hr) (fun q1 w1 e1 => ?_)
    refine sm_gw (fun b102 => ?_)
    refine sm_bind (q_X12_one _ _ p1 _ _ li_1 _ _ lj_100 _ _ e1.2) (fun q3 w3 e3 => ?_)
    refine sm_bind (q_X12_shareOf _ _ li_1 _ _ p2 _ _ e3.2) (fun q4 w4 e4 => ?_)
    refine sm_bind (q_X12_one _ _ p1 _ _ li_2 _ _ lj_100 _ _ e4.2) (fun q5 w5 e5 => ?_)
    refine sm_bind (q_X12_shareOf _ _ li_2 _ _ p2 _ _ e5.2) (fun q6 w6 e6 => ?_)
    refine sm_bind (q_X12_one _ _ p1 _ _ li_3 _ _ lj_100 _ _ e6.2) (fun q7 w7 e7 => ?_)
    refine sm_bind (q_X12_shareOf _ _ li_3 _ _ p2 _ _ e7.2) (fun q8 w8 e8 => ?_)
    refine sm_bind (q_X12_addsRow _ _ (pmJ p3 (psJ e1.1 (pi2l p2 b102))) _ _ (pmJ p3 (psJ e3.1 e4.1)) _ _ (pmJ p3 (psJ e5.1 e6.1)) _ _ (pmJ p3 (psJ e7.1 e8.1)) _ _ e8.2) (fun q9 w9 e9 => ?_)
    exact sm_rv e9
set_option maxHeartbeats 4000000 in
set_option maxRecDepth 100000 in
theorem q_X12_differ_26 (xs0 : Int64) (zs0 : Int) (ps0 : xs0 = mL zs0) (ζ : ZS) (σ : HS) (hr : Rp ζ σ) : Sm QJ (g_X12_differ_26 zs0 ζ) (f_X12_differ_26 xs0 σ) := by
    unfold g_X12_differ_26 f_X12_differ_26
    exact sm_rj ps0 hr
set_option maxHeartbeats 4000000 in
set_option maxRecDepth 100000 in
theorem q_X12_differ (x1 : Int32) (z1 : Int) (p1 : x1 = mJ z1) (x2 : Int32) (z2 : Int) (p2 : x2 = mJ z2) (x3 : Int32) (z3 : Int) (p3 : x3 = mJ z3) (ζ : ZS) (σ : HS) (hr : Rp ζ σ) : Sm QJ (g_X12_differ z1 z2 z3 ζ) (f_X12_differ 0 x1 x2 x3 σ) := by
    unfold g_X12_differ f_X12_differ
    refine sm_ile (hr.1 0 20) p3 ?_ ?_
    · exact q_X12_differ_26 _ _ lj_0 _ _ hr
    · refine sm_bind (q_X12_valueOf _ _ p1 _ _ p3 _ _ hr) (fun q1 w1 e1 => ?_)
      refine sm_bind (q_X12_valueOf _ _ p2 _ _ p3 _ _ e1.2) (fun q2 w2 e2 => ?_)
      refine sm_gw (fun b103 => ?_)
      exact q_X12_differ_26 _ _ (pi2l (ps e1.1 e2.1) b103) _ _ e2.2
set_option maxHeartbeats 4000000 in
set_option maxRecDepth 100000 in
theorem q_X12_addsBetter (x1 : Int32) (z1 : Int) (p1 : x1 = mJ z1) (x2 : Int32) (z2 : Int) (p2 : x2 = mJ z2) (ζ : ZS) (σ : HS) (hr : Rp ζ σ) : Sm QV (g_X12_addsBetter z1 z2 ζ) (f_X12_addsBetter 0 x1 x2 σ) := by
    unfold g_X12_addsBetter f_X12_addsBetter
    refine sm_bind (q_X12_differ _ _ p1 _ _ p2 _ _ li_0 _ _ hr) (fun q1 w1 e1 => ?_)
    refine sm_bind (q_X12_differ _ _ p1 _ _ p2 _ _ li_1 _ _ e1.2) (fun q2 w2 e2 => ?_)
    refine sm_bind (q_X12_differ _ _ p1 _ _ p2 _ _ li_2 _ _ e2.2) (fun q3 w3 e3 => ?_)
    refine sm_bind (q_X12_differ _ _ p1 _ _ p2 _ _ li_3 _ _ e3.2) (fun q4 w4 e4 => ?_)
    refine sm_bind (q_X12_addsRow _ _ e1.1 _ _ e2.1 _ _ e3.1 _ _ e4.1 _ _ e4.2) (fun q5 w5 e5 => ?_)
    exact sm_rv e5
set_option maxHeartbeats 4000000 in
set_option maxRecDepth 100000 in
theorem q_X12_addsSaying_159  (ζ : ZS) (σ : HS) (hr : Rp ζ σ) : Sm QV (g_X12_addsSaying_159 ζ) (f_X12_addsSaying_159 σ) := by
    unfold g_X12_addsSaying_159 f_X12_addsSaying_159
    exact sm_rv hr
set_option maxHeartbeats 4000000 in
set_option maxRecDepth 100000 in
theorem q_X12_addsSaying (x1 : Int32) (z1 : Int) (p1 : x1 = mJ z1) (ζ : ZS) (σ : HS) (hr : Rp ζ σ) : Sm QV (g_X12_addsSaying z1 ζ) (f_X12_addsSaying 0 x1 σ) := by
    unfold g_X12_addsSaying f_X12_addsSaying
    refine sm_rk (a := 14) (pts (rp_s hr) 0 18 14 rfl) kd_14 ?_
    refine sm_ck p1 ln_14 (fun b101 => ?_)
    refine sm_rk (a := 15) (pts (rp_s hr) 0 19 15 rfl) kd_15 ?_
    refine sm_ck p1 ln_15 (fun b102 => ?_)
    refine sm_rk (a := 11) (pts (rp_s hr) 0 15 11 rfl) kd_11 ?_
    refine sm_ck p1 ln_11 (fun b103 => ?_)
    refine sm_ieq (rdI (a := 11) hr p1 b103 (Nat.le_of_ble_eq_true rfl)) li_3 ?_ ?_
    · refine sm_bind (q_X12_addsPair _ _ (rdI (a := 14) hr p1 b101 (Nat.le_of_ble_eq_true rfl)) _ _ lj_1 _ _ (rdI (a := 15) hr p1 b102 (Nat.le_of_ble_eq_true rfl)) _ _ lj_1 _ _ hr) (fun q4 w4 e4 => ?_)
      exact q_X12_addsSaying_159 _ _ e4
    refine sm_ieq (rdI (a := 11) hr p1 b103 (Nat.le_of_ble_eq_true rfl)) li_4 ?_ ?_
    · refine sm_bind (q_X12_addsPair _ _ (rdI (a := 14) hr p1 b101 (Nat.le_of_ble_eq_true rfl)) _ _ lj_1 _ _ (rdI (a := 15) hr p1 b102 (Nat.le_of_ble_eq_true rfl)) _ _ lj_2 _ _ hr) (fun q5 w5 e5 => ?_)
      exact q_X12_addsSaying_159 _ _ e5
    refine sm_ieq (rdI (a := 11) hr p1 b103 (Nat.le_of_ble_eq_true rfl)) li_5 ?_ ?_
    · refine sm_rk (a := 12) (pts (rp_s hr) 0 16 12 rfl) kd_12 ?_
      refine sm_ck p1 ln_12 (fun b106 => ?_)
      refine sm_gw (fun b107 => ?_)
      refine sm_rk (a := 13) (pts (rp_s hr) 0 17 13 rfl) kd_13 ?_
      refine sm_ck p1 ln_13 (fun b108 => ?_)
      refine sm_gw (fun b109 => ?_)
      refine sm_bind (q_X12_addsPair _ _ (rdI (a := 14) hr p1 b101 (Nat.le_of_ble_eq_true rfl)) _ _ (pi2l (rdI (a := 12) hr p1 b106 (Nat.le_of_ble_eq_true rfl)) b107) _ _ (rdI (a := 15) hr p1 b102 (Nat.le_of_ble_eq_true rfl)) _ _ (pi2l (rdI (a := 13) hr p1 b108 (Nat.le_of_ble_eq_true rfl)) b109) _ _ hr) (fun q10 w10 e10 => ?_)
      exact q_X12_addsSaying_159 _ _ e10
    refine sm_ieq (rdI (a := 11) hr p1 b103 (Nat.le_of_ble_eq_true rfl)) li_6 ?_ ?_
    · refine sm_rk (a := 12) (pts (rp_s hr) 0 16 12 rfl) kd_12 ?_
      refine sm_ck p1 ln_12 (fun b111 => ?_)
      refine sm_bind (q_X12_addsShare _ _ (rdI (a := 14) hr p1 b101 (Nat.le_of_ble_eq_true rfl)) _ _ (rdI (a := 12) hr p1 b111 (Nat.le_of_ble_eq_true rfl)) _ _ lj_1 _ _ hr) (fun q12 w12 e12 => ?_)
      exact q_X12_addsSaying_159 _ _ e12
    refine sm_ieq (rdI (a := 11) hr p1 b103 (Nat.le_of_ble_eq_true rfl)) li_7 ?_ ?_
    · refine sm_rk (a := 12) (pts (rp_s hr) 0 16 12 rfl) kd_12 ?_
      refine sm_ck p1 ln_12 (fun b113 => ?_)
      refine sm_bind (q_X12_addsShare _ _ (rdI (a := 14) hr p1 b101 (Nat.le_of_ble_eq_true rfl)) _ _ (rdI (a := 12) hr p1 b113 (Nat.le_of_ble_eq_true rfl)) _ _ lj_m1 _ _ hr) (fun q14 w14 e14 => ?_)
      exact q_X12_addsSaying_159 _ _ e14
    refine sm_rk (a := 16) (pts (rp_s hr) 0 21 16 rfl) kd_16 ?_
    refine sm_ck (rdI (a := 14) hr p1 b101 (Nat.le_of_ble_eq_true rfl)) ln_16 (fun b115 => ?_)
    refine sm_ieq (rdI (a := 16) hr (rdI (a := 14) hr p1 b101 (Nat.le_of_ble_eq_true rfl)) b115 (Nat.le_of_ble_eq_true rfl)) li_0 ?_ ?_
    · exact q_X12_addsSaying_159 _ _ hr
    · refine sm_rk (a := 16) (pts (rp_s hr) 0 21 16 rfl) kd_16 ?_
      refine sm_ck (rdI (a := 15) hr p1 b102 (Nat.le_of_ble_eq_true rfl)) ln_16 (fun b116 => ?_)
      refine sm_ieq (rdI (a := 16) hr (rdI (a := 15) hr p1 b102 (Nat.le_of_ble_eq_true rfl)) b116 (Nat.le_of_ble_eq_true rfl)) li_0 ?_ ?_
      · exact q_X12_addsSaying_159 _ _ hr
      · refine sm_bind (q_X12_addsBetter _ _ (rdI (a := 14) hr p1 b101 (Nat.le_of_ble_eq_true rfl)) _ _ (rdI (a := 15) hr p1 b102 (Nat.le_of_ble_eq_true rfl)) _ _ hr) (fun q17 w17 e17 => ?_)
        exact q_X12_addsSaying_159 _ _ e17
set_option maxHeartbeats 4000000 in
set_option maxRecDepth 100000 in
theorem q_X12_isHeard_22 (xs0 : Int32) (zs0 : Int) (ps0 : xs0 = mJ zs0) (ζ : ZS) (σ : HS) (hr : Rp ζ σ) : Sm QI (g_X12_isHeard_22 zs0 ζ) (f_X12_isHeard_22 xs0 σ) := by
    unfold g_X12_isHeard_22 f_X12_isHeard_22
    exact sm_zr ps0 hr
set_option maxHeartbeats 4000000 in
set_option maxRecDepth 100000 in
theorem q_X12_isHeard (x1 : Int32) (z1 : Int) (p1 : x1 = mJ z1) (ζ : ZS) (σ : HS) (hr : Rp ζ σ) : Sm QI (g_X12_isHeard z1 ζ) (f_X12_isHeard 0 x1 σ) := by
    unfold g_X12_isHeard f_X12_isHeard
    refine sm_rk (a := 10) (pts (rp_s hr) 0 14 10 rfl) kd_10 ?_
    refine sm_ck p1 ln_10 (fun b101 => ?_)
    refine sm_ieq (pand (pshr (hr.1 0 23) (rdI (a := 10) hr p1 b101 (Nat.le_of_ble_eq_true rfl))) li_1) li_1 ?_ ?_
    · exact q_X12_isHeard_22 _ _ li_1 _ _ hr
    · exact q_X12_isHeard_22 _ _ li_0 _ _ hr
set_option maxHeartbeats 4000000 in
set_option maxRecDepth 100000 in
theorem q_X12_beginsRows_7  : ∀ (n : Nat) (x1 : Int32) (z1 : Int) (p1 : x1 = mJ z1) (ζ : ZS) (σ : HS), Rp ζ σ → Sm QV (g_X12_beginsRows_7 n z1 ζ) (f_X12_beginsRows_7 0 n x1 σ) := by
  intro n
  induction n with
  | zero =>
    intro x1 z1 p1 ζ σ hr
    exact sm_none
  | succ n ih =>
    intro x1 z1 p1 ζ σ hr
    rw [g_X12_beginsRows_7.eq_2, f_X12_beginsRows_7.eq_2]
    refine sm_ile (hr.1 0 20) p1 ?_ ?_
    · exact sm_rv hr
    · refine sm_bind (q_X12_one _ _ p1 _ _ li_0 _ _ lj_1 _ _ hr) (fun q1 w1 e1 => ?_)
      refine sm_bind (q_X12_one _ _ p1 _ _ li_1 _ _ lj_1 _ _ e1.2) (fun q2 w2 e2 => ?_)
      refine sm_bind (q_X12_one _ _ p1 _ _ li_2 _ _ lj_1 _ _ e2.2) (fun q3 w3 e3 => ?_)
      refine sm_bind (q_X12_one _ _ p1 _ _ li_3 _ _ lj_1 _ _ e3.2) (fun q4 w4 e4 => ?_)
      refine sm_bind (q_X12_addsRow _ _ e1.1 _ _ e2.1 _ _ e3.1 _ _ e4.1 _ _ e4.2) (fun q5 w5 e5 => ?_)
      exact ih _ _ (pa p1 li_1) _ _ e5
set_option maxHeartbeats 4000000 in
set_option maxRecDepth 100000 in
theorem q_X12_beginsRows  (ζ : ZS) (σ : HS) (hr : Rp ζ σ) : Sm QV (g_X12_beginsRows ζ) (f_X12_beginsRows 0 σ) := by
    unfold g_X12_beginsRows f_X12_beginsRows
    have hr101 := rwI (a := 0) (k := 26) hr li_0
    exact q_X12_beginsRows_7 FU _ _ li_0 _ _ hr101
set_option maxHeartbeats 4000000 in
set_option maxRecDepth 100000 in
theorem q_X12_laysRows_30 (r6 : Int → ZS → Option ZS) (f6 : Int32 → HS → Option HS) (h6 : ∀ (x2 : Int32) (z2 : Int) (p2 : x2 = mJ z2) (ζ : ZS) (σ : HS), Rp ζ σ → Sm QV (r6 z2 ζ) (f6 x2 σ)) (x1 : Int32) (z1 : Int) (p1 : x1 = mJ z1) (x2 : Int32) (z2 : Int) (p2 : x2 = mJ z2) (ζ : ZS) (σ : HS) (hr : Rp ζ σ) : Sm QV (g_X12_laysRows_30 r6 z1 z2 ζ) (f_X12_laysRows_30 f6 0 x1 x2 σ) := by
    unfold g_X12_laysRows_30 f_X12_laysRows_30
    exact h6 _ _ (pa p2 li_1) _ _ hr
set_option maxHeartbeats 4000000 in
set_option maxRecDepth 100000 in
theorem q_X12_laysRows_6 (x1 : Int32) (z1 : Int) (p1 : x1 = mJ z1) : ∀ (n : Nat) (x2 : Int32) (z2 : Int) (p2 : x2 = mJ z2) (ζ : ZS) (σ : HS), Rp ζ σ → Sm QV (g_X12_laysRows_6 z1 n z2 ζ) (f_X12_laysRows_6 0 x1 n x2 σ) := by
  intro n
  induction n with
  | zero =>
    intro x2 z2 p2 ζ σ hr
    exact sm_none
  | succ n ih =>
    intro x2 z2 p2 ζ σ hr
    rw [g_X12_laysRows_6.eq_2, f_X12_laysRows_6.eq_2]
    refine sm_rk (a := 9) (pts (rp_s hr) 0 13 9 rfl) kd_9 ?_
    refine sm_ck li_0 ln_9 (fun b101 => ?_)
    refine sm_ile (rdI (a := 9) hr li_0 b101 (Nat.le_of_ble_eq_true rfl)) p2 ?_ ?_
    · exact sm_rv hr
    · refine sm_ieq (pand (pshr p1 p2) li_1) li_1 ?_ ?_
      · refine sm_bind (q_X12_addsSaying _ _ p2 _ _ hr) (fun q2 w2 e2 => ?_)
        exact q_X12_laysRows_30 _ _ ih _ _ p1 _ _ p2 _ _ e2
      · exact q_X12_laysRows_30 _ _ ih _ _ p1 _ _ p2 _ _ hr
set_option maxHeartbeats 4000000 in
set_option maxRecDepth 100000 in
theorem q_X12_laysRows (x1 : Int32) (z1 : Int) (p1 : x1 = mJ z1) (ζ : ZS) (σ : HS) (hr : Rp ζ σ) : Sm QV (g_X12_laysRows z1 ζ) (f_X12_laysRows 0 x1 σ) := by
    unfold g_X12_laysRows f_X12_laysRows
    refine sm_bind (q_X12_beginsRows _ _ hr) (fun q1 w1 e1 => ?_)
    exact q_X12_laysRows_6 _ _ p1 FU _ _ li_0 _ _ e1
set_option maxHeartbeats 4000000 in
set_option maxRecDepth 100000 in
theorem q_X12_heard_30 (r4 : Int → Int → ZS → Option (Int × ZS)) (f4 : Int32 → Int32 → HS → Option (Int32 × HS)) (h4 : ∀ (x1 : Int32) (z1 : Int) (p1 : x1 = mJ z1) (x2 : Int32) (z2 : Int) (p2 : x2 = mJ z2) (ζ : ZS) (σ : HS), Rp ζ σ → Sm QI (r4 z1 z2 ζ) (f4 x1 x2 σ)) (x2 : Int32) (z2 : Int) (p2 : x2 = mJ z2) (xs0 : Int32) (zs0 : Int) (ps0 : xs0 = mJ zs0) (xs1 : Int32) (zs1 : Int) (ps1 : xs1 = mJ zs1) (ζ : ZS) (σ : HS) (hr : Rp ζ σ) : Sm QI (g_X12_heard_30 r4 z2 zs0 zs1 ζ) (f_X12_heard_30 f4 0 x2 xs0 xs1 σ) := by
    unfold g_X12_heard_30 f_X12_heard_30
    exact h4 _ _ (por ps1 ps0) _ _ (pa p2 li_1) _ _ hr
set_option maxHeartbeats 4000000 in
set_option maxRecDepth 100000 in
theorem q_X12_heard_4  : ∀ (n : Nat) (x1 : Int32) (z1 : Int) (p1 : x1 = mJ z1) (x2 : Int32) (z2 : Int) (p2 : x2 = mJ z2) (ζ : ZS) (σ : HS), Rp ζ σ → Sm QI (g_X12_heard_4 n z1 z2 ζ) (f_X12_heard_4 0 n x1 x2 σ) := by
  intro n
  induction n with
  | zero =>
    intro x1 z1 p1 x2 z2 p2 ζ σ hr
    exact sm_none
  | succ n ih =>
    intro x1 z1 p1 x2 z2 p2 ζ σ hr
    rw [g_X12_heard_4.eq_2, f_X12_heard_4.eq_2]
    refine sm_rk (a := 9) (pts (rp_s hr) 0 13 9 rfl) kd_9 ?_
    refine sm_ck li_0 ln_9 (fun b101 => ?_)
    refine sm_ile (rdI (a := 9) hr li_0 b101 (Nat.le_of_ble_eq_true rfl)) p2 ?_ ?_
    · exact sm_ri p1 hr
    · refine sm_bind (q_X12_isHeard _ _ p2 _ _ hr) (fun q2 w2 e2 => ?_)
      refine sm_ieq e2.1 li_0 ?_ ?_
      · exact q_X12_heard_30 _ _ ih _ _ p2 _ _ li_0 _ _ p1 _ _ e2.2
      · exact q_X12_heard_30 _ _ ih _ _ p2 _ _ (pshl li_1 p2) _ _ p1 _ _ e2.2
set_option maxHeartbeats 4000000 in
set_option maxRecDepth 100000 in
theorem q_X12_heard  (ζ : ZS) (σ : HS) (hr : Rp ζ σ) : Sm QI (g_X12_heard ζ) (f_X12_heard 0 σ) := by
    unfold g_X12_heard f_X12_heard
    exact q_X12_heard_4 FU _ _ li_0 _ _ li_0 _ _ hr
set_option maxHeartbeats 4000000 in
set_option maxRecDepth 100000 in
theorem q_X12_common_28  : ∀ (n : Nat) (x4 : Int64) (z4 : Int) (p4 : x4 = mL z4) (x6 : Int64) (z6 : Int) (p6 : x6 = mL z6) (ζ : ZS) (σ : HS), Rp ζ σ → Sm QJ (g_X12_common_28 n z4 z6 ζ) (f_X12_common_28 n x4 x6 σ) := by
  intro n
  induction n with
  | zero =>
    intro x4 z4 p4 x6 z6 p6 ζ σ hr
    exact sm_none
  | succ n ih =>
    intro x4 z4 p4 x6 z6 p6 ζ σ hr
    rw [g_X12_common_28.eq_2, f_X12_common_28.eq_2]
    refine sm_jeq p6 lj_0 ?_ ?_
    · exact sm_rj p4 hr
    · refine sm_nzJ p6 (fun b101 => ?_)
      exact ih _ _ p6 _ _ (premJ p4 p6 b101) _ _ hr
set_option maxHeartbeats 4000000 in
set_option maxRecDepth 100000 in
theorem q_X12_common_26 (x4 : Int64) (z4 : Int) (p4 : x4 = mL z4) (xs0 : Int64) (zs0 : Int) (ps0 : xs0 = mL zs0) (ζ : ZS) (σ : HS) (hr : Rp ζ σ) : Sm QJ (g_X12_common_26 z4 zs0 ζ) (f_X12_common_26 x4 xs0 σ) := by
    unfold g_X12_common_26 f_X12_common_26
    exact q_X12_common_28 FU _ _ p4 _ _ ps0 _ _ hr
set_option maxHeartbeats 4000000 in
set_option maxRecDepth 100000 in
theorem q_X12_common_12 (x2 : Int64) (z2 : Int) (p2 : x2 = mL z2) (xs0 : Int64) (zs0 : Int) (ps0 : xs0 = mL zs0) (ζ : ZS) (σ : HS) (hr : Rp ζ σ) : Sm QJ (g_X12_common_12 z2 zs0 ζ) (f_X12_common_12 x2 xs0 σ) := by
    unfold g_X12_common_12 f_X12_common_12
    refine sm_jle lj_0 p2 ?_ ?_
    · exact q_X12_common_26 _ _ ps0 _ _ p2 _ _ hr
    · exact q_X12_common_26 _ _ ps0 _ _ (pnJ p2) _ _ hr
set_option maxHeartbeats 4000000 in
set_option maxRecDepth 100000 in
theorem q_X12_common (x0 : Int64) (z0 : Int) (p0 : x0 = mL z0) (x2 : Int64) (z2 : Int) (p2 : x2 = mL z2) (ζ : ZS) (σ : HS) (hr : Rp ζ σ) : Sm QJ (g_X12_common z0 z2 ζ) (f_X12_common x0 x2 σ) := by
    unfold g_X12_common f_X12_common
    refine sm_jle lj_0 p0 ?_ ?_
    · exact q_X12_common_12 _ _ p2 _ _ p0 _ _ hr
    · exact q_X12_common_12 _ _ p2 _ _ (pnJ p0) _ _ hr
set_option maxHeartbeats 4000000 in
set_option maxRecDepth 100000 in
theorem q_X12_times_6 (x1 : Int32) (z1 : Int) (p1 : x1 = mJ z1) (x2 : Int32) (z2 : Int) (p2 : x2 = mJ z2) (x3 : Int32) (z3 : Int) (p3 : x3 = mJ z3) : ∀ (n : Nat) (x4 : Int64) (z4 : Int) (p4 : x4 = mL z4) (x6 : Int32) (z6 : Int) (p6 : x6 = mJ z6) (ζ : ZS) (σ : HS), Rp ζ σ → Sm QJ (g_X12_times_6 z1 z2 z3 n z4 z6 ζ) (f_X12_times_6 0 x1 x2 x3 n x4 x6 σ) := by
  intro n
  induction n with
  | zero =>
    intro x4 z4 p4 x6 z6 p6 ζ σ hr
    exact sm_none
  | succ n ih =>
    intro x4 z4 p4 x6 z6 p6 ζ σ hr
    rw [g_X12_times_6.eq_2, f_X12_times_6.eq_2]
    refine sm_ile (hr.1 0 20) p6 ?_ ?_
    · exact sm_rj p4 hr
    · refine sm_rk (a := 19) (pts (rp_s hr) 0 27 19 rfl) kd_19 ?_
      refine sm_ck (pa (pm li_4 p1) p6) ln_19 (fun b101 => ?_)
      refine sm_rk (a := 22) (pts (rp_s hr) 0 30 22 rfl) kd_22 ?_
      refine sm_ck (pa (pm li_4 (pa (pm li_72 p2) p3)) p6) ln_22 (fun b102 => ?_)
      exact ih _ _ (paJ p4 (pmJ (rdJ (a := 19) hr (pa (pm li_4 p1) p6) b101 (Nat.le_of_ble_eq_true rfl)) (rdJ (a := 22) hr (pa (pm li_4 (pa (pm li_72 p2) p3)) p6) b102 (Nat.le_of_ble_eq_true rfl)))) _ _ (pa p6 li_1) _ _ hr
set_option maxHeartbeats 4000000 in
set_option maxRecDepth 100000 in
theorem q_X12_times (x1 : Int32) (z1 : Int) (p1 : x1 = mJ z1) (x2 : Int32) (z2 : Int) (p2 : x2 = mJ z2) (x3 : Int32) (z3 : Int) (p3 : x3 = mJ z3) (ζ : ZS) (σ : HS) (hr : Rp ζ σ) : Sm QJ (g_X12_times z1 z2 z3 ζ) (f_X12_times 0 x1 x2 x3 σ) := by
    unfold g_X12_times f_X12_times
    exact q_X12_times_6 _ _ p1 _ _ p2 _ _ p3 FU _ _ lj_0 _ _ li_0 _ _ hr
set_option maxHeartbeats 4000000 in
set_option maxRecDepth 100000 in
theorem q_X12_two (x0 : Int64) (z0 : Int) (p0 : x0 = mL z0) (x2 : Int64) (z2 : Int) (p2 : x2 = mL z2) (x4 : Int64) (z4 : Int) (p4 : x4 = mL z4) (x6 : Int64) (z6 : Int) (p6 : x6 = mL z6) (ζ : ZS) (σ : HS) (hr : Rp ζ σ) : Sm QJ (g_X12_two z0 z2 z4 z6 ζ) (f_X12_two x0 x2 x4 x6 σ) := by
    unfold g_X12_two f_X12_two
    exact sm_rj (psJ (pmJ p0 p6) (pmJ p2 p4)) hr
set_option maxHeartbeats 4000000 in
set_option maxRecDepth 100000 in
theorem q_X12_three (x1 : Int32) (z1 : Int) (p1 : x1 = mJ z1) (x2 : Int32) (z2 : Int) (p2 : x2 = mJ z2) (x3 : Int32) (z3 : Int) (p3 : x3 = mJ z3) (x4 : Int32) (z4 : Int) (p4 : x4 = mJ z4) (x5 : Int32) (z5 : Int) (p5 : x5 = mJ z5) (x6 : Int32) (z6 : Int) (p6 : x6 = mJ z6) (ζ : ZS) (σ : HS) (hr : Rp ζ σ) : Sm QJ (g_X12_three z1 z2 z3 z4 z5 z6 ζ) (f_X12_three 0 x1 x2 x3 x4 x5 x6 σ) := by
    unfold g_X12_three f_X12_three
    refine sm_rk (a := 19) (pts (rp_s hr) 0 27 19 rfl) kd_19 ?_
    refine sm_ck (pa (pm li_4 p1) p4) ln_19 (fun b101 => ?_)
    refine sm_rk (a := 19) (pts (rp_s hr) 0 27 19 rfl) kd_19 ?_
    refine sm_ck (pa (pm li_4 p2) p5) ln_19 (fun b102 => ?_)
    refine sm_rk (a := 19) (pts (rp_s hr) 0 27 19 rfl) kd_19 ?_
    refine sm_ck (pa (pm li_4 p2) p6) ln_19 (fun b103 => ?_)
    refine sm_rk (a := 19) (pts (rp_s hr) 0 27 19 rfl) kd_19 ?_
    refine sm_ck (pa (pm li_4 p3) p5) ln_19 (fun b104 => ?_)
    refine sm_rk (a := 19) (pts (rp_s hr) 0 27 19 rfl) kd_19 ?_
    refine sm_ck (pa (pm li_4 p3) p6) ln_19 (fun b105 => ?_)
    refine sm_bind (q_X12_two _ _ (rdJ (a := 19) hr (pa (pm li_4 p2) p5) b102 (Nat.le_of_ble_eq_true rfl)) _ _ (rdJ (a := 19) hr (pa (pm li_4 p2) p6) b103 (Nat.le_of_ble_eq_true rfl)) _ _ (rdJ (a := 19) hr (pa (pm li_4 p3) p5) b104 (Nat.le_of_ble_eq_true rfl)) _ _ (rdJ (a := 19) hr (pa (pm li_4 p3) p6) b105 (Nat.le_of_ble_eq_true rfl)) _ _ hr) (fun q6 w6 e6 => ?_)
    refine sm_rk (a := 19) (pts (rp_s e6.2) 0 27 19 rfl) kd_19 ?_
    refine sm_ck (pa (pm li_4 p1) p5) ln_19 (fun b107 => ?_)
    refine sm_rk (a := 19) (pts (rp_s e6.2) 0 27 19 rfl) kd_19 ?_
    refine sm_ck (pa (pm li_4 p2) p4) ln_19 (fun b108 => ?_)
    refine sm_rk (a := 19) (pts (rp_s e6.2) 0 27 19 rfl) kd_19 ?_
    refine sm_ck (pa (pm li_4 p2) p6) ln_19 (fun b109 => ?_)
    refine sm_rk (a := 19) (pts (rp_s e6.2) 0 27 19 rfl) kd_19 ?_
    refine sm_ck (pa (pm li_4 p3) p4) ln_19 (fun b110 => ?_)
    refine sm_rk (a := 19) (pts (rp_s e6.2) 0 27 19 rfl) kd_19 ?_
    refine sm_ck (pa (pm li_4 p3) p6) ln_19 (fun b111 => ?_)
    refine sm_bind (q_X12_two _ _ (rdJ (a := 19) e6.2 (pa (pm li_4 p2) p4) b108 (Nat.le_of_ble_eq_true rfl)) _ _ (rdJ (a := 19) e6.2 (pa (pm li_4 p2) p6) b109 (Nat.le_of_ble_eq_true rfl)) _ _ (rdJ (a := 19) e6.2 (pa (pm li_4 p3) p4) b110 (Nat.le_of_ble_eq_true rfl)) _ _ (rdJ (a := 19) e6.2 (pa (pm li_4 p3) p6) b111 (Nat.le_of_ble_eq_true rfl)) _ _ e6.2) (fun q12 w12 e12 => ?_)
    refine sm_rk (a := 19) (pts (rp_s e12.2) 0 27 19 rfl) kd_19 ?_
    refine sm_ck (pa (pm li_4 p1) p6) ln_19 (fun b113 => ?_)
    refine sm_rk (a := 19) (pts (rp_s e12.2) 0 27 19 rfl) kd_19 ?_
    refine sm_ck (pa (pm li_4 p2) p4) ln_19 (fun b114 => ?_)
    refine sm_rk (a := 19) (pts (rp_s e12.2) 0 27 19 rfl) kd_19 ?_
    refine sm_ck (pa (pm li_4 p2) p5) ln_19 (fun b115 => ?_)
    refine sm_rk (a := 19) (pts (rp_s e12.2) 0 27 19 rfl) kd_19 ?_
    refine sm_ck (pa (pm li_4 p3) p4) ln_19 (fun b116 => ?_)
    refine sm_rk (a := 19) (pts (rp_s e12.2) 0 27 19 rfl) kd_19 ?_
    refine sm_ck (pa (pm li_4 p3) p5) ln_19 (fun b117 => ?_)
    refine sm_bind (q_X12_two _ _ (rdJ (a := 19) e12.2 (pa (pm li_4 p2) p4) b114 (Nat.le_of_ble_eq_true rfl)) _ _ (rdJ (a := 19) e12.2 (pa (pm li_4 p2) p5) b115 (Nat.le_of_ble_eq_true rfl)) _ _ (rdJ (a := 19) e12.2 (pa (pm li_4 p3) p4) b116 (Nat.le_of_ble_eq_true rfl)) _ _ (rdJ (a := 19) e12.2 (pa (pm li_4 p3) p5) b117 (Nat.le_of_ble_eq_true rfl)) _ _ e12.2) (fun q18 w18 e18 => ?_)
    exact sm_rj (paJ (psJ (pmJ (rdJ (a := 19) hr (pa (pm li_4 p1) p4) b101 (Nat.le_of_ble_eq_true rfl)) e6.1) (pmJ (rdJ (a := 19) e6.2 (pa (pm li_4 p1) p5) b107 (Nat.le_of_ble_eq_true rfl)) e12.1)) (pmJ (rdJ (a := 19) e12.2 (pa (pm li_4 p1) p6) b113 (Nat.le_of_ble_eq_true rfl)) e18.1)) e18.2
set_option maxHeartbeats 4000000 in
set_option maxRecDepth 100000 in
theorem q_X12_crosses_300  (ζ : ZS) (σ : HS) (hr : Rp ζ σ) : Sm QV (g_X12_crosses_300 ζ) (f_X12_crosses_300 σ) := by
    unfold g_X12_crosses_300 f_X12_crosses_300
    exact sm_rv hr
set_option maxHeartbeats 4000000 in
set_option maxRecDepth 100000 in
theorem q_X12_crosses_3 (x1 : Int32) (z1 : Int) (p1 : x1 = mJ z1) (x2 : Int32) (z2 : Int) (p2 : x2 = mJ z2) (x3 : Int32) (z3 : Int) (p3 : x3 = mJ z3) : ∀ (n : Nat) (x4 : Int32) (z4 : Int) (p4 : x4 = mJ z4) (ζ : ZS) (σ : HS), Rp ζ σ → Sm QV (g_X12_crosses_3 z1 z2 z3 n z4 ζ) (f_X12_crosses_3 0 x1 x2 x3 n x4 σ) := by
  intro n
  induction n with
  | zero =>
    intro x4 z4 p4 ζ σ hr
    exact sm_none
  | succ n ih =>
    intro x4 z4 p4 ζ σ hr
    rw [g_X12_crosses_3.eq_2, f_X12_crosses_3.eq_2]
    refine sm_ile li_4 p4 ?_ ?_
    · refine sm_ieq (hr.1 0 20) li_1 ?_ ?_
      · refine sm_rk (a := 23) (pts (rp_s hr) 0 31 23 rfl) kd_23 ?_
        refine sm_ck li_0 ln_23 (fun b140 => ?_)
        have hr141 := raJ (a := 23) hr li_0 b140 (Nat.le_of_ble_eq_true rfl) lj_1
        exact q_X12_crosses_300 _ _ hr141
      · refine sm_ieq (hr.1 0 20) li_2 ?_ ?_
        · refine sm_rk (a := 23) (pts (rp_s hr) 0 31 23 rfl) kd_23 ?_
          refine sm_rk (a := 19) (pts (rp_s hr) 0 27 19 rfl) kd_19 ?_
          refine sm_ck (pa (pm li_4 p1) li_1) ln_19 (fun b134 => ?_)
          refine sm_ck li_0 ln_23 (fun b135 => ?_)
          have hr136 := raJ (a := 23) hr li_0 b135 (Nat.le_of_ble_eq_true rfl) (rdJ (a := 19) hr (pa (pm li_4 p1) li_1) b134 (Nat.le_of_ble_eq_true rfl))
          refine sm_rk (a := 23) (pts (rp_s hr136) 0 31 23 rfl) kd_23 ?_
          refine sm_rk (a := 19) (pts (rp_s hr136) 0 27 19 rfl) kd_19 ?_
          refine sm_ck (pm li_4 p1) ln_19 (fun b137 => ?_)
          refine sm_ck li_1 ln_23 (fun b138 => ?_)
          have hr139 := raJ (a := 23) hr136 li_1 b138 (Nat.le_of_ble_eq_true rfl) (pnJ (rdJ (a := 19) hr136 (pm li_4 p1) b137 (Nat.le_of_ble_eq_true rfl)))
          exact q_X12_crosses_300 _ _ hr139
        · refine sm_ieq (hr.1 0 20) li_3 ?_ ?_
          · refine sm_rk (a := 23) (pts (rp_s hr) 0 31 23 rfl) kd_23 ?_
            refine sm_rk (a := 19) (pts (rp_s hr) 0 27 19 rfl) kd_19 ?_
            refine sm_ck (pa (pm li_4 p1) li_1) ln_19 (fun b113 => ?_)
            refine sm_rk (a := 19) (pts (rp_s hr) 0 27 19 rfl) kd_19 ?_
            refine sm_ck (pa (pm li_4 p1) li_2) ln_19 (fun b114 => ?_)
            refine sm_rk (a := 19) (pts (rp_s hr) 0 27 19 rfl) kd_19 ?_
            refine sm_ck (pa (pm li_4 p2) li_1) ln_19 (fun b115 => ?_)
            refine sm_rk (a := 19) (pts (rp_s hr) 0 27 19 rfl) kd_19 ?_
            refine sm_ck (pa (pm li_4 p2) li_2) ln_19 (fun b116 => ?_)
            refine sm_bind (q_X12_two _ _ (rdJ (a := 19) hr (pa (pm li_4 p1) li_1) b113 (Nat.le_of_ble_eq_true rfl)) _ _ (rdJ (a := 19) hr (pa (pm li_4 p1) li_2) b114 (Nat.le_of_ble_eq_true rfl)) _ _ (rdJ (a := 19) hr (pa (pm li_4 p2) li_1) b115 (Nat.le_of_ble_eq_true rfl)) _ _ (rdJ (a := 19) hr (pa (pm li_4 p2) li_2) b116 (Nat.le_of_ble_eq_true rfl)) _ _ hr) (fun q17 w17 e17 => ?_)
            refine sm_ck li_0 ln_23 (fun b118 => ?_)
            have hr119 := raJ (a := 23) e17.2 li_0 b118 (Nat.le_of_ble_eq_true rfl) e17.1
            refine sm_rk (a := 23) (pts (rp_s hr119) 0 31 23 rfl) kd_23 ?_
            refine sm_rk (a := 19) (pts (rp_s hr119) 0 27 19 rfl) kd_19 ?_
            refine sm_ck (pm li_4 p1) ln_19 (fun b120 => ?_)
            refine sm_rk (a := 19) (pts (rp_s hr119) 0 27 19 rfl) kd_19 ?_
            refine sm_ck (pa (pm li_4 p1) li_2) ln_19 (fun b121 => ?_)
            refine sm_rk (a := 19) (pts (rp_s hr119) 0 27 19 rfl) kd_19 ?_
            refine sm_ck (pm li_4 p2) ln_19 (fun b122 => ?_)
            refine sm_rk (a := 19) (pts (rp_s hr119) 0 27 19 rfl) kd_19 ?_
            refine sm_ck (pa (pm li_4 p2) li_2) ln_19 (fun b123 => ?_)
            refine sm_bind (q_X12_two _ _ (rdJ (a := 19) hr119 (pm li_4 p1) b120 (Nat.le_of_ble_eq_true rfl)) _ _ (rdJ (a := 19) hr119 (pa (pm li_4 p1) li_2) b121 (Nat.le_of_ble_eq_true rfl)) _ _ (rdJ (a := 19) hr119 (pm li_4 p2) b122 (Nat.le_of_ble_eq_true rfl)) _ _ (rdJ (a := 19) hr119 (pa (pm li_4 p2) li_2) b123 (Nat.le_of_ble_eq_true rfl)) _ _ hr119) (fun q24 w24 e24 => ?_)
            refine sm_ck li_1 ln_23 (fun b125 => ?_)
            have hr126 := raJ (a := 23) e24.2 li_1 b125 (Nat.le_of_ble_eq_true rfl) (pnJ e24.1)
            refine sm_rk (a := 23) (pts (rp_s hr126) 0 31 23 rfl) kd_23 ?_
            refine sm_rk (a := 19) (pts (rp_s hr126) 0 27 19 rfl) kd_19 ?_
            refine sm_ck (pm li_4 p1) ln_19 (fun b127 => ?_)
            refine sm_rk (a := 19) (pts (rp_s hr126) 0 27 19 rfl) kd_19 ?_
            refine sm_ck (pa (pm li_4 p1) li_1) ln_19 (fun b128 => ?_)
            refine sm_rk (a := 19) (pts (rp_s hr126) 0 27 19 rfl) kd_19 ?_
            refine sm_ck (pm li_4 p2) ln_19 (fun b129 => ?_)
            refine sm_rk (a := 19) (pts (rp_s hr126) 0 27 19 rfl) kd_19 ?_
            refine sm_ck (pa (pm li_4 p2) li_1) ln_19 (fun b130 => ?_)
            refine sm_bind (q_X12_two _ _ (rdJ (a := 19) hr126 (pm li_4 p1) b127 (Nat.le_of_ble_eq_true rfl)) _ _ (rdJ (a := 19) hr126 (pa (pm li_4 p1) li_1) b128 (Nat.le_of_ble_eq_true rfl)) _ _ (rdJ (a := 19) hr126 (pm li_4 p2) b129 (Nat.le_of_ble_eq_true rfl)) _ _ (rdJ (a := 19) hr126 (pa (pm li_4 p2) li_1) b130 (Nat.le_of_ble_eq_true rfl)) _ _ hr126) (fun q31 w31 e31 => ?_)
            refine sm_ck li_2 ln_23 (fun b132 => ?_)
            have hr133 := raJ (a := 23) e31.2 li_2 b132 (Nat.le_of_ble_eq_true rfl) e31.1
            exact q_X12_crosses_300 _ _ hr133
          · refine sm_rk (a := 23) (pts (rp_s hr) 0 31 23 rfl) kd_23 ?_
            refine sm_bind (q_X12_three _ _ p1 _ _ p2 _ _ p3 _ _ li_1 _ _ li_2 _ _ li_3 _ _ hr) (fun q1 w1 e1 => ?_)
            refine sm_ck li_0 ln_23 (fun b102 => ?_)
            have hr103 := raJ (a := 23) e1.2 li_0 b102 (Nat.le_of_ble_eq_true rfl) e1.1
            refine sm_rk (a := 23) (pts (rp_s hr103) 0 31 23 rfl) kd_23 ?_
            refine sm_bind (q_X12_three _ _ p1 _ _ p2 _ _ p3 _ _ li_0 _ _ li_2 _ _ li_3 _ _ hr103) (fun q4 w4 e4 => ?_)
            refine sm_ck li_1 ln_23 (fun b105 => ?_)
            have hr106 := raJ (a := 23) e4.2 li_1 b105 (Nat.le_of_ble_eq_true rfl) (pnJ e4.1)
            refine sm_rk (a := 23) (pts (rp_s hr106) 0 31 23 rfl) kd_23 ?_
            refine sm_bind (q_X12_three _ _ p1 _ _ p2 _ _ p3 _ _ li_0 _ _ li_1 _ _ li_3 _ _ hr106) (fun q7 w7 e7 => ?_)
            refine sm_ck li_2 ln_23 (fun b108 => ?_)
            have hr109 := raJ (a := 23) e7.2 li_2 b108 (Nat.le_of_ble_eq_true rfl) e7.1
            refine sm_rk (a := 23) (pts (rp_s hr109) 0 31 23 rfl) kd_23 ?_
            refine sm_bind (q_X12_three _ _ p1 _ _ p2 _ _ p3 _ _ li_0 _ _ li_1 _ _ li_2 _ _ hr109) (fun q10 w10 e10 => ?_)
            refine sm_ck li_3 ln_23 (fun b111 => ?_)
            have hr112 := raJ (a := 23) e10.2 li_3 b111 (Nat.le_of_ble_eq_true rfl) (pnJ e10.1)
            exact q_X12_crosses_300 _ _ hr112
    · refine sm_rk (a := 23) (pts (rp_s hr) 0 31 23 rfl) kd_23 ?_
      refine sm_ck p4 ln_23 (fun b142 => ?_)
      have hr143 := raJ (a := 23) hr p4 b142 (Nat.le_of_ble_eq_true rfl) lj_0
      exact ih _ _ (pa p4 li_1) _ _ hr143
set_option maxHeartbeats 4000000 in
set_option maxRecDepth 100000 in
theorem q_X12_crosses (x1 : Int32) (z1 : Int) (p1 : x1 = mJ z1) (x2 : Int32) (z2 : Int) (p2 : x2 = mJ z2) (x3 : Int32) (z3 : Int) (p3 : x3 = mJ z3) (ζ : ZS) (σ : HS) (hr : Rp ζ σ) : Sm QV (g_X12_crosses z1 z2 z3 ζ) (f_X12_crosses 0 x1 x2 x3 σ) := by
    unfold g_X12_crosses f_X12_crosses
    exact q_X12_crosses_3 _ _ p1 _ _ p2 _ _ p3 FU _ _ li_0 _ _ hr
set_option maxHeartbeats 4000000 in
set_option maxRecDepth 100000 in
theorem q_X12_keepsFound_223 (r160 : Int → ZS → Option ZS) (f160 : Int32 → HS → Option HS) (h160 : ∀ (x8 : Int32) (z8 : Int) (p8 : x8 = mJ z8) (ζ : ZS) (σ : HS), Rp ζ σ → Sm QV (r160 z8 ζ) (f160 x8 σ)) (r173 : Int → Int → ZS → Option ZS) (f173 : Int32 → Int32 → HS → Option HS) (h173 : ∀ (x9 : Int32) (z9 : Int) (p9 : x9 = mJ z9) (x10 : Int32) (z10 : Int) (p10 : x10 = mJ z10) (ζ : ZS) (σ : HS), Rp ζ σ → Sm QV (r173 z9 z10 ζ) (f173 x9 x10 σ)) (x1 : Int32) (z1 : Int) (p1 : x1 = mJ z1) (x6 : Int32) (z6 : Int) (p6 : x6 = mJ z6) (x7 : Int32) (z7 : Int) (p7 : x7 = mJ z7) (x8 : Int32) (z8 : Int) (p8 : x8 = mJ z8) (x10 : Int32) (z10 : Int) (p10 : x10 = mJ z10) (xs0 : Int32) (zs0 : Int) (ps0 : xs0 = mJ zs0) (ζ : ZS) (σ : HS) (hr : Rp ζ σ) : Sm QV (g_X12_keepsFound_223 r160 r173 z1 z6 z7 z8 z10 zs0 ζ) (f_X12_keepsFound_223 f160 f173 0 x1 x6 x7 x8 x10 xs0 σ) := by
    unfold g_X12_keepsFound_223 f_X12_keepsFound_223
    exact h173 _ _ ps0 _ _ (pa p10 li_1) _ _ hr
set_option maxHeartbeats 4000000 in
set_option maxRecDepth 100000 in
theorem q_X12_keepsFound_222 (r160 : Int → ZS → Option ZS) (f160 : Int32 → HS → Option HS) (h160 : ∀ (x8 : Int32) (z8 : Int) (p8 : x8 = mJ z8) (ζ : ZS) (σ : HS), Rp ζ σ → Sm QV (r160 z8 ζ) (f160 x8 σ)) (r173 : Int → Int → ZS → Option ZS) (f173 : Int32 → Int32 → HS → Option HS) (h173 : ∀ (x9 : Int32) (z9 : Int) (p9 : x9 = mJ z9) (x10 : Int32) (z10 : Int) (p10 : x10 = mJ z10) (ζ : ZS) (σ : HS), Rp ζ σ → Sm QV (r173 z9 z10 ζ) (f173 x9 x10 σ)) (x1 : Int32) (z1 : Int) (p1 : x1 = mJ z1) (x6 : Int32) (z6 : Int) (p6 : x6 = mJ z6) (x7 : Int32) (z7 : Int) (p7 : x7 = mJ z7) (x8 : Int32) (z8 : Int) (p8 : x8 = mJ z8) (x10 : Int32) (z10 : Int) (p10 : x10 = mJ z10) (ζ : ZS) (σ : HS) (hr : Rp ζ σ) : Sm QV (g_X12_keepsFound_222 r160 r173 z1 z6 z7 z8 z10 ζ) (f_X12_keepsFound_222 f160 f173 0 x1 x6 x7 x8 x10 σ) := by
    unfold g_X12_keepsFound_222 f_X12_keepsFound_222
    exact q_X12_keepsFound_223 _ _ h160 _ _ h173 _ _ p1 _ _ p6 _ _ p7 _ _ p8 _ _ p10 _ _ li_0 _ _ hr
set_option maxHeartbeats 4000000 in
set_option maxRecDepth 100000 in
theorem q_X12_keepsFound_173 (x1 : Int32) (z1 : Int) (p1 : x1 = mJ z1) (x6 : Int32) (z6 : Int) (p6 : x6 = mJ z6) (x7 : Int32) (z7 : Int) (p7 : x7 = mJ z7) (x8 : Int32) (z8 : Int) (p8 : x8 = mJ z8) (r160 : Int → ZS → Option ZS) (f160 : Int32 → HS → Option HS) (h160 : ∀ (x8 : Int32) (z8 : Int) (p8 : x8 = mJ z8) (ζ : ZS) (σ : HS), Rp ζ σ → Sm QV (r160 z8 ζ) (f160 x8 σ)) : ∀ (n : Nat) (x9 : Int32) (z9 : Int) (p9 : x9 = mJ z9) (x10 : Int32) (z10 : Int) (p10 : x10 = mJ z10) (ζ : ZS) (σ : HS), Rp ζ σ → Sm QV (g_X12_keepsFound_173 z1 z6 z7 z8 r160 n z9 z10 ζ) (f_X12_keepsFound_173 0 x1 x6 x7 x8 f160 n x9 x10 σ) := by
  intro n
  induction n with
  | zero =>
    intro x9 z9 p9 x10 z10 p10 ζ σ hr
    exact sm_none
  | succ n ih =>
    intro x9 z9 p9 x10 z10 p10 ζ σ hr
    rw [g_X12_keepsFound_173.eq_2, f_X12_keepsFound_173.eq_2]
    refine sm_ile (hr.1 0 20) p10 ?_ ?_
    · refine sm_ieq p9 li_0 ?_ ?_
      · exact h160 _ _ (pa p8 li_1) _ _ hr
      · exact sm_rv hr
    · refine sm_ieq p9 li_0 ?_ ?_
      · exact q_X12_keepsFound_222 _ _ h160 _ _ ih _ _ p1 _ _ p6 _ _ p7 _ _ p8 _ _ p10 _ _ hr
      · refine sm_rk (a := 22) (pts (rp_s hr) 0 30 22 rfl) kd_22 ?_
        refine sm_ck (pa (pm li_4 (pa (pm li_72 p1) p8)) p10) ln_22 (fun b101 => ?_)
        refine sm_rk (a := 22) (pts (rp_s hr) 0 30 22 rfl) kd_22 ?_
        refine sm_ck (pa p7 p10) ln_22 (fun b102 => ?_)
        refine sm_jeq (rdJ (a := 22) hr (pa (pm li_4 (pa (pm li_72 p1) p8)) p10) b101 (Nat.le_of_ble_eq_true rfl)) (rdJ (a := 22) hr (pa p7 p10) b102 (Nat.le_of_ble_eq_true rfl)) ?_ ?_
        · exact q_X12_keepsFound_223 _ _ h160 _ _ ih _ _ p1 _ _ p6 _ _ p7 _ _ p8 _ _ p10 _ _ li_1 _ _ hr
        · exact q_X12_keepsFound_222 _ _ h160 _ _ ih _ _ p1 _ _ p6 _ _ p7 _ _ p8 _ _ p10 _ _ hr
set_option maxHeartbeats 4000000 in
set_option maxRecDepth 100000 in
theorem q_X12_keepsFound_160 (x1 : Int32) (z1 : Int) (p1 : x1 = mJ z1) (x6 : Int32) (z6 : Int) (p6 : x6 = mJ z6) (x7 : Int32) (z7 : Int) (p7 : x7 = mJ z7) : ∀ (n : Nat) (x8 : Int32) (z8 : Int) (p8 : x8 = mJ z8) (ζ : ZS) (σ : HS), Rp ζ σ → Sm QV (g_X12_keepsFound_160 z1 z6 z7 n z8 ζ) (f_X12_keepsFound_160 0 x1 x6 x7 n x8 σ) := by
  intro n
  induction n with
  | zero =>
    intro x8 z8 p8 ζ σ hr
    exact sm_none
  | succ n ih =>
    intro x8 z8 p8 ζ σ hr
    rw [g_X12_keepsFound_160.eq_2, f_X12_keepsFound_160.eq_2]
    refine sm_ile p6 p8 ?_ ?_
    · refine sm_rk (a := 20) (pts (rp_s hr) 0 28 20 rfl) kd_20 ?_
      refine sm_ck p1 ln_20 (fun b101 => ?_)
      refine sm_ck p1 ln_20 (fun b102 => ?_)
      have hr103 := raI (a := 20) hr p1 b102 (Nat.le_of_ble_eq_true rfl) (pa (rdI (a := 20) hr p1 b101 (Nat.le_of_ble_eq_true rfl)) li_1)
      exact sm_rv hr103
    · exact q_X12_keepsFound_173 _ _ p1 _ _ p6 _ _ p7 _ _ p8 _ _ ih FU _ _ li_1 _ _ li_0 _ _ hr
set_option maxHeartbeats 4000000 in
set_option maxRecDepth 100000 in
theorem q_X12_keepsFound_127 (x1 : Int32) (z1 : Int) (p1 : x1 = mJ z1) (x6 : Int32) (z6 : Int) (p6 : x6 = mJ z6) (x7 : Int32) (z7 : Int) (p7 : x7 = mJ z7) : ∀ (n : Nat) (x8 : Int32) (z8 : Int) (p8 : x8 = mJ z8) (ζ : ZS) (σ : HS), Rp ζ σ → Sm QV (g_X12_keepsFound_127 z1 z6 z7 n z8 ζ) (f_X12_keepsFound_127 0 x1 x6 x7 n x8 σ) := by
  intro n
  induction n with
  | zero =>
    intro x8 z8 p8 ζ σ hr
    exact sm_none
  | succ n ih =>
    intro x8 z8 p8 ζ σ hr
    rw [g_X12_keepsFound_127.eq_2, f_X12_keepsFound_127.eq_2]
    refine sm_ile (hr.1 0 26) p8 ?_ ?_
    · exact q_X12_keepsFound_160 _ _ p1 _ _ p6 _ _ p7 FU _ _ li_0 _ _ hr
    · refine sm_bind (q_X12_times _ _ p8 _ _ p1 _ _ p6 _ _ hr) (fun q1 w1 e1 => ?_)
      refine sm_jle lj_0 e1.1 ?_ ?_
      · exact ih _ _ (pa p8 li_1) _ _ e1.2
      · exact sm_rv e1.2
set_option maxHeartbeats 4000000 in
set_option maxRecDepth 100000 in
theorem q_X12_keepsFound_117 (r73 : Int → ZS → Option ZS) (f73 : Int32 → HS → Option HS) (h73 : ∀ (x8 : Int32) (z8 : Int) (p8 : x8 = mJ z8) (ζ : ZS) (σ : HS), Rp ζ σ → Sm QV (r73 z8 ζ) (f73 x8 σ)) (x1 : Int32) (z1 : Int) (p1 : x1 = mJ z1) (x2 : Int64) (z2 : Int) (p2 : x2 = mL z2) (x4 : Int64) (z4 : Int) (p4 : x4 = mL z4) (x6 : Int32) (z6 : Int) (p6 : x6 = mJ z6) (x7 : Int32) (z7 : Int) (p7 : x7 = mJ z7) (x8 : Int32) (z8 : Int) (p8 : x8 = mJ z8) (xs0 : Int64) (zs0 : Int) (ps0 : xs0 = mL zs0) (xs1 : Int32) (zs1 : Int) (ps1 : xs1 = mJ zs1) (cs2 : Nat) (ks2 : kd cs2 = 15) (ζ : ZS) (σ : HS) (hr : Rp ζ σ) : Sm QV (g_X12_keepsFound_117 r73 z1 z2 z4 z6 z7 z8 zs0 zs1 cs2 ζ) (f_X12_keepsFound_117 f73 0 x1 x2 x4 x6 x7 x8 xs0 xs1 cs2 σ) := by
    unfold g_X12_keepsFound_117 f_X12_keepsFound_117
    refine sm_ck ps1 rfl (fun b101 => ?_)
    have hr102 := raJ (a := cs2) hr ps1 b101 (ln_le _) ps0
    exact h73 _ _ (pa p8 li_1) _ _ hr102
set_option maxHeartbeats 4000000 in
set_option maxRecDepth 100000 in
theorem q_X12_keepsFound_73 (x1 : Int32) (z1 : Int) (p1 : x1 = mJ z1) (x2 : Int64) (z2 : Int) (p2 : x2 = mL z2) (x4 : Int64) (z4 : Int) (p4 : x4 = mL z4) (x6 : Int32) (z6 : Int) (p6 : x6 = mJ z6) (x7 : Int32) (z7 : Int) (p7 : x7 = mJ z7) : ∀ (n : Nat) (x8 : Int32) (z8 : Int) (p8 : x8 = mJ z8) (ζ : ZS) (σ : HS), Rp ζ σ → Sm QV (g_X12_keepsFound_73 z1 z2 z4 z6 z7 n z8 ζ) (f_X12_keepsFound_73 0 x1 x2 x4 x6 x7 n x8 σ) := by
  intro n
  induction n with
  | zero =>
    intro x8 z8 p8 ζ σ hr
    exact sm_none
  | succ n ih =>
    intro x8 z8 p8 ζ σ hr
    rw [g_X12_keepsFound_73.eq_2, f_X12_keepsFound_73.eq_2]
    refine sm_ile li_4 p8 ?_ ?_
    · exact q_X12_keepsFound_127 _ _ p1 _ _ p6 _ _ p7 FU _ _ li_0 _ _ hr
    · refine sm_rk (a := 22) (pts (rp_s hr) 0 30 22 rfl) kd_22 ?_
      refine sm_jle lj_0 p4 ?_ ?_
      · refine sm_rk (a := 23) (pts (rp_s hr) 0 31 23 rfl) kd_23 ?_
        refine sm_ck p8 ln_23 (fun b101 => ?_)
        refine sm_nzJ p2 (fun b102 => ?_)
        exact q_X12_keepsFound_117 _ _ ih _ _ p1 _ _ p2 _ _ p4 _ _ p6 _ _ p7 _ _ p8 _ _ (pdivJ (rdJ (a := 23) hr p8 b101 (Nat.le_of_ble_eq_true rfl)) p2 b102) _ _ (pa p7 p8) _ kd_22 _ _ hr
      · refine sm_rk (a := 23) (pts (rp_s hr) 0 31 23 rfl) kd_23 ?_
        refine sm_ck p8 ln_23 (fun b103 => ?_)
        refine sm_nzJ p2 (fun b104 => ?_)
        exact q_X12_keepsFound_117 _ _ ih _ _ p1 _ _ p2 _ _ p4 _ _ p6 _ _ p7 _ _ p8 _ _ (pdivJ (pnJ (rdJ (a := 23) hr p8 b103 (Nat.le_of_ble_eq_true rfl))) p2 b104) _ _ (pa p7 p8) _ kd_22 _ _ hr
set_option maxHeartbeats 4000000 in
set_option maxRecDepth 100000 in
theorem q_X12_keepsFound_8 (x1 : Int32) (z1 : Int) (p1 : x1 = mJ z1) : ∀ (n : Nat) (x2 : Int64) (z2 : Int) (p2 : x2 = mL z2) (x4 : Int64) (z4 : Int) (p4 : x4 = mL z4) (x6 : Int32) (z6 : Int) (p6 : x6 = mJ z6) (ζ : ZS) (σ : HS), Rp ζ σ → Sm QV (g_X12_keepsFound_8 z1 n z2 z4 z6 ζ) (f_X12_keepsFound_8 0 x1 n x2 x4 x6 σ) := by
  intro n
  induction n with
  | zero =>
    intro x2 z2 p2 x4 z4 p4 x6 z6 p6 ζ σ hr
    exact sm_none
  | succ n ih =>
    intro x2 z2 p2 x4 z4 p4 x6 z6 p6 ζ σ hr
    rw [g_X12_keepsFound_8.eq_2, f_X12_keepsFound_8.eq_2]
    refine sm_ile li_4 p6 ?_ ?_
    · refine sm_jeq p2 lj_0 ?_ ?_
      · exact sm_rv hr
      · refine sm_rk (a := 20) (pts (rp_s hr) 0 28 20 rfl) kd_20 ?_
        refine sm_ck p1 ln_20 (fun b101 => ?_)
        exact q_X12_keepsFound_73 _ _ p1 _ _ p2 _ _ p4 _ _ (rdI (a := 20) hr p1 b101 (Nat.le_of_ble_eq_true rfl)) _ _ (pm li_4 (pa (pm li_72 p1) (rdI (a := 20) hr p1 b101 (Nat.le_of_ble_eq_true rfl)))) FU _ _ li_0 _ _ hr
    · refine sm_rk (a := 23) (pts (rp_s hr) 0 31 23 rfl) kd_23 ?_
      refine sm_ck p6 ln_23 (fun b102 => ?_)
      refine sm_bind (q_X12_common _ _ p2 _ _ (rdJ (a := 23) hr p6 b102 (Nat.le_of_ble_eq_true rfl)) _ _ hr) (fun q3 w3 e3 => ?_)
      refine sm_rk (a := 23) (pts (rp_s e3.2) 0 31 23 rfl) kd_23 ?_
      refine sm_ck p6 ln_23 (fun b104 => ?_)
      exact ih _ _ e3.1 _ _ (paJ p4 (rdJ (a := 23) e3.2 p6 b104 (Nat.le_of_ble_eq_true rfl))) _ _ (pa p6 li_1) _ _ e3.2
set_option maxHeartbeats 4000000 in
set_option maxRecDepth 100000 in
theorem q_X12_keepsFound (x1 : Int32) (z1 : Int) (p1 : x1 = mJ z1) (ζ : ZS) (σ : HS) (hr : Rp ζ σ) : Sm QV (g_X12_keepsFound z1 ζ) (f_X12_keepsFound 0 x1 σ) := by
    unfold g_X12_keepsFound f_X12_keepsFound
    exact q_X12_keepsFound_8 _ _ p1 FU _ _ lj_0 _ _ lj_0 _ _ li_0 _ _ hr
set_option maxHeartbeats 4000000 in
set_option maxRecDepth 100000 in
theorem q_X12_findCorners_90 (r9 : Int → ZS → Option ZS) (f9 : Int32 → HS → Option HS) (h9 : ∀ (x1 : Int32) (z1 : Int) (p1 : x1 = mJ z1) (ζ : ZS) (σ : HS), Rp ζ σ → Sm QV (r9 z1 ζ) (f9 x1 σ)) (r33 : Int → ZS → Option ZS) (f33 : Int32 → HS → Option HS) (h33 : ∀ (x2 : Int32) (z2 : Int) (p2 : x2 = mJ z2) (ζ : ZS) (σ : HS), Rp ζ σ → Sm QV (r33 z2 ζ) (f33 x2 σ)) (r71 : Int → ZS → Option ZS) (f71 : Int32 → HS → Option HS) (h71 : ∀ (x3 : Int32) (z3 : Int) (p3 : x3 = mJ z3) (ζ : ZS) (σ : HS), Rp ζ σ → Sm QV (r71 z3 ζ) (f71 x3 σ)) (x1 : Int32) (z1 : Int) (p1 : x1 = mJ z1) (x2 : Int32) (z2 : Int) (p2 : x2 = mJ z2) (x3 : Int32) (z3 : Int) (p3 : x3 = mJ z3) (xs0 : Int32) (zs0 : Int) (ps0 : xs0 = mJ zs0) (xs1 : Int32) (zs1 : Int) (ps1 : xs1 = mJ zs1) (ζ : ZS) (σ : HS) (hr : Rp ζ σ) : Sm QV (g_X12_findCorners_90 r9 r33 r71 z1 z2 z3 zs0 zs1 ζ) (f_X12_findCorners_90 f9 f33 f71 0 x1 x2 x3 xs0 xs1 σ) := by
    unfold g_X12_findCorners_90 f_X12_findCorners_90
    refine sm_ile ps0 ps1 ?_ ?_
    · exact h33 _ _ (pa p2 li_1) _ _ hr
    · refine sm_bind (q_X12_crosses _ _ p1 _ _ p2 _ _ p3 _ _ hr) (fun q1 w1 e1 => ?_)
      refine sm_bind (q_X12_keepsFound _ _ li_0 _ _ e1) (fun q2 w2 e2 => ?_)
      exact h71 _ _ (pa p3 li_1) _ _ e2
set_option maxHeartbeats 4000000 in
set_option maxRecDepth 100000 in
theorem q_X12_findCorners_71 (x1 : Int32) (z1 : Int) (p1 : x1 = mJ z1) (x2 : Int32) (z2 : Int) (p2 : x2 = mJ z2) (r9 : Int → ZS → Option ZS) (f9 : Int32 → HS → Option HS) (h9 : ∀ (x1 : Int32) (z1 : Int) (p1 : x1 = mJ z1) (ζ : ZS) (σ : HS), Rp ζ σ → Sm QV (r9 z1 ζ) (f9 x1 σ)) (r33 : Int → ZS → Option ZS) (f33 : Int32 → HS → Option HS) (h33 : ∀ (x2 : Int32) (z2 : Int) (p2 : x2 = mJ z2) (ζ : ZS) (σ : HS), Rp ζ σ → Sm QV (r33 z2 ζ) (f33 x2 σ)) : ∀ (n : Nat) (x3 : Int32) (z3 : Int) (p3 : x3 = mJ z3) (ζ : ZS) (σ : HS), Rp ζ σ → Sm QV (g_X12_findCorners_71 z1 z2 r9 r33 n z3 ζ) (f_X12_findCorners_71 0 x1 x2 f9 f33 n x3 σ) := by
  intro n
  induction n with
  | zero =>
    intro x3 z3 p3 ζ σ hr
    exact sm_none
  | succ n ih =>
    intro x3 z3 p3 ζ σ hr
    rw [g_X12_findCorners_71.eq_2, f_X12_findCorners_71.eq_2]
    refine sm_ile li_4 (hr.1 0 20) ?_ ?_
    · exact q_X12_findCorners_90 _ _ h9 _ _ h33 _ _ ih _ _ p1 _ _ p2 _ _ p3 _ _ (hr.1 0 26) _ _ p3 _ _ hr
    · exact q_X12_findCorners_90 _ _ h9 _ _ h33 _ _ ih _ _ p1 _ _ p2 _ _ p3 _ _ (pa p2 li_1) _ _ p3 _ _ hr
set_option maxHeartbeats 4000000 in
set_option maxRecDepth 100000 in
theorem q_X12_findCorners_70 (r9 : Int → ZS → Option ZS) (f9 : Int32 → HS → Option HS) (h9 : ∀ (x1 : Int32) (z1 : Int) (p1 : x1 = mJ z1) (ζ : ZS) (σ : HS), Rp ζ σ → Sm QV (r9 z1 ζ) (f9 x1 σ)) (r33 : Int → ZS → Option ZS) (f33 : Int32 → HS → Option HS) (h33 : ∀ (x2 : Int32) (z2 : Int) (p2 : x2 = mJ z2) (ζ : ZS) (σ : HS), Rp ζ σ → Sm QV (r33 z2 ζ) (f33 x2 σ)) (x1 : Int32) (z1 : Int) (p1 : x1 = mJ z1) (x2 : Int32) (z2 : Int) (p2 : x2 = mJ z2) (xs0 : Int32) (zs0 : Int) (ps0 : xs0 = mJ zs0) (ζ : ZS) (σ : HS) (hr : Rp ζ σ) : Sm QV (g_X12_findCorners_70 r9 r33 z1 z2 zs0 ζ) (f_X12_findCorners_70 f9 f33 0 x1 x2 xs0 σ) := by
    unfold g_X12_findCorners_70 f_X12_findCorners_70
    exact q_X12_findCorners_71 _ _ p1 _ _ p2 _ _ h9 _ _ h33 FU _ _ ps0 _ _ hr
set_option maxHeartbeats 4000000 in
set_option maxRecDepth 100000 in
theorem q_X12_findCorners_52 (r9 : Int → ZS → Option ZS) (f9 : Int32 → HS → Option HS) (h9 : ∀ (x1 : Int32) (z1 : Int) (p1 : x1 = mJ z1) (ζ : ZS) (σ : HS), Rp ζ σ → Sm QV (r9 z1 ζ) (f9 x1 σ)) (r33 : Int → ZS → Option ZS) (f33 : Int32 → HS → Option HS) (h33 : ∀ (x2 : Int32) (z2 : Int) (p2 : x2 = mJ z2) (ζ : ZS) (σ : HS), Rp ζ σ → Sm QV (r33 z2 ζ) (f33 x2 σ)) (x1 : Int32) (z1 : Int) (p1 : x1 = mJ z1) (x2 : Int32) (z2 : Int) (p2 : x2 = mJ z2) (xs0 : Int32) (zs0 : Int) (ps0 : xs0 = mJ zs0) (xs1 : Int32) (zs1 : Int) (ps1 : xs1 = mJ zs1) (ζ : ZS) (σ : HS) (hr : Rp ζ σ) : Sm QV (g_X12_findCorners_52 r9 r33 z1 z2 zs0 zs1 ζ) (f_X12_findCorners_52 f9 f33 0 x1 x2 xs0 xs1 σ) := by
    unfold g_X12_findCorners_52 f_X12_findCorners_52
    refine sm_ile ps0 ps1 ?_ ?_
    · exact h9 _ _ (pa p1 li_1) _ _ hr
    · refine sm_ile li_4 (hr.1 0 20) ?_ ?_
      · exact q_X12_findCorners_70 _ _ h9 _ _ h33 _ _ p1 _ _ p2 _ _ (pa p2 li_1) _ _ hr
      · exact q_X12_findCorners_70 _ _ h9 _ _ h33 _ _ p1 _ _ p2 _ _ p2 _ _ hr
set_option maxHeartbeats 4000000 in
set_option maxRecDepth 100000 in
theorem q_X12_findCorners_33 (x1 : Int32) (z1 : Int) (p1 : x1 = mJ z1) (r9 : Int → ZS → Option ZS) (f9 : Int32 → HS → Option HS) (h9 : ∀ (x1 : Int32) (z1 : Int) (p1 : x1 = mJ z1) (ζ : ZS) (σ : HS), Rp ζ σ → Sm QV (r9 z1 ζ) (f9 x1 σ)) : ∀ (n : Nat) (x2 : Int32) (z2 : Int) (p2 : x2 = mJ z2) (ζ : ZS) (σ : HS), Rp ζ σ → Sm QV (g_X12_findCorners_33 z1 r9 n z2 ζ) (f_X12_findCorners_33 0 x1 f9 n x2 σ) := by
  intro n
  induction n with
  | zero =>
    intro x2 z2 p2 ζ σ hr
    exact sm_none
  | succ n ih =>
    intro x2 z2 p2 ζ σ hr
    rw [g_X12_findCorners_33.eq_2, f_X12_findCorners_33.eq_2]
    refine sm_ile li_3 (hr.1 0 20) ?_ ?_
    · exact q_X12_findCorners_52 _ _ h9 _ _ ih _ _ p1 _ _ p2 _ _ (hr.1 0 26) _ _ p2 _ _ hr
    · exact q_X12_findCorners_52 _ _ h9 _ _ ih _ _ p1 _ _ p2 _ _ (pa p1 li_1) _ _ p2 _ _ hr
set_option maxHeartbeats 4000000 in
set_option maxRecDepth 100000 in
theorem q_X12_findCorners_32 (r9 : Int → ZS → Option ZS) (f9 : Int32 → HS → Option HS) (h9 : ∀ (x1 : Int32) (z1 : Int) (p1 : x1 = mJ z1) (ζ : ZS) (σ : HS), Rp ζ σ → Sm QV (r9 z1 ζ) (f9 x1 σ)) (x1 : Int32) (z1 : Int) (p1 : x1 = mJ z1) (xs0 : Int32) (zs0 : Int) (ps0 : xs0 = mJ zs0) (ζ : ZS) (σ : HS) (hr : Rp ζ σ) : Sm QV (g_X12_findCorners_32 r9 z1 zs0 ζ) (f_X12_findCorners_32 f9 0 x1 xs0 σ) := by
    unfold g_X12_findCorners_32 f_X12_findCorners_32
    exact q_X12_findCorners_33 _ _ p1 _ _ h9 FU _ _ ps0 _ _ hr
set_option maxHeartbeats 4000000 in
set_option maxRecDepth 100000 in
theorem q_X12_findCorners_9  : ∀ (n : Nat) (x1 : Int32) (z1 : Int) (p1 : x1 = mJ z1) (ζ : ZS) (σ : HS), Rp ζ σ → Sm QV (g_X12_findCorners_9 n z1 ζ) (f_X12_findCorners_9 0 n x1 σ) := by
  intro n
  induction n with
  | zero =>
    intro x1 z1 p1 ζ σ hr
    exact sm_none
  | succ n ih =>
    intro x1 z1 p1 ζ σ hr
    rw [g_X12_findCorners_9.eq_2, f_X12_findCorners_9.eq_2]
    refine sm_ile (hr.1 0 26) p1 ?_ ?_
    · refine sm_rk (a := 21) (pts (rp_s hr) 0 29 21 rfl) kd_21 ?_
      refine sm_ck li_0 ln_21 (fun b101 => ?_)
      have hr102 := raI (a := 21) hr li_0 b101 (Nat.le_of_ble_eq_true rfl) (hr.1 0 26)
      exact sm_rv hr102
    · refine sm_ile li_3 (hr.1 0 20) ?_ ?_
      · exact q_X12_findCorners_32 _ _ ih _ _ p1 _ _ (pa p1 li_1) _ _ hr
      · exact q_X12_findCorners_32 _ _ ih _ _ p1 _ _ p1 _ _ hr
set_option maxHeartbeats 4000000 in
set_option maxRecDepth 100000 in
theorem q_X12_findCorners  (ζ : ZS) (σ : HS) (hr : Rp ζ σ) : Sm QV (g_X12_findCorners ζ) (f_X12_findCorners 0 σ) := by
    unfold g_X12_findCorners f_X12_findCorners
    refine sm_rk (a := 20) (pts (rp_s hr) 0 28 20 rfl) kd_20 ?_
    refine sm_ck li_0 ln_20 (fun b101 => ?_)
    have hr102 := raI (a := 20) hr li_0 b101 (Nat.le_of_ble_eq_true rfl) li_0
    exact q_X12_findCorners_9 FU _ _ li_0 _ _ hr102
set_option maxHeartbeats 4000000 in
set_option maxRecDepth 100000 in
theorem q_X12_findMore_250 (x1 : Int32) (z1 : Int) (p1 : x1 = mJ z1) (ζ : ZS) (σ : HS) (hr : Rp ζ σ) : Sm QV (g_X12_findMore_250 z1 ζ) (f_X12_findMore_250 0 x1 σ) := by
    unfold g_X12_findMore_250 f_X12_findMore_250
    refine sm_rk (a := 21) (pts (rp_s hr) 0 29 21 rfl) kd_21 ?_
    refine sm_ck p1 ln_21 (fun b101 => ?_)
    have hr102 := raI (a := 21) hr p1 b101 (Nat.le_of_ble_eq_true rfl) (hr.1 0 26)
    exact sm_rv hr102
set_option maxHeartbeats 4000000 in
set_option maxRecDepth 100000 in
theorem q_X12_findMore_233 (r128 : Int → ZS → Option ZS) (f128 : Int32 → HS → Option HS) (h128 : ∀ (x4 : Int32) (z4 : Int) (p4 : x4 = mJ z4) (ζ : ZS) (σ : HS), Rp ζ σ → Sm QV (r128 z4 ζ) (f128 x4 σ)) (r165 : Int → ZS → Option ZS) (f165 : Int32 → HS → Option HS) (h165 : ∀ (x5 : Int32) (z5 : Int) (p5 : x5 = mJ z5) (ζ : ZS) (σ : HS), Rp ζ σ → Sm QV (r165 z5 ζ) (f165 x5 σ)) (x1 : Int32) (z1 : Int) (p1 : x1 = mJ z1) (x2 : Int32) (z2 : Int) (p2 : x2 = mJ z2) (x3 : Int32) (z3 : Int) (p3 : x3 = mJ z3) (x4 : Int32) (z4 : Int) (p4 : x4 = mJ z4) (x5 : Int32) (z5 : Int) (p5 : x5 = mJ z5) (ζ : ZS) (σ : HS) (hr : Rp ζ σ) : Sm QV (g_X12_findMore_233 r128 r165 z1 z2 z3 z4 z5 ζ) (f_X12_findMore_233 f128 f165 0 x1 x2 x3 x4 x5 σ) := by
    unfold g_X12_findMore_233 f_X12_findMore_233
    refine sm_bind (q_X12_keepsFound _ _ p1 _ _ hr) (fun q1 w1 e1 => ?_)
    exact h165 _ _ (pa p5 li_1) _ _ e1
set_option maxHeartbeats 4000000 in
set_option maxRecDepth 100000 in
theorem q_X12_findMore_183 (r128 : Int → ZS → Option ZS) (f128 : Int32 → HS → Option HS) (h128 : ∀ (x4 : Int32) (z4 : Int) (p4 : x4 = mJ z4) (ζ : ZS) (σ : HS), Rp ζ σ → Sm QV (r128 z4 ζ) (f128 x4 σ)) (r165 : Int → ZS → Option ZS) (f165 : Int32 → HS → Option HS) (h165 : ∀ (x5 : Int32) (z5 : Int) (p5 : x5 = mJ z5) (ζ : ZS) (σ : HS), Rp ζ σ → Sm QV (r165 z5 ζ) (f165 x5 σ)) (x1 : Int32) (z1 : Int) (p1 : x1 = mJ z1) (x2 : Int32) (z2 : Int) (p2 : x2 = mJ z2) (x3 : Int32) (z3 : Int) (p3 : x3 = mJ z3) (x4 : Int32) (z4 : Int) (p4 : x4 = mJ z4) (x5 : Int32) (z5 : Int) (p5 : x5 = mJ z5) (xs0 : Int32) (zs0 : Int) (ps0 : xs0 = mJ zs0) (xs1 : Int32) (zs1 : Int) (ps1 : xs1 = mJ zs1) (ζ : ZS) (σ : HS) (hr : Rp ζ σ) : Sm QV (g_X12_findMore_183 r128 r165 z1 z2 z3 z4 z5 zs0 zs1 ζ) (f_X12_findMore_183 f128 f165 0 x1 x2 x3 x4 x5 xs0 xs1 σ) := by
    unfold g_X12_findMore_183 f_X12_findMore_183
    refine sm_ile ps0 ps1 ?_ ?_
    · exact h128 _ _ (pa p4 li_1) _ _ hr
    · refine sm_ieq (hr.1 0 20) li_2 ?_ ?_
      · refine sm_bind (q_X12_crosses _ _ p2 _ _ p2 _ _ p2 _ _ hr) (fun q3 w3 e3 => ?_)
        exact q_X12_findMore_233 _ _ h128 _ _ h165 _ _ p1 _ _ p2 _ _ p3 _ _ p4 _ _ p5 _ _ e3
      · refine sm_ieq (hr.1 0 20) li_3 ?_ ?_
        · refine sm_bind (q_X12_crosses _ _ p2 _ _ p4 _ _ p4 _ _ hr) (fun q2 w2 e2 => ?_)
          exact q_X12_findMore_233 _ _ h128 _ _ h165 _ _ p1 _ _ p2 _ _ p3 _ _ p4 _ _ p5 _ _ e2
        · refine sm_bind (q_X12_crosses _ _ p2 _ _ p4 _ _ p5 _ _ hr) (fun q1 w1 e1 => ?_)
          exact q_X12_findMore_233 _ _ h128 _ _ h165 _ _ p1 _ _ p2 _ _ p3 _ _ p4 _ _ p5 _ _ e1
set_option maxHeartbeats 4000000 in
set_option maxRecDepth 100000 in
theorem q_X12_findMore_165 (x1 : Int32) (z1 : Int) (p1 : x1 = mJ z1) (x2 : Int32) (z2 : Int) (p2 : x2 = mJ z2) (x3 : Int32) (z3 : Int) (p3 : x3 = mJ z3) (x4 : Int32) (z4 : Int) (p4 : x4 = mJ z4) (r128 : Int → ZS → Option ZS) (f128 : Int32 → HS → Option HS) (h128 : ∀ (x4 : Int32) (z4 : Int) (p4 : x4 = mJ z4) (ζ : ZS) (σ : HS), Rp ζ σ → Sm QV (r128 z4 ζ) (f128 x4 σ)) : ∀ (n : Nat) (x5 : Int32) (z5 : Int) (p5 : x5 = mJ z5) (ζ : ZS) (σ : HS), Rp ζ σ → Sm QV (g_X12_findMore_165 z1 z2 z3 z4 r128 n z5 ζ) (f_X12_findMore_165 0 x1 x2 x3 x4 f128 n x5 σ) := by
  intro n
  induction n with
  | zero =>
    intro x5 z5 p5 ζ σ hr
    exact sm_none
  | succ n ih =>
    intro x5 z5 p5 ζ σ hr
    rw [g_X12_findMore_165.eq_2, f_X12_findMore_165.eq_2]
    refine sm_ile li_4 (hr.1 0 20) ?_ ?_
    · exact q_X12_findMore_183 _ _ h128 _ _ ih _ _ p1 _ _ p2 _ _ p3 _ _ p4 _ _ p5 _ _ p2 _ _ p5 _ _ hr
    · exact q_X12_findMore_183 _ _ h128 _ _ ih _ _ p1 _ _ p2 _ _ p3 _ _ p4 _ _ p5 _ _ (pa p4 li_1) _ _ p5 _ _ hr
set_option maxHeartbeats 4000000 in
set_option maxRecDepth 100000 in
theorem q_X12_findMore_163 (r128 : Int → ZS → Option ZS) (f128 : Int32 → HS → Option HS) (h128 : ∀ (x4 : Int32) (z4 : Int) (p4 : x4 = mJ z4) (ζ : ZS) (σ : HS), Rp ζ σ → Sm QV (r128 z4 ζ) (f128 x4 σ)) (x1 : Int32) (z1 : Int) (p1 : x1 = mJ z1) (x2 : Int32) (z2 : Int) (p2 : x2 = mJ z2) (x3 : Int32) (z3 : Int) (p3 : x3 = mJ z3) (x4 : Int32) (z4 : Int) (p4 : x4 = mJ z4) (xs0 : Int32) (zs0 : Int) (ps0 : xs0 = mJ zs0) (ζ : ZS) (σ : HS) (hr : Rp ζ σ) : Sm QV (g_X12_findMore_163 r128 z1 z2 z3 z4 zs0 ζ) (f_X12_findMore_163 f128 0 x1 x2 x3 x4 xs0 σ) := by
    unfold g_X12_findMore_163 f_X12_findMore_163
    exact q_X12_findMore_165 _ _ p1 _ _ p2 _ _ p3 _ _ p4 _ _ h128 FU _ _ ps0 _ _ hr
set_option maxHeartbeats 4000000 in
set_option maxRecDepth 100000 in
theorem q_X12_findMore_128 (x1 : Int32) (z1 : Int) (p1 : x1 = mJ z1) (x2 : Int32) (z2 : Int) (p2 : x2 = mJ z2) (x3 : Int32) (z3 : Int) (p3 : x3 = mJ z3) : ∀ (n : Nat) (x4 : Int32) (z4 : Int) (p4 : x4 = mJ z4) (ζ : ZS) (σ : HS), Rp ζ σ → Sm QV (g_X12_findMore_128 z1 z2 z3 n z4 ζ) (f_X12_findMore_128 0 x1 x2 x3 n x4 σ) := by
  intro n
  induction n with
  | zero =>
    intro x4 z4 p4 ζ σ hr
    exact sm_none
  | succ n ih =>
    intro x4 z4 p4 ζ σ hr
    rw [g_X12_findMore_128.eq_2, f_X12_findMore_128.eq_2]
    refine sm_ile p2 p4 ?_ ?_
    · exact q_X12_findMore_250 _ _ p1 _ _ hr
    · refine sm_ieq p3 li_0 ?_ ?_
      · refine sm_ile (hr.1 0 20) li_1 ?_ ?_
        · exact q_X12_findMore_250 _ _ p1 _ _ hr
        · refine sm_ile li_4 (hr.1 0 20) ?_ ?_
          · exact q_X12_findMore_163 _ _ ih _ _ p1 _ _ p2 _ _ p3 _ _ p4 _ _ (pa p4 li_1) _ _ hr
          · exact q_X12_findMore_163 _ _ ih _ _ p1 _ _ p2 _ _ p3 _ _ p4 _ _ p4 _ _ hr
      · exact q_X12_findMore_250 _ _ p1 _ _ hr
set_option maxHeartbeats 4000000 in
set_option maxRecDepth 100000 in
theorem q_X12_findMore_124 (x1 : Int32) (z1 : Int) (p1 : x1 = mJ z1) (x2 : Int32) (z2 : Int) (p2 : x2 = mJ z2) (xs0 : Int32) (zs0 : Int) (ps0 : xs0 = mJ zs0) (ζ : ZS) (σ : HS) (hr : Rp ζ σ) : Sm QV (g_X12_findMore_124 z1 z2 zs0 ζ) (f_X12_findMore_124 0 x1 x2 xs0 σ) := by
    unfold g_X12_findMore_124 f_X12_findMore_124
    exact q_X12_findMore_128 _ _ p1 _ _ p2 _ _ ps0 FU _ _ li_0 _ _ hr
set_option maxHeartbeats 4000000 in
set_option maxRecDepth 100000 in
theorem q_X12_findMore_119 (x1 : Int32) (z1 : Int) (p1 : x1 = mJ z1) (x2 : Int32) (z2 : Int) (p2 : x2 = mJ z2) (ζ : ZS) (σ : HS) (hr : Rp ζ σ) : Sm QV (g_X12_findMore_119 z1 z2 ζ) (f_X12_findMore_119 0 x1 x2 σ) := by
    unfold g_X12_findMore_119 f_X12_findMore_119
    exact q_X12_findMore_124 _ _ p1 _ _ p2 _ _ li_1 _ _ hr
set_option maxHeartbeats 4000000 in
set_option maxRecDepth 100000 in
theorem q_X12_findMore_87 (r16 : Int → ZS → Option ZS) (f16 : Int32 → HS → Option HS) (h16 : ∀ (x3 : Int32) (z3 : Int) (p3 : x3 = mJ z3) (ζ : ZS) (σ : HS), Rp ζ σ → Sm QV (r16 z3 ζ) (f16 x3 σ)) (x1 : Int32) (z1 : Int) (p1 : x1 = mJ z1) (x2 : Int32) (z2 : Int) (p2 : x2 = mJ z2) (x3 : Int32) (z3 : Int) (p3 : x3 = mJ z3) (ζ : ZS) (σ : HS) (hr : Rp ζ σ) : Sm QV (g_X12_findMore_87 r16 z1 z2 z3 ζ) (f_X12_findMore_87 f16 0 x1 x2 x3 σ) := by
    unfold g_X12_findMore_87 f_X12_findMore_87
    exact h16 _ _ (pa p3 li_1) _ _ hr
set_option maxHeartbeats 4000000 in
set_option maxRecDepth 100000 in
theorem q_X12_findMore_45 (x1 : Int32) (z1 : Int) (p1 : x1 = mJ z1) (x2 : Int32) (z2 : Int) (p2 : x2 = mJ z2) (x3 : Int32) (z3 : Int) (p3 : x3 = mJ z3) (r16 : Int → ZS → Option ZS) (f16 : Int32 → HS → Option HS) (h16 : ∀ (x3 : Int32) (z3 : Int) (p3 : x3 = mJ z3) (ζ : ZS) (σ : HS), Rp ζ σ → Sm QV (r16 z3 ζ) (f16 x3 σ)) : ∀ (n : Nat) (x4 : Int32) (z4 : Int) (p4 : x4 = mJ z4) (ζ : ZS) (σ : HS), Rp ζ σ → Sm QV (g_X12_findMore_45 z1 z2 z3 r16 n z4 ζ) (f_X12_findMore_45 0 x1 x2 x3 f16 n x4 σ) := by
  intro n
  induction n with
  | zero =>
    intro x4 z4 p4 ζ σ hr
    exact sm_none
  | succ n ih =>
    intro x4 z4 p4 ζ σ hr
    rw [g_X12_findMore_45.eq_2, f_X12_findMore_45.eq_2]
    refine sm_ile li_4 p4 ?_ ?_
    · refine sm_bind (q_X12_keepsFound _ _ p1 _ _ hr) (fun q1 w1 e1 => ?_)
      exact q_X12_findMore_87 _ _ h16 _ _ p1 _ _ p2 _ _ p3 _ _ e1
    · refine sm_rk (a := 23) (pts (rp_s hr) 0 31 23 rfl) kd_23 ?_
      refine sm_rk (a := 22) (pts (rp_s hr) 0 30 22 rfl) kd_22 ?_
      refine sm_ck (pa (pm li_4 (pa (pm li_72 (ps p1 li_1)) p3)) p4) ln_22 (fun b102 => ?_)
      refine sm_ck p4 ln_23 (fun b103 => ?_)
      have hr104 := raJ (a := 23) hr p4 b103 (Nat.le_of_ble_eq_true rfl) (rdJ (a := 22) hr (pa (pm li_4 (pa (pm li_72 (ps p1 li_1)) p3)) p4) b102 (Nat.le_of_ble_eq_true rfl))
      exact ih _ _ (pa p4 li_1) _ _ hr104
set_option maxHeartbeats 4000000 in
set_option maxRecDepth 100000 in
theorem q_X12_findMore_16 (x1 : Int32) (z1 : Int) (p1 : x1 = mJ z1) (x2 : Int32) (z2 : Int) (p2 : x2 = mJ z2) : ∀ (n : Nat) (x3 : Int32) (z3 : Int) (p3 : x3 = mJ z3) (ζ : ZS) (σ : HS), Rp ζ σ → Sm QV (g_X12_findMore_16 z1 z2 n z3 ζ) (f_X12_findMore_16 0 x1 x2 n x3 σ) := by
  intro n
  induction n with
  | zero =>
    intro x3 z3 p3 ζ σ hr
    exact sm_none
  | succ n ih =>
    intro x3 z3 p3 ζ σ hr
    rw [g_X12_findMore_16.eq_2, f_X12_findMore_16.eq_2]
    refine sm_rk (a := 20) (pts (rp_s hr) 0 28 20 rfl) kd_20 ?_
    refine sm_ck (ps p1 li_1) ln_20 (fun b101 => ?_)
    refine sm_ile (rdI (a := 20) hr (ps p1 li_1) b101 (Nat.le_of_ble_eq_true rfl)) p3 ?_ ?_
    · refine sm_rk (a := 20) (pts (rp_s hr) 0 28 20 rfl) kd_20 ?_
      refine sm_ck p1 ln_20 (fun b102 => ?_)
      refine sm_rk (a := 20) (pts (rp_s hr) 0 28 20 rfl) kd_20 ?_
      refine sm_ck (ps p1 li_1) ln_20 (fun b103 => ?_)
      refine sm_ieq (rdI (a := 20) hr p1 b102 (Nat.le_of_ble_eq_true rfl)) (rdI (a := 20) hr (ps p1 li_1) b103 (Nat.le_of_ble_eq_true rfl)) ?_ ?_
      · exact q_X12_findMore_119 _ _ p1 _ _ p2 _ _ hr
      · refine sm_rk (a := 20) (pts (rp_s hr) 0 28 20 rfl) kd_20 ?_
        refine sm_ck p1 ln_20 (fun b104 => ?_)
        refine sm_ieq (rdI (a := 20) hr p1 b104 (Nat.le_of_ble_eq_true rfl)) li_0 ?_ ?_
        · exact q_X12_findMore_119 _ _ p1 _ _ p2 _ _ hr
        · exact q_X12_findMore_124 _ _ p1 _ _ p2 _ _ li_0 _ _ hr
    · refine sm_bind (q_X12_times _ _ p2 _ _ (ps p1 li_1) _ _ p3 _ _ hr) (fun q5 w5 e5 => ?_)
      refine sm_jlt e5.1 lj_0 ?_ ?_
      · exact q_X12_findMore_87 _ _ ih _ _ p1 _ _ p2 _ _ p3 _ _ e5.2
      · exact q_X12_findMore_45 _ _ p1 _ _ p2 _ _ p3 _ _ ih FU _ _ li_0 _ _ e5.2
set_option maxHeartbeats 4000000 in
set_option maxRecDepth 100000 in
theorem q_X12_findMore (x1 : Int32) (z1 : Int) (p1 : x1 = mJ z1) (ζ : ZS) (σ : HS) (hr : Rp ζ σ) : Sm QV (g_X12_findMore z1 ζ) (f_X12_findMore 0 x1 σ) := by
    unfold g_X12_findMore f_X12_findMore
    refine sm_rk (a := 20) (pts (rp_s hr) 0 28 20 rfl) kd_20 ?_
    refine sm_ck p1 ln_20 (fun b101 => ?_)
    have hr102 := raI (a := 20) hr p1 b101 (Nat.le_of_ble_eq_true rfl) li_0
    exact q_X12_findMore_16 _ _ p1 _ _ (ps (hr.1 0 26) li_1) FU _ _ li_0 _ _ hr102
set_option maxHeartbeats 4000000 in
set_option maxRecDepth 100000 in
theorem q_X12_backTo (x1 : Int32) (z1 : Int) (p1 : x1 = mJ z1) (ζ : ZS) (σ : HS) (hr : Rp ζ σ) : Sm QV (g_X12_backTo z1 ζ) (f_X12_backTo 0 x1 σ) := by
    unfold g_X12_backTo f_X12_backTo
    refine sm_rk (a := 21) (pts (rp_s hr) 0 29 21 rfl) kd_21 ?_
    refine sm_ck p1 ln_21 (fun b101 => ?_)
    have hr102 := rwI (a := 0) (k := 26) hr (rdI (a := 21) hr p1 b101 (Nat.le_of_ble_eq_true rfl))
    exact sm_rv hr102
set_option maxHeartbeats 4000000 in
set_option maxRecDepth 100000 in
theorem q_X12_findNow_26 (xs0 : Int32) (zs0 : Int) (ps0 : xs0 = mJ zs0) (ζ : ZS) (σ : HS) (hr : Rp ζ σ) : Sm QI (g_X12_findNow_26 zs0 ζ) (f_X12_findNow_26 xs0 σ) := by
    unfold g_X12_findNow_26 f_X12_findNow_26
    exact sm_zr ps0 hr
set_option maxHeartbeats 4000000 in
set_option maxRecDepth 100000 in
theorem q_X12_findNow  (ζ : ZS) (σ : HS) (hr : Rp ζ σ) : Sm QI (g_X12_findNow ζ) (f_X12_findNow 0 σ) := by
    unfold g_X12_findNow f_X12_findNow
    refine sm_bind (q_X12_heard _ _ hr) (fun q1 w1 e1 => ?_)
    refine sm_bind (q_X12_laysRows _ _ e1.1 _ _ e1.2) (fun q2 w2 e2 => ?_)
    refine sm_bind (q_X12_findCorners _ _ e2) (fun q3 w3 e3 => ?_)
    refine sm_rk (a := 20) (pts (rp_s e3) 0 28 20 rfl) kd_20 ?_
    refine sm_ck li_0 ln_20 (fun b104 => ?_)
    refine sm_ile (rdI (a := 20) e3 li_0 b104 (Nat.le_of_ble_eq_true rfl)) li_0 ?_ ?_
    · exact q_X12_findNow_26 _ _ li_0 _ _ e3
    · exact q_X12_findNow_26 _ _ li_1 _ _ e3
set_option maxHeartbeats 4000000 in
set_option maxRecDepth 100000 in
theorem q_X12_seenAs_29 (xs0 : Int32) (zs0 : Int) (ps0 : xs0 = mJ zs0) (ζ : ZS) (σ : HS) (hr : Rp ζ σ) : Sm QI (g_X12_seenAs_29 zs0 ζ) (f_X12_seenAs_29 xs0 σ) := by
    unfold g_X12_seenAs_29 f_X12_seenAs_29
    exact sm_ri ps0 hr
set_option maxHeartbeats 4000000 in
set_option maxRecDepth 100000 in
theorem q_X12_seenAs_23 (x1 : Int32) (z1 : Int) (p1 : x1 = mJ z1) (x2 : Int32) (z2 : Int) (p2 : x2 = mJ z2) (ζ : ZS) (σ : HS) (hr : Rp ζ σ) : Sm QI (g_X12_seenAs_23 z1 z2 ζ) (f_X12_seenAs_23 0 x1 x2 σ) := by
    unfold g_X12_seenAs_23 f_X12_seenAs_23
    refine sm_bind (q_X12_valueOf _ _ p1 _ _ p2 _ _ hr) (fun q1 w1 e1 => ?_)
    exact q_X12_seenAs_29 _ _ e1.1 _ _ e1.2
set_option maxHeartbeats 4000000 in
set_option maxRecDepth 100000 in
theorem q_X12_seenAs (x1 : Int32) (z1 : Int) (p1 : x1 = mJ z1) (x2 : Int32) (z2 : Int) (p2 : x2 = mJ z2) (ζ : ZS) (σ : HS) (hr : Rp ζ σ) : Sm QI (g_X12_seenAs z1 z2 ζ) (f_X12_seenAs 0 x1 x2 σ) := by
    unfold g_X12_seenAs f_X12_seenAs
    refine sm_ieq p1 (hr.1 0 32) ?_ ?_
    · refine sm_ieq p2 (hr.1 0 33) ?_ ?_
      · exact q_X12_seenAs_29 _ _ (hr.1 0 34) _ _ hr
      · exact q_X12_seenAs_23 _ _ p1 _ _ p2 _ _ hr
    · exact q_X12_seenAs_23 _ _ p1 _ _ p2 _ _ hr
set_option maxHeartbeats 4000000 in
set_option maxRecDepth 100000 in
theorem q_X12_above_26 (xs0 : Int64) (zs0 : Int) (ps0 : xs0 = mL zs0) (ζ : ZS) (σ : HS) (hr : Rp ζ σ) : Sm QJ (g_X12_above_26 zs0 ζ) (f_X12_above_26 xs0 σ) := by
    unfold g_X12_above_26 f_X12_above_26
    exact sm_rj ps0 hr
set_option maxHeartbeats 4000000 in
set_option maxRecDepth 100000 in
theorem q_X12_above (x1 : Int32) (z1 : Int) (p1 : x1 = mJ z1) (x2 : Int32) (z2 : Int) (p2 : x2 = mJ z2) (x3 : Int32) (z3 : Int) (p3 : x3 = mJ z3) (ζ : ZS) (σ : HS) (hr : Rp ζ σ) : Sm QJ (g_X12_above z1 z2 z3 ζ) (f_X12_above 0 x1 x2 x3 σ) := by
    unfold g_X12_above f_X12_above
    refine sm_ile (hr.1 0 20) p3 ?_ ?_
    · exact q_X12_above_26 _ _ lj_0 _ _ hr
    · refine sm_bind (q_X12_seenAs _ _ p1 _ _ p3 _ _ hr) (fun q1 w1 e1 => ?_)
      refine sm_bind (q_X12_seenAs _ _ p2 _ _ p3 _ _ e1.2) (fun q2 w2 e2 => ?_)
      refine sm_gw (fun b103 => ?_)
      exact q_X12_above_26 _ _ (pi2l (ps e1.1 e2.1) b103) _ _ e2.2
set_option maxHeartbeats 4000000 in
set_option maxRecDepth 100000 in
theorem q_X12_addsAbove (x1 : Int32) (z1 : Int) (p1 : x1 = mJ z1) (x2 : Int32) (z2 : Int) (p2 : x2 = mJ z2) (ζ : ZS) (σ : HS) (hr : Rp ζ σ) : Sm QV (g_X12_addsAbove z1 z2 ζ) (f_X12_addsAbove 0 x1 x2 σ) := by
    unfold g_X12_addsAbove f_X12_addsAbove
    refine sm_bind (q_X12_above _ _ p1 _ _ p2 _ _ li_0 _ _ hr) (fun q1 w1 e1 => ?_)
    refine sm_bind (q_X12_above _ _ p1 _ _ p2 _ _ li_1 _ _ e1.2) (fun q2 w2 e2 => ?_)
    refine sm_bind (q_X12_above _ _ p1 _ _ p2 _ _ li_2 _ _ e2.2) (fun q3 w3 e3 => ?_)
    refine sm_bind (q_X12_above _ _ p1 _ _ p2 _ _ li_3 _ _ e3.2) (fun q4 w4 e4 => ?_)
    refine sm_bind (q_X12_addsRow _ _ e1.1 _ _ e2.1 _ _ e3.1 _ _ e4.1 _ _ e4.2) (fun q5 w5 e5 => ?_)
    exact sm_rv e5
set_option maxHeartbeats 4000000 in
set_option maxRecDepth 100000 in
theorem q_X12_weightAt (x1 : Int32) (z1 : Int) (p1 : x1 = mJ z1) (x2 : Int32) (z2 : Int) (p2 : x2 = mJ z2) (x3 : Int32) (z3 : Int) (p3 : x3 = mJ z3) (ζ : ZS) (σ : HS) (hr : Rp ζ σ) : Sm QJ (g_X12_weightAt z1 z2 z3 ζ) (f_X12_weightAt 0 x1 x2 x3 σ) := by
    unfold g_X12_weightAt f_X12_weightAt
    refine sm_rk (a := 22) (pts (rp_s hr) 0 30 22 rfl) kd_22 ?_
    refine sm_ck (pa (pm li_4 (pa (pm li_72 p1) p2)) p3) ln_22 (fun b101 => ?_)
    exact sm_rj (rdJ (a := 22) hr (pa (pm li_4 (pa (pm li_72 p1) p2)) p3) b101 (Nat.le_of_ble_eq_true rfl)) hr
set_option maxHeartbeats 4000000 in
set_option maxRecDepth 100000 in
theorem q_X12_aboveAt_6 (x1 : Int32) (z1 : Int) (p1 : x1 = mJ z1) (x2 : Int32) (z2 : Int) (p2 : x2 = mJ z2) (x3 : Int32) (z3 : Int) (p3 : x3 = mJ z3) (x4 : Int32) (z4 : Int) (p4 : x4 = mJ z4) : ∀ (n : Nat) (x5 : Int64) (z5 : Int) (p5 : x5 = mL z5) (x7 : Int32) (z7 : Int) (p7 : x7 = mJ z7) (ζ : ZS) (σ : HS), Rp ζ σ → Sm QJ (g_X12_aboveAt_6 z1 z2 z3 z4 n z5 z7 ζ) (f_X12_aboveAt_6 0 x1 x2 x3 x4 n x5 x7 σ) := by
  intro n
  induction n with
  | zero =>
    intro x5 z5 p5 x7 z7 p7 ζ σ hr
    exact sm_none
  | succ n ih =>
    intro x5 z5 p5 x7 z7 p7 ζ σ hr
    rw [g_X12_aboveAt_6.eq_2, f_X12_aboveAt_6.eq_2]
    refine sm_ile (hr.1 0 20) p7 ?_ ?_
    · exact sm_rj p5 hr
    · refine sm_bind (q_X12_weightAt _ _ p3 _ _ p4 _ _ p7 _ _ hr) (fun q1 w1 e1 => ?_)
      refine sm_bind (q_X12_above _ _ p1 _ _ p2 _ _ p7 _ _ e1.2) (fun q2 w2 e2 => ?_)
      exact ih _ _ (paJ p5 (pmJ e1.1 e2.1)) _ _ (pa p7 li_1) _ _ e2.2
set_option maxHeartbeats 4000000 in
set_option maxRecDepth 100000 in
theorem q_X12_aboveAt (x1 : Int32) (z1 : Int) (p1 : x1 = mJ z1) (x2 : Int32) (z2 : Int) (p2 : x2 = mJ z2) (x3 : Int32) (z3 : Int) (p3 : x3 = mJ z3) (x4 : Int32) (z4 : Int) (p4 : x4 = mJ z4) (ζ : ZS) (σ : HS) (hr : Rp ζ σ) : Sm QJ (g_X12_aboveAt z1 z2 z3 z4 ζ) (f_X12_aboveAt 0 x1 x2 x3 x4 σ) := by
    unfold g_X12_aboveAt f_X12_aboveAt
    exact q_X12_aboveAt_6 _ _ p1 _ _ p2 _ _ p3 _ _ p4 FU _ _ lj_0 _ _ li_0 _ _ hr
set_option maxHeartbeats 4000000 in
set_option maxRecDepth 100000 in
theorem q_X12_sumAt_5 (x1 : Int32) (z1 : Int) (p1 : x1 = mJ z1) (x2 : Int32) (z2 : Int) (p2 : x2 = mJ z2) : ∀ (n : Nat) (x3 : Int64) (z3 : Int) (p3 : x3 = mL z3) (x5 : Int32) (z5 : Int) (p5 : x5 = mJ z5) (ζ : ZS) (σ : HS), Rp ζ σ → Sm QJ (g_X12_sumAt_5 z1 z2 n z3 z5 ζ) (f_X12_sumAt_5 0 x1 x2 n x3 x5 σ) := by
  intro n
  induction n with
  | zero =>
    intro x3 z3 p3 x5 z5 p5 ζ σ hr
    exact sm_none
  | succ n ih =>
    intro x3 z3 p3 x5 z5 p5 ζ σ hr
    rw [g_X12_sumAt_5.eq_2, f_X12_sumAt_5.eq_2]
    refine sm_ile (hr.1 0 20) p5 ?_ ?_
    · exact sm_rj p3 hr
    · refine sm_bind (q_X12_weightAt _ _ p1 _ _ p2 _ _ p5 _ _ hr) (fun q1 w1 e1 => ?_)
      exact ih _ _ (paJ p3 e1.1) _ _ (pa p5 li_1) _ _ e1.2
set_option maxHeartbeats 4000000 in
set_option maxRecDepth 100000 in
theorem q_X12_sumAt (x1 : Int32) (z1 : Int) (p1 : x1 = mJ z1) (x2 : Int32) (z2 : Int) (p2 : x2 = mJ z2) (ζ : ZS) (σ : HS) (hr : Rp ζ σ) : Sm QJ (g_X12_sumAt z1 z2 ζ) (f_X12_sumAt 0 x1 x2 σ) := by
    unfold g_X12_sumAt f_X12_sumAt
    exact q_X12_sumAt_5 _ _ p1 _ _ p2 FU _ _ lj_0 _ _ li_0 _ _ hr
set_option maxHeartbeats 4000000 in
set_option maxRecDepth 100000 in
theorem q_X12_isBetter_41 (r6 : Int → Int → ZS → Option (Int × ZS)) (f6 : Int32 → Int32 → HS → Option (Int32 × HS)) (h6 : ∀ (x4 : Int32) (z4 : Int) (p4 : x4 = mJ z4) (x5 : Int32) (z5 : Int) (p5 : x5 = mJ z5) (ζ : ZS) (σ : HS), Rp ζ σ → Sm QI (r6 z4 z5 ζ) (f6 x4 x5 σ)) (x1 : Int32) (z1 : Int) (p1 : x1 = mJ z1) (x2 : Int32) (z2 : Int) (p2 : x2 = mJ z2) (x3 : Int32) (z3 : Int) (p3 : x3 = mJ z3) (x5 : Int32) (z5 : Int) (p5 : x5 = mJ z5) (xs0 : Int32) (zs0 : Int) (ps0 : xs0 = mJ zs0) (ζ : ZS) (σ : HS) (hr : Rp ζ σ) : Sm QI (g_X12_isBetter_41 r6 z1 z2 z3 z5 zs0 ζ) (f_X12_isBetter_41 f6 0 x1 x2 x3 x5 xs0 σ) := by
    unfold g_X12_isBetter_41 f_X12_isBetter_41
    exact h6 _ _ ps0 _ _ (pa p5 li_1) _ _ hr
set_option maxHeartbeats 4000000 in
set_option maxRecDepth 100000 in
theorem q_X12_isBetter_40 (r6 : Int → Int → ZS → Option (Int × ZS)) (f6 : Int32 → Int32 → HS → Option (Int32 × HS)) (h6 : ∀ (x4 : Int32) (z4 : Int) (p4 : x4 = mJ z4) (x5 : Int32) (z5 : Int) (p5 : x5 = mJ z5) (ζ : ZS) (σ : HS), Rp ζ σ → Sm QI (r6 z4 z5 ζ) (f6 x4 x5 σ)) (x1 : Int32) (z1 : Int) (p1 : x1 = mJ z1) (x2 : Int32) (z2 : Int) (p2 : x2 = mJ z2) (x3 : Int32) (z3 : Int) (p3 : x3 = mJ z3) (x5 : Int32) (z5 : Int) (p5 : x5 = mJ z5) (ζ : ZS) (σ : HS) (hr : Rp ζ σ) : Sm QI (g_X12_isBetter_40 r6 z1 z2 z3 z5 ζ) (f_X12_isBetter_40 f6 0 x1 x2 x3 x5 σ) := by
    unfold g_X12_isBetter_40 f_X12_isBetter_40
    exact q_X12_isBetter_41 _ _ h6 _ _ p1 _ _ p2 _ _ p3 _ _ p5 _ _ li_0 _ _ hr
set_option maxHeartbeats 4000000 in
set_option maxRecDepth 100000 in
theorem q_X12_isBetter_6 (x1 : Int32) (z1 : Int) (p1 : x1 = mJ z1) (x2 : Int32) (z2 : Int) (p2 : x2 = mJ z2) (x3 : Int32) (z3 : Int) (p3 : x3 = mJ z3) : ∀ (n : Nat) (x4 : Int32) (z4 : Int) (p4 : x4 = mJ z4) (x5 : Int32) (z5 : Int) (p5 : x5 = mJ z5) (ζ : ZS) (σ : HS), Rp ζ σ → Sm QI (g_X12_isBetter_6 z1 z2 z3 n z4 z5 ζ) (f_X12_isBetter_6 0 x1 x2 x3 n x4 x5 σ) := by
  intro n
  induction n with
  | zero =>
    intro x4 z4 p4 x5 z5 p5 ζ σ hr
    exact sm_none
  | succ n ih =>
    intro x4 z4 p4 x5 z5 p5 ζ σ hr
    rw [g_X12_isBetter_6.eq_2, f_X12_isBetter_6.eq_2]
    refine sm_rk (a := 20) (pts (rp_s hr) 0 28 20 rfl) kd_20 ?_
    refine sm_ck p3 ln_20 (fun b101 => ?_)
    refine sm_ile (rdI (a := 20) hr p3 b101 (Nat.le_of_ble_eq_true rfl)) p5 ?_ ?_
    · exact sm_zr p4 hr
    · refine sm_ieq p4 li_0 ?_ ?_
      · exact q_X12_isBetter_40 _ _ ih _ _ p1 _ _ p2 _ _ p3 _ _ p5 _ _ hr
      · refine sm_bind (q_X12_aboveAt _ _ p1 _ _ p2 _ _ p3 _ _ p5 _ _ hr) (fun q2 w2 e2 => ?_)
        refine sm_jlt e2.1 lj_0 ?_ ?_
        · exact q_X12_isBetter_40 _ _ ih _ _ p1 _ _ p2 _ _ p3 _ _ p5 _ _ e2.2
        · exact q_X12_isBetter_41 _ _ ih _ _ p1 _ _ p2 _ _ p3 _ _ p5 _ _ li_1 _ _ e2.2
set_option maxHeartbeats 4000000 in
set_option maxRecDepth 100000 in
theorem q_X12_isBetter (x1 : Int32) (z1 : Int) (p1 : x1 = mJ z1) (x2 : Int32) (z2 : Int) (p2 : x2 = mJ z2) (x3 : Int32) (z3 : Int) (p3 : x3 = mJ z3) (ζ : ZS) (σ : HS) (hr : Rp ζ σ) : Sm QI (g_X12_isBetter z1 z2 z3 ζ) (f_X12_isBetter 0 x1 x2 x3 σ) := by
    unfold g_X12_isBetter f_X12_isBetter
    exact q_X12_isBetter_6 _ _ p1 _ _ p2 _ _ p3 FU _ _ li_1 _ _ li_0 _ _ hr
