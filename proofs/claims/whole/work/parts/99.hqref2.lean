set_option maxHeartbeats 4000000 in
set_option maxRecDepth 100000 in
theorem q_X12_isSure_47 (r5 : Int → Int → ZS → Option (Int × ZS)) (f5 : Int32 → Int32 → HS → Option (Int32 × HS)) (h5 : ∀ (x3 : Int32) (z3 : Int) (p3 : x3 = mJ z3) (x4 : Int32) (z4 : Int) (p4 : x4 = mJ z4) (ζ : ZS) (σ : HS), Rp ζ σ → Sm QI (r5 z3 z4 ζ) (f5 x3 x4 σ)) (x1 : Int32) (z1 : Int) (p1 : x1 = mJ z1) (x2 : Int32) (z2 : Int) (p2 : x2 = mJ z2) (x4 : Int32) (z4 : Int) (p4 : x4 = mJ z4) (xs0 : Int32) (zs0 : Int) (ps0 : xs0 = mJ zs0) (ζ : ZS) (σ : HS) (hr : Rp ζ σ) : Sm QI (g_X12_isSure_47 r5 z1 z2 z4 zs0 ζ) (f_X12_isSure_47 f5 0 x1 x2 x4 xs0 σ) := by
    unfold g_X12_isSure_47 f_X12_isSure_47
    exact h5 _ _ ps0 _ _ (pa p4 li_1) _ _ hr
set_option maxHeartbeats 4000000 in
set_option maxRecDepth 100000 in
theorem q_X12_isSure_46 (r5 : Int → Int → ZS → Option (Int × ZS)) (f5 : Int32 → Int32 → HS → Option (Int32 × HS)) (h5 : ∀ (x3 : Int32) (z3 : Int) (p3 : x3 = mJ z3) (x4 : Int32) (z4 : Int) (p4 : x4 = mJ z4) (ζ : ZS) (σ : HS), Rp ζ σ → Sm QI (r5 z3 z4 ζ) (f5 x3 x4 σ)) (x1 : Int32) (z1 : Int) (p1 : x1 = mJ z1) (x2 : Int32) (z2 : Int) (p2 : x2 = mJ z2) (x4 : Int32) (z4 : Int) (p4 : x4 = mJ z4) (ζ : ZS) (σ : HS) (hr : Rp ζ σ) : Sm QI (g_X12_isSure_46 r5 z1 z2 z4 ζ) (f_X12_isSure_46 f5 0 x1 x2 x4 σ) := by
    unfold g_X12_isSure_46 f_X12_isSure_46
    exact q_X12_isSure_47 _ _ h5 _ _ p1 _ _ p2 _ _ p4 _ _ li_0 _ _ hr
set_option maxHeartbeats 4000000 in
set_option maxRecDepth 100000 in
theorem q_X12_isSure_42 (r5 : Int → Int → ZS → Option (Int × ZS)) (f5 : Int32 → Int32 → HS → Option (Int32 × HS)) (h5 : ∀ (x3 : Int32) (z3 : Int) (p3 : x3 = mJ z3) (x4 : Int32) (z4 : Int) (p4 : x4 = mJ z4) (ζ : ZS) (σ : HS), Rp ζ σ → Sm QI (r5 z3 z4 ζ) (f5 x3 x4 σ)) (x1 : Int32) (z1 : Int) (p1 : x1 = mJ z1) (x2 : Int32) (z2 : Int) (p2 : x2 = mJ z2) (x4 : Int32) (z4 : Int) (p4 : x4 = mJ z4) (ζ : ZS) (σ : HS) (hr : Rp ζ σ) : Sm QI (g_X12_isSure_42 r5 z1 z2 z4 ζ) (f_X12_isSure_42 f5 0 x1 x2 x4 σ) := by
    unfold g_X12_isSure_42 f_X12_isSure_42
    exact q_X12_isSure_47 _ _ h5 _ _ p1 _ _ p2 _ _ p4 _ _ li_1 _ _ hr
set_option maxHeartbeats 4000000 in
set_option maxRecDepth 100000 in
theorem q_X12_isSure_5 (x1 : Int32) (z1 : Int) (p1 : x1 = mJ z1) (x2 : Int32) (z2 : Int) (p2 : x2 = mJ z2) : ∀ (n : Nat) (x3 : Int32) (z3 : Int) (p3 : x3 = mJ z3) (x4 : Int32) (z4 : Int) (p4 : x4 = mJ z4) (ζ : ZS) (σ : HS), Rp ζ σ → Sm QI (g_X12_isSure_5 z1 z2 n z3 z4 ζ) (f_X12_isSure_5 0 x1 x2 n x3 x4 σ) := by
  intro n
  induction n with
  | zero =>
    intro x3 z3 p3 x4 z4 p4 ζ σ hr
    exact sm_none
  | succ n ih =>
    intro x3 z3 p3 x4 z4 p4 ζ σ hr
    rw [g_X12_isSure_5.eq_2, f_X12_isSure_5.eq_2]
    refine sm_ile li_8 p4 ?_ ?_
    · exact sm_zr p3 hr
    · refine sm_ieq p3 li_0 ?_ ?_
      · exact q_X12_isSure_46 _ _ ih _ _ p1 _ _ p2 _ _ p4 _ _ hr
      · refine sm_ieq p4 p1 ?_ ?_
        · exact q_X12_isSure_42 _ _ ih _ _ p1 _ _ p2 _ _ p4 _ _ hr
        · refine sm_bind (q_X12_isIn _ _ p4 _ _ hr) (fun q1 w1 e1 => ?_)
          refine sm_ieq e1.1 li_0 ?_ ?_
          · exact q_X12_isSure_42 _ _ ih _ _ p1 _ _ p2 _ _ p4 _ _ e1.2
          · refine sm_bind (q_X12_isBetter _ _ p1 _ _ p4 _ _ p2 _ _ e1.2) (fun q2 w2 e2 => ?_)
            refine sm_ieq e2.1 li_0 ?_ ?_
            · exact q_X12_isSure_46 _ _ ih _ _ p1 _ _ p2 _ _ p4 _ _ e2.2
            · exact q_X12_isSure_42 _ _ ih _ _ p1 _ _ p2 _ _ p4 _ _ e2.2
set_option maxHeartbeats 4000000 in
set_option maxRecDepth 100000 in
theorem q_X12_isSure (x1 : Int32) (z1 : Int) (p1 : x1 = mJ z1) (x2 : Int32) (z2 : Int) (p2 : x2 = mJ z2) (ζ : ZS) (σ : HS) (hr : Rp ζ σ) : Sm QI (g_X12_isSure z1 z2 ζ) (f_X12_isSure 0 x1 x2 σ) := by
    unfold g_X12_isSure f_X12_isSure
    exact q_X12_isSure_5 _ _ p1 _ _ p2 FU _ _ li_1 _ _ li_0 _ _ hr
set_option maxHeartbeats 4000000 in
set_option maxRecDepth 100000 in
theorem q_X12_soonMay_221 (xs0 : Int32) (zs0 : Int) (ps0 : xs0 = mJ zs0) (ζ : ZS) (σ : HS) (hr : Rp ζ σ) : Sm QI (g_X12_soonMay_221 zs0 ζ) (f_X12_soonMay_221 xs0 σ) := by
    unfold g_X12_soonMay_221 f_X12_soonMay_221
    exact sm_ri ps0 hr
set_option maxHeartbeats 4000000 in
set_option maxRecDepth 100000 in
theorem q_X12_soonMay_195 (r104 : Int → Int → ZS → Option (Int × ZS)) (f104 : Int32 → Int32 → HS → Option (Int32 × HS)) (h104 : ∀ (x4 : Int32) (z4 : Int) (p4 : x4 = mJ z4) (x5 : Int32) (z5 : Int) (p5 : x5 = mJ z5) (ζ : ZS) (σ : HS), Rp ζ σ → Sm QI (r104 z4 z5 ζ) (f104 x4 x5 σ)) (x1 : Int32) (z1 : Int) (p1 : x1 = mJ z1) (x2 : Int32) (z2 : Int) (p2 : x2 = mJ z2) (x3 : Int32) (z3 : Int) (p3 : x3 = mJ z3) (x5 : Int32) (z5 : Int) (p5 : x5 = mJ z5) (xs0 : Int32) (zs0 : Int) (ps0 : xs0 = mJ zs0) (ζ : ZS) (σ : HS) (hr : Rp ζ σ) : Sm QI (g_X12_soonMay_195 r104 z1 z2 z3 z5 zs0 ζ) (f_X12_soonMay_195 f104 0 x1 x2 x3 x5 xs0 σ) := by
    unfold g_X12_soonMay_195 f_X12_soonMay_195
    exact h104 _ _ ps0 _ _ (pa p5 li_1) _ _ hr
set_option maxHeartbeats 4000000 in
set_option maxRecDepth 100000 in
theorem q_X12_soonMay_190 (r104 : Int → Int → ZS → Option (Int × ZS)) (f104 : Int32 → Int32 → HS → Option (Int32 × HS)) (h104 : ∀ (x4 : Int32) (z4 : Int) (p4 : x4 = mJ z4) (x5 : Int32) (z5 : Int) (p5 : x5 = mJ z5) (ζ : ZS) (σ : HS), Rp ζ σ → Sm QI (r104 z4 z5 ζ) (f104 x4 x5 σ)) (x1 : Int32) (z1 : Int) (p1 : x1 = mJ z1) (x2 : Int32) (z2 : Int) (p2 : x2 = mJ z2) (x3 : Int32) (z3 : Int) (p3 : x3 = mJ z3) (x5 : Int32) (z5 : Int) (p5 : x5 = mJ z5) (ζ : ZS) (σ : HS) (hr : Rp ζ σ) : Sm QI (g_X12_soonMay_190 r104 z1 z2 z3 z5 ζ) (f_X12_soonMay_190 f104 0 x1 x2 x3 x5 σ) := by
    unfold g_X12_soonMay_190 f_X12_soonMay_190
    exact q_X12_soonMay_195 _ _ h104 _ _ p1 _ _ p2 _ _ p3 _ _ p5 _ _ li_1 _ _ hr
set_option maxHeartbeats 4000000 in
set_option maxRecDepth 100000 in
theorem q_X12_soonMay_172 (r104 : Int → Int → ZS → Option (Int × ZS)) (f104 : Int32 → Int32 → HS → Option (Int32 × HS)) (h104 : ∀ (x4 : Int32) (z4 : Int) (p4 : x4 = mJ z4) (x5 : Int32) (z5 : Int) (p5 : x5 = mJ z5) (ζ : ZS) (σ : HS), Rp ζ σ → Sm QI (r104 z4 z5 ζ) (f104 x4 x5 σ)) (r136 : Int → Int → ZS → Option (Int × ZS)) (f136 : Int32 → Int32 → HS → Option (Int32 × HS)) (h136 : ∀ (x6 : Int32) (z6 : Int) (p6 : x6 = mJ z6) (x7 : Int32) (z7 : Int) (p7 : x7 = mJ z7) (ζ : ZS) (σ : HS), Rp ζ σ → Sm QI (r136 z6 z7 ζ) (f136 x6 x7 σ)) (x1 : Int32) (z1 : Int) (p1 : x1 = mJ z1) (x2 : Int32) (z2 : Int) (p2 : x2 = mJ z2) (x3 : Int32) (z3 : Int) (p3 : x3 = mJ z3) (x4 : Int32) (z4 : Int) (p4 : x4 = mJ z4) (x5 : Int32) (z5 : Int) (p5 : x5 = mJ z5) (x7 : Int32) (z7 : Int) (p7 : x7 = mJ z7) (xs0 : Int32) (zs0 : Int) (ps0 : xs0 = mJ zs0) (ζ : ZS) (σ : HS) (hr : Rp ζ σ) : Sm QI (g_X12_soonMay_172 r104 r136 z1 z2 z3 z4 z5 z7 zs0 ζ) (f_X12_soonMay_172 f104 f136 0 x1 x2 x3 x4 x5 x7 xs0 σ) := by
    unfold g_X12_soonMay_172 f_X12_soonMay_172
    exact h136 _ _ ps0 _ _ (pa p7 li_1) _ _ hr
set_option maxHeartbeats 4000000 in
set_option maxRecDepth 100000 in
theorem q_X12_soonMay_171 (r104 : Int → Int → ZS → Option (Int × ZS)) (f104 : Int32 → Int32 → HS → Option (Int32 × HS)) (h104 : ∀ (x4 : Int32) (z4 : Int) (p4 : x4 = mJ z4) (x5 : Int32) (z5 : Int) (p5 : x5 = mJ z5) (ζ : ZS) (σ : HS), Rp ζ σ → Sm QI (r104 z4 z5 ζ) (f104 x4 x5 σ)) (r136 : Int → Int → ZS → Option (Int × ZS)) (f136 : Int32 → Int32 → HS → Option (Int32 × HS)) (h136 : ∀ (x6 : Int32) (z6 : Int) (p6 : x6 = mJ z6) (x7 : Int32) (z7 : Int) (p7 : x7 = mJ z7) (ζ : ZS) (σ : HS), Rp ζ σ → Sm QI (r136 z6 z7 ζ) (f136 x6 x7 σ)) (x1 : Int32) (z1 : Int) (p1 : x1 = mJ z1) (x2 : Int32) (z2 : Int) (p2 : x2 = mJ z2) (x3 : Int32) (z3 : Int) (p3 : x3 = mJ z3) (x4 : Int32) (z4 : Int) (p4 : x4 = mJ z4) (x5 : Int32) (z5 : Int) (p5 : x5 = mJ z5) (x7 : Int32) (z7 : Int) (p7 : x7 = mJ z7) (ζ : ZS) (σ : HS) (hr : Rp ζ σ) : Sm QI (g_X12_soonMay_171 r104 r136 z1 z2 z3 z4 z5 z7 ζ) (f_X12_soonMay_171 f104 f136 0 x1 x2 x3 x4 x5 x7 σ) := by
    unfold g_X12_soonMay_171 f_X12_soonMay_171
    exact q_X12_soonMay_172 _ _ h104 _ _ h136 _ _ p1 _ _ p2 _ _ p3 _ _ p4 _ _ p5 _ _ p7 _ _ li_0 _ _ hr
set_option maxHeartbeats 4000000 in
set_option maxRecDepth 100000 in
theorem q_X12_soonMay_136 (x1 : Int32) (z1 : Int) (p1 : x1 = mJ z1) (x2 : Int32) (z2 : Int) (p2 : x2 = mJ z2) (x3 : Int32) (z3 : Int) (p3 : x3 = mJ z3) (x4 : Int32) (z4 : Int) (p4 : x4 = mJ z4) (x5 : Int32) (z5 : Int) (p5 : x5 = mJ z5) (r104 : Int → Int → ZS → Option (Int × ZS)) (f104 : Int32 → Int32 → HS → Option (Int32 × HS)) (h104 : ∀ (x4 : Int32) (z4 : Int) (p4 : x4 = mJ z4) (x5 : Int32) (z5 : Int) (p5 : x5 = mJ z5) (ζ : ZS) (σ : HS), Rp ζ σ → Sm QI (r104 z4 z5 ζ) (f104 x4 x5 σ)) : ∀ (n : Nat) (x6 : Int32) (z6 : Int) (p6 : x6 = mJ z6) (x7 : Int32) (z7 : Int) (p7 : x7 = mJ z7) (ζ : ZS) (σ : HS), Rp ζ σ → Sm QI (g_X12_soonMay_136 z1 z2 z3 z4 z5 r104 n z6 z7 ζ) (f_X12_soonMay_136 0 x1 x2 x3 x4 x5 f104 n x6 x7 σ) := by
  intro n
  induction n with
  | zero =>
    intro x6 z6 p6 x7 z7 p7 ζ σ hr
    exact sm_none
  | succ n ih =>
    intro x6 z6 p6 x7 z7 p7 ζ σ hr
    rw [g_X12_soonMay_136.eq_2, f_X12_soonMay_136.eq_2]
    refine sm_rk (a := 20) (pts (rp_s hr) 0 28 20 rfl) kd_20 ?_
    refine sm_ck p2 ln_20 (fun b101 => ?_)
    refine sm_ile (rdI (a := 20) hr p2 b101 (Nat.le_of_ble_eq_true rfl)) p7 ?_ ?_
    · refine sm_ieq p4 li_0 ?_ ?_
      · refine sm_ieq p6 li_0 ?_ ?_
        · exact q_X12_soonMay_195 _ _ h104 _ _ p1 _ _ p2 _ _ p3 _ _ p5 _ _ li_0 _ _ hr
        · exact q_X12_soonMay_190 _ _ h104 _ _ p1 _ _ p2 _ _ p3 _ _ p5 _ _ hr
      · exact q_X12_soonMay_190 _ _ h104 _ _ p1 _ _ p2 _ _ p3 _ _ p5 _ _ hr
    · refine sm_ieq p6 li_0 ?_ ?_
      · exact q_X12_soonMay_171 _ _ h104 _ _ ih _ _ p1 _ _ p2 _ _ p3 _ _ p4 _ _ p5 _ _ p7 _ _ hr
      · refine sm_bind (q_X12_aboveAt _ _ p1 _ _ p5 _ _ p2 _ _ p7 _ _ hr) (fun q2 w2 e2 => ?_)
        refine sm_jle lj_0 e2.1 ?_ ?_
        · exact q_X12_soonMay_171 _ _ h104 _ _ ih _ _ p1 _ _ p2 _ _ p3 _ _ p4 _ _ p5 _ _ p7 _ _ e2.2
        · exact q_X12_soonMay_172 _ _ h104 _ _ ih _ _ p1 _ _ p2 _ _ p3 _ _ p4 _ _ p5 _ _ p7 _ _ li_1 _ _ e2.2
set_option maxHeartbeats 4000000 in
set_option maxRecDepth 100000 in
theorem q_X12_soonMay_131 (r104 : Int → Int → ZS → Option (Int × ZS)) (f104 : Int32 → Int32 → HS → Option (Int32 × HS)) (h104 : ∀ (x4 : Int32) (z4 : Int) (p4 : x4 = mJ z4) (x5 : Int32) (z5 : Int) (p5 : x5 = mJ z5) (ζ : ZS) (σ : HS), Rp ζ σ → Sm QI (r104 z4 z5 ζ) (f104 x4 x5 σ)) (x1 : Int32) (z1 : Int) (p1 : x1 = mJ z1) (x2 : Int32) (z2 : Int) (p2 : x2 = mJ z2) (x3 : Int32) (z3 : Int) (p3 : x3 = mJ z3) (x4 : Int32) (z4 : Int) (p4 : x4 = mJ z4) (x5 : Int32) (z5 : Int) (p5 : x5 = mJ z5) (xs0 : Int32) (zs0 : Int) (ps0 : xs0 = mJ zs0) (ζ : ZS) (σ : HS) (hr : Rp ζ σ) : Sm QI (g_X12_soonMay_131 r104 z1 z2 z3 z4 z5 zs0 ζ) (f_X12_soonMay_131 f104 0 x1 x2 x3 x4 x5 xs0 σ) := by
    unfold g_X12_soonMay_131 f_X12_soonMay_131
    exact q_X12_soonMay_136 _ _ p1 _ _ p2 _ _ p3 _ _ p4 _ _ p5 _ _ h104 FU _ _ ps0 _ _ li_0 _ _ hr
set_option maxHeartbeats 4000000 in
set_option maxRecDepth 100000 in
theorem q_X12_soonMay_130 (r104 : Int → Int → ZS → Option (Int × ZS)) (f104 : Int32 → Int32 → HS → Option (Int32 × HS)) (h104 : ∀ (x4 : Int32) (z4 : Int) (p4 : x4 = mJ z4) (x5 : Int32) (z5 : Int) (p5 : x5 = mJ z5) (ζ : ZS) (σ : HS), Rp ζ σ → Sm QI (r104 z4 z5 ζ) (f104 x4 x5 σ)) (x1 : Int32) (z1 : Int) (p1 : x1 = mJ z1) (x2 : Int32) (z2 : Int) (p2 : x2 = mJ z2) (x3 : Int32) (z3 : Int) (p3 : x3 = mJ z3) (x4 : Int32) (z4 : Int) (p4 : x4 = mJ z4) (x5 : Int32) (z5 : Int) (p5 : x5 = mJ z5) (ζ : ZS) (σ : HS) (hr : Rp ζ σ) : Sm QI (g_X12_soonMay_130 r104 z1 z2 z3 z4 z5 ζ) (f_X12_soonMay_130 f104 0 x1 x2 x3 x4 x5 σ) := by
    unfold g_X12_soonMay_130 f_X12_soonMay_130
    exact q_X12_soonMay_131 _ _ h104 _ _ p1 _ _ p2 _ _ p3 _ _ p4 _ _ p5 _ _ li_0 _ _ hr
set_option maxHeartbeats 4000000 in
set_option maxRecDepth 100000 in
theorem q_X12_soonMay_104 (x1 : Int32) (z1 : Int) (p1 : x1 = mJ z1) (x2 : Int32) (z2 : Int) (p2 : x2 = mJ z2) (x3 : Int32) (z3 : Int) (p3 : x3 = mJ z3) : ∀ (n : Nat) (x4 : Int32) (z4 : Int) (p4 : x4 = mJ z4) (x5 : Int32) (z5 : Int) (p5 : x5 = mJ z5) (ζ : ZS) (σ : HS), Rp ζ σ → Sm QI (g_X12_soonMay_104 z1 z2 z3 n z4 z5 ζ) (f_X12_soonMay_104 0 x1 x2 x3 n x4 x5 σ) := by
  intro n
  induction n with
  | zero =>
    intro x4 z4 p4 x5 z5 p5 ζ σ hr
    exact sm_none
  | succ n ih =>
    intro x4 z4 p4 x5 z5 p5 ζ σ hr
    rw [g_X12_soonMay_104.eq_2, f_X12_soonMay_104.eq_2]
    refine sm_ile li_8 p5 ?_ ?_
    · refine sm_ieq p3 li_0 ?_ ?_
      · refine sm_ieq p4 li_0 ?_ ?_
        · exact q_X12_soonMay_221 _ _ li_0 _ _ hr
        · exact q_X12_soonMay_221 _ _ li_m1 _ _ hr
      · exact q_X12_soonMay_221 _ _ li_1 _ _ hr
    · refine sm_ieq p5 p1 ?_ ?_
      · exact q_X12_soonMay_130 _ _ ih _ _ p1 _ _ p2 _ _ p3 _ _ p4 _ _ p5 _ _ hr
      · refine sm_bind (q_X12_isIn _ _ p5 _ _ hr) (fun q1 w1 e1 => ?_)
        refine sm_ieq e1.1 li_0 ?_ ?_
        · exact q_X12_soonMay_130 _ _ ih _ _ p1 _ _ p2 _ _ p3 _ _ p4 _ _ p5 _ _ e1.2
        · exact q_X12_soonMay_131 _ _ ih _ _ p1 _ _ p2 _ _ p3 _ _ p4 _ _ p5 _ _ li_1 _ _ e1.2
set_option maxHeartbeats 4000000 in
set_option maxRecDepth 100000 in
theorem q_X12_soonMay_91 (r5 : Int → Int → ZS → Option (Int × ZS)) (f5 : Int32 → Int32 → HS → Option (Int32 × HS)) (h5 : ∀ (x3 : Int32) (z3 : Int) (p3 : x3 = mJ z3) (x4 : Int32) (z4 : Int) (p4 : x4 = mJ z4) (ζ : ZS) (σ : HS), Rp ζ σ → Sm QI (r5 z3 z4 ζ) (f5 x3 x4 σ)) (x1 : Int32) (z1 : Int) (p1 : x1 = mJ z1) (x2 : Int32) (z2 : Int) (p2 : x2 = mJ z2) (x4 : Int32) (z4 : Int) (p4 : x4 = mJ z4) (xs0 : Int32) (zs0 : Int) (ps0 : xs0 = mJ zs0) (ζ : ZS) (σ : HS) (hr : Rp ζ σ) : Sm QI (g_X12_soonMay_91 r5 z1 z2 z4 zs0 ζ) (f_X12_soonMay_91 f5 0 x1 x2 x4 xs0 σ) := by
    unfold g_X12_soonMay_91 f_X12_soonMay_91
    exact h5 _ _ ps0 _ _ (pa p4 li_1) _ _ hr
set_option maxHeartbeats 4000000 in
set_option maxRecDepth 100000 in
theorem q_X12_soonMay_86 (r5 : Int → Int → ZS → Option (Int × ZS)) (f5 : Int32 → Int32 → HS → Option (Int32 × HS)) (h5 : ∀ (x3 : Int32) (z3 : Int) (p3 : x3 = mJ z3) (x4 : Int32) (z4 : Int) (p4 : x4 = mJ z4) (ζ : ZS) (σ : HS), Rp ζ σ → Sm QI (r5 z3 z4 ζ) (f5 x3 x4 σ)) (x1 : Int32) (z1 : Int) (p1 : x1 = mJ z1) (x2 : Int32) (z2 : Int) (p2 : x2 = mJ z2) (x4 : Int32) (z4 : Int) (p4 : x4 = mJ z4) (ζ : ZS) (σ : HS) (hr : Rp ζ σ) : Sm QI (g_X12_soonMay_86 r5 z1 z2 z4 ζ) (f_X12_soonMay_86 f5 0 x1 x2 x4 σ) := by
    unfold g_X12_soonMay_86 f_X12_soonMay_86
    exact q_X12_soonMay_91 _ _ h5 _ _ p1 _ _ p2 _ _ p4 _ _ li_1 _ _ hr
set_option maxHeartbeats 4000000 in
set_option maxRecDepth 100000 in
theorem q_X12_soonMay_69 (r5 : Int → Int → ZS → Option (Int × ZS)) (f5 : Int32 → Int32 → HS → Option (Int32 × HS)) (h5 : ∀ (x3 : Int32) (z3 : Int) (p3 : x3 = mJ z3) (x4 : Int32) (z4 : Int) (p4 : x4 = mJ z4) (ζ : ZS) (σ : HS), Rp ζ σ → Sm QI (r5 z3 z4 ζ) (f5 x3 x4 σ)) (r22 : Int → Int → ZS → Option (Int × ZS)) (f22 : Int32 → Int32 → HS → Option (Int32 × HS)) (h22 : ∀ (x5 : Int32) (z5 : Int) (p5 : x5 = mJ z5) (x6 : Int32) (z6 : Int) (p6 : x6 = mJ z6) (ζ : ZS) (σ : HS), Rp ζ σ → Sm QI (r22 z5 z6 ζ) (f22 x5 x6 σ)) (x1 : Int32) (z1 : Int) (p1 : x1 = mJ z1) (x2 : Int32) (z2 : Int) (p2 : x2 = mJ z2) (x3 : Int32) (z3 : Int) (p3 : x3 = mJ z3) (x4 : Int32) (z4 : Int) (p4 : x4 = mJ z4) (x6 : Int32) (z6 : Int) (p6 : x6 = mJ z6) (xs0 : Int32) (zs0 : Int) (ps0 : xs0 = mJ zs0) (ζ : ZS) (σ : HS) (hr : Rp ζ σ) : Sm QI (g_X12_soonMay_69 r5 r22 z1 z2 z3 z4 z6 zs0 ζ) (f_X12_soonMay_69 f5 f22 0 x1 x2 x3 x4 x6 xs0 σ) := by
    unfold g_X12_soonMay_69 f_X12_soonMay_69
    exact h22 _ _ ps0 _ _ (pa p6 li_1) _ _ hr
set_option maxHeartbeats 4000000 in
set_option maxRecDepth 100000 in
theorem q_X12_soonMay_68 (r5 : Int → Int → ZS → Option (Int × ZS)) (f5 : Int32 → Int32 → HS → Option (Int32 × HS)) (h5 : ∀ (x3 : Int32) (z3 : Int) (p3 : x3 = mJ z3) (x4 : Int32) (z4 : Int) (p4 : x4 = mJ z4) (ζ : ZS) (σ : HS), Rp ζ σ → Sm QI (r5 z3 z4 ζ) (f5 x3 x4 σ)) (r22 : Int → Int → ZS → Option (Int × ZS)) (f22 : Int32 → Int32 → HS → Option (Int32 × HS)) (h22 : ∀ (x5 : Int32) (z5 : Int) (p5 : x5 = mJ z5) (x6 : Int32) (z6 : Int) (p6 : x6 = mJ z6) (ζ : ZS) (σ : HS), Rp ζ σ → Sm QI (r22 z5 z6 ζ) (f22 x5 x6 σ)) (x1 : Int32) (z1 : Int) (p1 : x1 = mJ z1) (x2 : Int32) (z2 : Int) (p2 : x2 = mJ z2) (x3 : Int32) (z3 : Int) (p3 : x3 = mJ z3) (x4 : Int32) (z4 : Int) (p4 : x4 = mJ z4) (x6 : Int32) (z6 : Int) (p6 : x6 = mJ z6) (ζ : ZS) (σ : HS) (hr : Rp ζ σ) : Sm QI (g_X12_soonMay_68 r5 r22 z1 z2 z3 z4 z6 ζ) (f_X12_soonMay_68 f5 f22 0 x1 x2 x3 x4 x6 σ) := by
    unfold g_X12_soonMay_68 f_X12_soonMay_68
    exact q_X12_soonMay_69 _ _ h5 _ _ h22 _ _ p1 _ _ p2 _ _ p3 _ _ p4 _ _ p6 _ _ li_0 _ _ hr
set_option maxHeartbeats 4000000 in
set_option maxRecDepth 100000 in
theorem q_X12_soonMay_64 (r5 : Int → Int → ZS → Option (Int × ZS)) (f5 : Int32 → Int32 → HS → Option (Int32 × HS)) (h5 : ∀ (x3 : Int32) (z3 : Int) (p3 : x3 = mJ z3) (x4 : Int32) (z4 : Int) (p4 : x4 = mJ z4) (ζ : ZS) (σ : HS), Rp ζ σ → Sm QI (r5 z3 z4 ζ) (f5 x3 x4 σ)) (r22 : Int → Int → ZS → Option (Int × ZS)) (f22 : Int32 → Int32 → HS → Option (Int32 × HS)) (h22 : ∀ (x5 : Int32) (z5 : Int) (p5 : x5 = mJ z5) (x6 : Int32) (z6 : Int) (p6 : x6 = mJ z6) (ζ : ZS) (σ : HS), Rp ζ σ → Sm QI (r22 z5 z6 ζ) (f22 x5 x6 σ)) (x1 : Int32) (z1 : Int) (p1 : x1 = mJ z1) (x2 : Int32) (z2 : Int) (p2 : x2 = mJ z2) (x3 : Int32) (z3 : Int) (p3 : x3 = mJ z3) (x4 : Int32) (z4 : Int) (p4 : x4 = mJ z4) (x6 : Int32) (z6 : Int) (p6 : x6 = mJ z6) (ζ : ZS) (σ : HS) (hr : Rp ζ σ) : Sm QI (g_X12_soonMay_64 r5 r22 z1 z2 z3 z4 z6 ζ) (f_X12_soonMay_64 f5 f22 0 x1 x2 x3 x4 x6 σ) := by
    unfold g_X12_soonMay_64 f_X12_soonMay_64
    exact q_X12_soonMay_69 _ _ h5 _ _ h22 _ _ p1 _ _ p2 _ _ p3 _ _ p4 _ _ p6 _ _ li_1 _ _ hr
set_option maxHeartbeats 4000000 in
set_option maxRecDepth 100000 in
theorem q_X12_soonMay_22 (x1 : Int32) (z1 : Int) (p1 : x1 = mJ z1) (x2 : Int32) (z2 : Int) (p2 : x2 = mJ z2) (x3 : Int32) (z3 : Int) (p3 : x3 = mJ z3) (x4 : Int32) (z4 : Int) (p4 : x4 = mJ z4) (r5 : Int → Int → ZS → Option (Int × ZS)) (f5 : Int32 → Int32 → HS → Option (Int32 × HS)) (h5 : ∀ (x3 : Int32) (z3 : Int) (p3 : x3 = mJ z3) (x4 : Int32) (z4 : Int) (p4 : x4 = mJ z4) (ζ : ZS) (σ : HS), Rp ζ σ → Sm QI (r5 z3 z4 ζ) (f5 x3 x4 σ)) : ∀ (n : Nat) (x5 : Int32) (z5 : Int) (p5 : x5 = mJ z5) (x6 : Int32) (z6 : Int) (p6 : x6 = mJ z6) (ζ : ZS) (σ : HS), Rp ζ σ → Sm QI (g_X12_soonMay_22 z1 z2 z3 z4 r5 n z5 z6 ζ) (f_X12_soonMay_22 0 x1 x2 x3 x4 f5 n x5 x6 σ) := by
  intro n
  induction n with
  | zero =>
    intro x5 z5 p5 x6 z6 p6 ζ σ hr
    exact sm_none
  | succ n ih =>
    intro x5 z5 p5 x6 z6 p6 ζ σ hr
    rw [g_X12_soonMay_22.eq_2, f_X12_soonMay_22.eq_2]
    refine sm_ile li_8 p6 ?_ ?_
    · refine sm_ieq p3 li_0 ?_ ?_
      · refine sm_ieq p5 li_0 ?_ ?_
        · exact q_X12_soonMay_91 _ _ h5 _ _ p1 _ _ p2 _ _ p4 _ _ li_0 _ _ hr
        · exact q_X12_soonMay_86 _ _ h5 _ _ p1 _ _ p2 _ _ p4 _ _ hr
      · exact q_X12_soonMay_86 _ _ h5 _ _ p1 _ _ p2 _ _ p4 _ _ hr
    · refine sm_ieq p5 li_0 ?_ ?_
      · exact q_X12_soonMay_68 _ _ h5 _ _ ih _ _ p1 _ _ p2 _ _ p3 _ _ p4 _ _ p6 _ _ hr
      · refine sm_ieq p6 p1 ?_ ?_
        · exact q_X12_soonMay_64 _ _ h5 _ _ ih _ _ p1 _ _ p2 _ _ p3 _ _ p4 _ _ p6 _ _ hr
        · refine sm_bind (q_X12_isIn _ _ p6 _ _ hr) (fun q1 w1 e1 => ?_)
          refine sm_ieq e1.1 li_0 ?_ ?_
          · exact q_X12_soonMay_64 _ _ h5 _ _ ih _ _ p1 _ _ p2 _ _ p3 _ _ p4 _ _ p6 _ _ e1.2
          · refine sm_bind (q_X12_aboveAt _ _ p1 _ _ p6 _ _ p2 _ _ p4 _ _ e1.2) (fun q2 w2 e2 => ?_)
            refine sm_jlt e2.1 lj_0 ?_ ?_
            · exact q_X12_soonMay_68 _ _ h5 _ _ ih _ _ p1 _ _ p2 _ _ p3 _ _ p4 _ _ p6 _ _ e2.2
            · exact q_X12_soonMay_64 _ _ h5 _ _ ih _ _ p1 _ _ p2 _ _ p3 _ _ p4 _ _ p6 _ _ e2.2
set_option maxHeartbeats 4000000 in
set_option maxRecDepth 100000 in
theorem q_X12_soonMay_5 (x1 : Int32) (z1 : Int) (p1 : x1 = mJ z1) (x2 : Int32) (z2 : Int) (p2 : x2 = mJ z2) : ∀ (n : Nat) (x3 : Int32) (z3 : Int) (p3 : x3 = mJ z3) (x4 : Int32) (z4 : Int) (p4 : x4 = mJ z4) (ζ : ZS) (σ : HS), Rp ζ σ → Sm QI (g_X12_soonMay_5 z1 z2 n z3 z4 ζ) (f_X12_soonMay_5 0 x1 x2 n x3 x4 σ) := by
  intro n
  induction n with
  | zero =>
    intro x3 z3 p3 x4 z4 p4 ζ σ hr
    exact sm_none
  | succ n ih =>
    intro x3 z3 p3 x4 z4 p4 ζ σ hr
    rw [g_X12_soonMay_5.eq_2, f_X12_soonMay_5.eq_2]
    refine sm_rk (a := 20) (pts (rp_s hr) 0 28 20 rfl) kd_20 ?_
    refine sm_ck p2 ln_20 (fun b101 => ?_)
    refine sm_ile (rdI (a := 20) hr p2 b101 (Nat.le_of_ble_eq_true rfl)) p4 ?_ ?_
    · exact q_X12_soonMay_104 _ _ p1 _ _ p2 _ _ p3 FU _ _ li_0 _ _ li_0 _ _ hr
    · exact q_X12_soonMay_22 _ _ p1 _ _ p2 _ _ p3 _ _ p4 _ _ ih FU _ _ li_1 _ _ li_0 _ _ hr
set_option maxHeartbeats 4000000 in
set_option maxRecDepth 100000 in
theorem q_X12_soonMay (x1 : Int32) (z1 : Int) (p1 : x1 = mJ z1) (x2 : Int32) (z2 : Int) (p2 : x2 = mJ z2) (ζ : ZS) (σ : HS) (hr : Rp ζ σ) : Sm QI (g_X12_soonMay z1 z2 ζ) (f_X12_soonMay 0 x1 x2 σ) := by
    unfold g_X12_soonMay f_X12_soonMay
    exact q_X12_soonMay_5 _ _ p1 _ _ p2 FU _ _ li_0 _ _ li_0 _ _ hr
set_option maxHeartbeats 4000000 in
set_option maxRecDepth 100000 in
theorem q_X12_mayBe_96 (x2 : Int32) (z2 : Int) (p2 : x2 = mJ z2) (xs0 : Int32) (zs0 : Int) (ps0 : xs0 = mJ zs0) (ζ : ZS) (σ : HS) (hr : Rp ζ σ) : Sm QI (g_X12_mayBe_96 z2 zs0 ζ) (f_X12_mayBe_96 0 x2 xs0 σ) := by
    unfold g_X12_mayBe_96 f_X12_mayBe_96
    refine sm_bind (q_X12_backTo _ _ p2 _ _ hr) (fun q1 w1 e1 => ?_)
    exact sm_zr ps0 e1
set_option maxHeartbeats 4000000 in
set_option maxRecDepth 100000 in
theorem q_X12_mayBe_81 (x2 : Int32) (z2 : Int) (p2 : x2 = mJ z2) (x4 : Int32) (z4 : Int) (p4 : x4 = mJ z4) (ζ : ZS) (σ : HS) (hr : Rp ζ σ) : Sm QI (g_X12_mayBe_81 z2 z4 ζ) (f_X12_mayBe_81 0 x2 x4 σ) := by
    unfold g_X12_mayBe_81 f_X12_mayBe_81
    refine sm_rk (a := 20) (pts (rp_s hr) 0 28 20 rfl) kd_20 ?_
    refine sm_ck p4 ln_20 (fun b101 => ?_)
    refine sm_ile (rdI (a := 20) hr p4 b101 (Nat.le_of_ble_eq_true rfl)) li_0 ?_ ?_
    · exact q_X12_mayBe_96 _ _ p2 _ _ li_0 _ _ hr
    · exact q_X12_mayBe_96 _ _ p2 _ _ li_1 _ _ hr
set_option maxHeartbeats 4000000 in
set_option maxRecDepth 100000 in
theorem q_X12_mayBe_75 (r27 : Int → Int → ZS → Option (Int × ZS)) (f27 : Int32 → Int32 → HS → Option (Int32 × HS)) (h27 : ∀ (x4 : Int32) (z4 : Int) (p4 : x4 = mJ z4) (x5 : Int32) (z5 : Int) (p5 : x5 = mJ z5) (ζ : ZS) (σ : HS), Rp ζ σ → Sm QI (r27 z4 z5 ζ) (f27 x4 x5 σ)) (x1 : Int32) (z1 : Int) (p1 : x1 = mJ z1) (x2 : Int32) (z2 : Int) (p2 : x2 = mJ z2) (x4 : Int32) (z4 : Int) (p4 : x4 = mJ z4) (x5 : Int32) (z5 : Int) (p5 : x5 = mJ z5) (ζ : ZS) (σ : HS) (hr : Rp ζ σ) : Sm QI (g_X12_mayBe_75 r27 z1 z2 z4 z5 ζ) (f_X12_mayBe_75 f27 0 x1 x2 x4 x5 σ) := by
    unfold g_X12_mayBe_75 f_X12_mayBe_75
    exact h27 _ _ p4 _ _ (pa p5 li_1) _ _ hr
set_option maxHeartbeats 4000000 in
set_option maxRecDepth 100000 in
theorem q_X12_mayBe_27 (x1 : Int32) (z1 : Int) (p1 : x1 = mJ z1) (x2 : Int32) (z2 : Int) (p2 : x2 = mJ z2) : ∀ (n : Nat) (x4 : Int32) (z4 : Int) (p4 : x4 = mJ z4) (x5 : Int32) (z5 : Int) (p5 : x5 = mJ z5) (ζ : ZS) (σ : HS), Rp ζ σ → Sm QI (g_X12_mayBe_27 z1 z2 n z4 z5 ζ) (f_X12_mayBe_27 0 x1 x2 n x4 x5 σ) := by
  intro n
  induction n with
  | zero =>
    intro x4 z4 p4 x5 z5 p5 ζ σ hr
    exact sm_none
  | succ n ih =>
    intro x4 z4 p4 x5 z5 p5 ζ σ hr
    rw [g_X12_mayBe_27.eq_2, f_X12_mayBe_27.eq_2]
    refine sm_ile li_8 p5 ?_ ?_
    · exact q_X12_mayBe_81 _ _ p2 _ _ p4 _ _ hr
    · refine sm_rk (a := 20) (pts (rp_s hr) 0 28 20 rfl) kd_20 ?_
      refine sm_ck p4 ln_20 (fun b101 => ?_)
      refine sm_ile (rdI (a := 20) hr p4 b101 (Nat.le_of_ble_eq_true rfl)) li_0 ?_ ?_
      · exact q_X12_mayBe_81 _ _ p2 _ _ p4 _ _ hr
      · refine sm_ieq p5 p1 ?_ ?_
        · exact q_X12_mayBe_75 _ _ ih _ _ p1 _ _ p2 _ _ p4 _ _ p5 _ _ hr
        · refine sm_bind (q_X12_isIn _ _ p5 _ _ hr) (fun q2 w2 e2 => ?_)
          refine sm_ieq e2.1 li_0 ?_ ?_
          · exact q_X12_mayBe_75 _ _ ih _ _ p1 _ _ p2 _ _ p4 _ _ p5 _ _ e2.2
          · refine sm_bind (q_X12_addsAbove _ _ p1 _ _ p5 _ _ e2.2) (fun q3 w3 e3 => ?_)
            refine sm_bind (q_X12_findMore _ _ (pa p4 li_1) _ _ e3) (fun q4 w4 e4 => ?_)
            exact q_X12_mayBe_75 _ _ ih _ _ p1 _ _ p2 _ _ (pa p4 li_1) _ _ p5 _ _ e4
set_option maxHeartbeats 4000000 in
set_option maxRecDepth 100000 in
theorem q_X12_mayBe_20 (xs0 : Int32) (zs0 : Int) (ps0 : xs0 = mJ zs0) (ζ : ZS) (σ : HS) (hr : Rp ζ σ) : Sm QI (g_X12_mayBe_20 zs0 ζ) (f_X12_mayBe_20 xs0 σ) := by
    unfold g_X12_mayBe_20 f_X12_mayBe_20
    exact sm_zr ps0 hr
set_option maxHeartbeats 4000000 in
set_option maxRecDepth 100000 in
theorem q_X12_mayBe (x1 : Int32) (z1 : Int) (p1 : x1 = mJ z1) (x2 : Int32) (z2 : Int) (p2 : x2 = mJ z2) (ζ : ZS) (σ : HS) (hr : Rp ζ σ) : Sm QI (g_X12_mayBe z1 z2 ζ) (f_X12_mayBe 0 x1 x2 σ) := by
    unfold g_X12_mayBe f_X12_mayBe
    refine sm_bind (q_X12_soonMay _ _ p1 _ _ p2 _ _ hr) (fun q1 w1 e1 => ?_)
    refine sm_ieq e1.1 li_0 ?_ ?_
    · exact q_X12_mayBe_27 _ _ p1 _ _ p2 FU _ _ p2 _ _ li_0 _ _ e1.2
    · refine sm_ile e1.1 li_0 ?_ ?_
      · exact q_X12_mayBe_20 _ _ li_0 _ _ e1.2
      · exact q_X12_mayBe_20 _ _ li_1 _ _ e1.2
set_option maxHeartbeats 4000000 in
set_option maxRecDepth 100000 in
theorem q_X12_mayBest_35 (r4 : Int → Int → ZS → Option (Int × ZS)) (f4 : Int32 → Int32 → HS → Option (Int32 × HS)) (h4 : ∀ (x2 : Int32) (z2 : Int) (p2 : x2 = mJ z2) (x3 : Int32) (z3 : Int) (p3 : x3 = mJ z3) (ζ : ZS) (σ : HS), Rp ζ σ → Sm QI (r4 z2 z3 ζ) (f4 x2 x3 σ)) (x1 : Int32) (z1 : Int) (p1 : x1 = mJ z1) (x3 : Int32) (z3 : Int) (p3 : x3 = mJ z3) (xs0 : Int32) (zs0 : Int) (ps0 : xs0 = mJ zs0) (xs1 : Int32) (zs1 : Int) (ps1 : xs1 = mJ zs1) (ζ : ZS) (σ : HS) (hr : Rp ζ σ) : Sm QI (g_X12_mayBest_35 r4 z1 z3 zs0 zs1 ζ) (f_X12_mayBest_35 f4 0 x1 x3 xs0 xs1 σ) := by
    unfold g_X12_mayBest_35 f_X12_mayBest_35
    exact h4 _ _ (por ps1 ps0) _ _ (pa p3 li_1) _ _ hr
set_option maxHeartbeats 4000000 in
set_option maxRecDepth 100000 in
theorem q_X12_mayBest_34 (r4 : Int → Int → ZS → Option (Int × ZS)) (f4 : Int32 → Int32 → HS → Option (Int32 × HS)) (h4 : ∀ (x2 : Int32) (z2 : Int) (p2 : x2 = mJ z2) (x3 : Int32) (z3 : Int) (p3 : x3 = mJ z3) (ζ : ZS) (σ : HS), Rp ζ σ → Sm QI (r4 z2 z3 ζ) (f4 x2 x3 σ)) (x1 : Int32) (z1 : Int) (p1 : x1 = mJ z1) (x3 : Int32) (z3 : Int) (p3 : x3 = mJ z3) (xs0 : Int32) (zs0 : Int) (ps0 : xs0 = mJ zs0) (ζ : ZS) (σ : HS) (hr : Rp ζ σ) : Sm QI (g_X12_mayBest_34 r4 z1 z3 zs0 ζ) (f_X12_mayBest_34 f4 0 x1 x3 xs0 σ) := by
    unfold g_X12_mayBest_34 f_X12_mayBest_34
    exact q_X12_mayBest_35 _ _ h4 _ _ p1 _ _ p3 _ _ li_0 _ _ ps0 _ _ hr
set_option maxHeartbeats 4000000 in
set_option maxRecDepth 100000 in
theorem q_X12_mayBest_4 (x1 : Int32) (z1 : Int) (p1 : x1 = mJ z1) : ∀ (n : Nat) (x2 : Int32) (z2 : Int) (p2 : x2 = mJ z2) (x3 : Int32) (z3 : Int) (p3 : x3 = mJ z3) (ζ : ZS) (σ : HS), Rp ζ σ → Sm QI (g_X12_mayBest_4 z1 n z2 z3 ζ) (f_X12_mayBest_4 0 x1 n x2 x3 σ) := by
  intro n
  induction n with
  | zero =>
    intro x2 z2 p2 x3 z3 p3 ζ σ hr
    exact sm_none
  | succ n ih =>
    intro x2 z2 p2 x3 z3 p3 ζ σ hr
    rw [g_X12_mayBest_4.eq_2, f_X12_mayBest_4.eq_2]
    refine sm_ile li_8 p3 ?_ ?_
    · exact sm_ri p2 hr
    · refine sm_bind (q_X12_isIn _ _ p3 _ _ hr) (fun q1 w1 e1 => ?_)
      refine sm_ieq e1.1 li_0 ?_ ?_
      · exact q_X12_mayBest_34 _ _ ih _ _ p1 _ _ p3 _ _ p2 _ _ e1.2
      · refine sm_bind (q_X12_mayBe _ _ p3 _ _ p1 _ _ e1.2) (fun q2 w2 e2 => ?_)
        refine sm_ieq e2.1 li_0 ?_ ?_
        · exact q_X12_mayBest_34 _ _ ih _ _ p1 _ _ p3 _ _ p2 _ _ e2.2
        · exact q_X12_mayBest_35 _ _ ih _ _ p1 _ _ p3 _ _ (pshl li_1 p3) _ _ p2 _ _ e2.2
set_option maxHeartbeats 4000000 in
set_option maxRecDepth 100000 in
theorem q_X12_mayBest (x1 : Int32) (z1 : Int) (p1 : x1 = mJ z1) (ζ : ZS) (σ : HS) (hr : Rp ζ σ) : Sm QI (g_X12_mayBest z1 ζ) (f_X12_mayBest 0 x1 σ) := by
    unfold g_X12_mayBest f_X12_mayBest
    exact q_X12_mayBest_4 _ _ p1 FU _ _ li_0 _ _ li_0 _ _ hr
set_option maxHeartbeats 4000000 in
set_option maxRecDepth 100000 in
theorem q_X12_sureBest_35 (r4 : Int → Int → ZS → Option (Int × ZS)) (f4 : Int32 → Int32 → HS → Option (Int32 × HS)) (h4 : ∀ (x2 : Int32) (z2 : Int) (p2 : x2 = mJ z2) (x3 : Int32) (z3 : Int) (p3 : x3 = mJ z3) (ζ : ZS) (σ : HS), Rp ζ σ → Sm QI (r4 z2 z3 ζ) (f4 x2 x3 σ)) (x1 : Int32) (z1 : Int) (p1 : x1 = mJ z1) (x3 : Int32) (z3 : Int) (p3 : x3 = mJ z3) (xs0 : Int32) (zs0 : Int) (ps0 : xs0 = mJ zs0) (xs1 : Int32) (zs1 : Int) (ps1 : xs1 = mJ zs1) (ζ : ZS) (σ : HS) (hr : Rp ζ σ) : Sm QI (g_X12_sureBest_35 r4 z1 z3 zs0 zs1 ζ) (f_X12_sureBest_35 f4 0 x1 x3 xs0 xs1 σ) := by
    unfold g_X12_sureBest_35 f_X12_sureBest_35
    exact h4 _ _ (por ps1 ps0) _ _ (pa p3 li_1) _ _ hr
set_option maxHeartbeats 4000000 in
set_option maxRecDepth 100000 in
theorem q_X12_sureBest_34 (r4 : Int → Int → ZS → Option (Int × ZS)) (f4 : Int32 → Int32 → HS → Option (Int32 × HS)) (h4 : ∀ (x2 : Int32) (z2 : Int) (p2 : x2 = mJ z2) (x3 : Int32) (z3 : Int) (p3 : x3 = mJ z3) (ζ : ZS) (σ : HS), Rp ζ σ → Sm QI (r4 z2 z3 ζ) (f4 x2 x3 σ)) (x1 : Int32) (z1 : Int) (p1 : x1 = mJ z1) (x3 : Int32) (z3 : Int) (p3 : x3 = mJ z3) (xs0 : Int32) (zs0 : Int) (ps0 : xs0 = mJ zs0) (ζ : ZS) (σ : HS) (hr : Rp ζ σ) : Sm QI (g_X12_sureBest_34 r4 z1 z3 zs0 ζ) (f_X12_sureBest_34 f4 0 x1 x3 xs0 σ) := by
    unfold g_X12_sureBest_34 f_X12_sureBest_34
    exact q_X12_sureBest_35 _ _ h4 _ _ p1 _ _ p3 _ _ li_0 _ _ ps0 _ _ hr
set_option maxHeartbeats 4000000 in
set_option maxRecDepth 100000 in
theorem q_X12_sureBest_4 (x1 : Int32) (z1 : Int) (p1 : x1 = mJ z1) : ∀ (n : Nat) (x2 : Int32) (z2 : Int) (p2 : x2 = mJ z2) (x3 : Int32) (z3 : Int) (p3 : x3 = mJ z3) (ζ : ZS) (σ : HS), Rp ζ σ → Sm QI (g_X12_sureBest_4 z1 n z2 z3 ζ) (f_X12_sureBest_4 0 x1 n x2 x3 σ) := by
  intro n
  induction n with
  | zero =>
    intro x2 z2 p2 x3 z3 p3 ζ σ hr
    exact sm_none
  | succ n ih =>
    intro x2 z2 p2 x3 z3 p3 ζ σ hr
    rw [g_X12_sureBest_4.eq_2, f_X12_sureBest_4.eq_2]
    refine sm_ile li_8 p3 ?_ ?_
    · exact sm_ri p2 hr
    · refine sm_bind (q_X12_isIn _ _ p3 _ _ hr) (fun q1 w1 e1 => ?_)
      refine sm_ieq e1.1 li_0 ?_ ?_
      · exact q_X12_sureBest_34 _ _ ih _ _ p1 _ _ p3 _ _ p2 _ _ e1.2
      · refine sm_bind (q_X12_isSure _ _ p3 _ _ p1 _ _ e1.2) (fun q2 w2 e2 => ?_)
        refine sm_ieq e2.1 li_0 ?_ ?_
        · exact q_X12_sureBest_34 _ _ ih _ _ p1 _ _ p3 _ _ p2 _ _ e2.2
        · exact q_X12_sureBest_35 _ _ ih _ _ p1 _ _ p3 _ _ (pshl li_1 p3) _ _ p2 _ _ e2.2
set_option maxHeartbeats 4000000 in
set_option maxRecDepth 100000 in
theorem q_X12_sureBest (x1 : Int32) (z1 : Int) (p1 : x1 = mJ z1) (ζ : ZS) (σ : HS) (hr : Rp ζ σ) : Sm QI (g_X12_sureBest z1 ζ) (f_X12_sureBest 0 x1 σ) := by
    unfold g_X12_sureBest f_X12_sureBest
    exact q_X12_sureBest_4 _ _ p1 FU _ _ li_0 _ _ li_0 _ _ hr
set_option maxHeartbeats 4000000 in
set_option maxRecDepth 100000 in
theorem q_X12_bits_4 (x0 : Int32) (z0 : Int) (p0 : x0 = mJ z0) : ∀ (n : Nat) (x1 : Int32) (z1 : Int) (p1 : x1 = mJ z1) (x2 : Int32) (z2 : Int) (p2 : x2 = mJ z2) (ζ : ZS) (σ : HS), Rp ζ σ → Sm QI (g_X12_bits_4 z0 n z1 z2 ζ) (f_X12_bits_4 x0 n x1 x2 σ) := by
  intro n
  induction n with
  | zero =>
    intro x1 z1 p1 x2 z2 p2 ζ σ hr
    exact sm_none
  | succ n ih =>
    intro x1 z1 p1 x2 z2 p2 ζ σ hr
    rw [g_X12_bits_4.eq_2, f_X12_bits_4.eq_2]
    refine sm_ile li_12 p2 ?_ ?_
    · exact sm_ri p1 hr
    · exact ih _ _ (pa p1 (pand (pshr p0 p2) li_1)) _ _ (pa p2 li_1) _ _ hr
set_option maxHeartbeats 4000000 in
set_option maxRecDepth 100000 in
theorem q_X12_bits (x0 : Int32) (z0 : Int) (p0 : x0 = mJ z0) (ζ : ZS) (σ : HS) (hr : Rp ζ σ) : Sm QI (g_X12_bits z0 ζ) (f_X12_bits x0 σ) := by
    unfold g_X12_bits f_X12_bits
    exact q_X12_bits_4 _ _ p0 FU _ _ li_0 _ _ li_0 _ _ hr
set_option maxHeartbeats 4000000 in
set_option maxRecDepth 100000 in
theorem q_X12_areWeights_145 (xs0 : Int32) (zs0 : Int) (ps0 : xs0 = mJ zs0) (ζ : ZS) (σ : HS) (hr : Rp ζ σ) : Sm QI (g_X12_areWeights_145 zs0 ζ) (f_X12_areWeights_145 xs0 σ) := by
    unfold g_X12_areWeights_145 f_X12_areWeights_145
    exact sm_zr ps0 hr
set_option maxHeartbeats 4000000 in
set_option maxRecDepth 100000 in
theorem q_X12_areWeights_144  (ζ : ZS) (σ : HS) (hr : Rp ζ σ) : Sm QI (g_X12_areWeights_144 ζ) (f_X12_areWeights_144 σ) := by
    unfold g_X12_areWeights_144 f_X12_areWeights_144
    exact q_X12_areWeights_145 _ _ li_0 _ _ hr
set_option maxHeartbeats 4000000 in
set_option maxRecDepth 100000 in
theorem q_X12_areWeights_136 (xs0 : Int32) (zs0 : Int) (ps0 : xs0 = mJ zs0) (xs1 : Int32) (zs1 : Int) (ps1 : xs1 = mJ zs1) (ζ : ZS) (σ : HS) (hr : Rp ζ σ) : Sm QI (g_X12_areWeights_136 zs0 zs1 ζ) (f_X12_areWeights_136 xs0 xs1 σ) := by
    unfold g_X12_areWeights_136 f_X12_areWeights_136
    refine sm_ile (pa ps1 ps0) li_0 ?_ ?_
    · exact q_X12_areWeights_144 _ _ hr
    · exact q_X12_areWeights_145 _ _ li_1 _ _ hr
set_option maxHeartbeats 4000000 in
set_option maxRecDepth 100000 in
theorem q_X12_areWeights_121 (x4 : Int32) (z4 : Int) (p4 : x4 = mJ z4) (xs0 : Int32) (zs0 : Int) (ps0 : xs0 = mJ zs0) (xs1 : Int32) (zs1 : Int) (ps1 : xs1 = mJ zs1) (ζ : ZS) (σ : HS) (hr : Rp ζ σ) : Sm QI (g_X12_areWeights_121 z4 zs0 zs1 ζ) (f_X12_areWeights_121 0 x4 xs0 xs1 σ) := by
    unfold g_X12_areWeights_121 f_X12_areWeights_121
    refine sm_ile li_4 (hr.1 0 20) ?_ ?_
    · exact q_X12_areWeights_136 _ _ p4 _ _ (pa ps1 ps0) _ _ hr
    · exact q_X12_areWeights_136 _ _ li_0 _ _ (pa ps1 ps0) _ _ hr
set_option maxHeartbeats 4000000 in
set_option maxRecDepth 100000 in
theorem q_X12_areWeights_107 (x3 : Int32) (z3 : Int) (p3 : x3 = mJ z3) (x4 : Int32) (z4 : Int) (p4 : x4 = mJ z4) (xs0 : Int32) (zs0 : Int) (ps0 : xs0 = mJ zs0) (xs1 : Int32) (zs1 : Int) (ps1 : xs1 = mJ zs1) (ζ : ZS) (σ : HS) (hr : Rp ζ σ) : Sm QI (g_X12_areWeights_107 z3 z4 zs0 zs1 ζ) (f_X12_areWeights_107 0 x3 x4 xs0 xs1 σ) := by
    unfold g_X12_areWeights_107 f_X12_areWeights_107
    refine sm_ile li_3 (hr.1 0 20) ?_ ?_
    · exact q_X12_areWeights_121 _ _ p4 _ _ p3 _ _ (pa ps1 ps0) _ _ hr
    · exact q_X12_areWeights_121 _ _ p4 _ _ li_0 _ _ (pa ps1 ps0) _ _ hr
set_option maxHeartbeats 4000000 in
set_option maxRecDepth 100000 in
theorem q_X12_areWeights_86 (x1 : Int32) (z1 : Int) (p1 : x1 = mJ z1) (x2 : Int32) (z2 : Int) (p2 : x2 = mJ z2) (x3 : Int32) (z3 : Int) (p3 : x3 = mJ z3) (x4 : Int32) (z4 : Int) (p4 : x4 = mJ z4) (xs0 : Int32) (zs0 : Int) (ps0 : xs0 = mJ zs0) (ζ : ZS) (σ : HS) (hr : Rp ζ σ) : Sm QI (g_X12_areWeights_86 z1 z2 z3 z4 zs0 ζ) (f_X12_areWeights_86 0 x1 x2 x3 x4 xs0 σ) := by
    unfold g_X12_areWeights_86 f_X12_areWeights_86
    refine sm_ieq ps0 li_0 ?_ ?_
    · exact q_X12_areWeights_144 _ _ hr
    · refine sm_ile li_2 (hr.1 0 20) ?_ ?_
      · exact q_X12_areWeights_107 _ _ p3 _ _ p4 _ _ p2 _ _ p1 _ _ hr
      · exact q_X12_areWeights_107 _ _ p3 _ _ p4 _ _ li_0 _ _ p1 _ _ hr
set_option maxHeartbeats 4000000 in
set_option maxRecDepth 100000 in
theorem q_X12_areWeights_85 (x1 : Int32) (z1 : Int) (p1 : x1 = mJ z1) (x2 : Int32) (z2 : Int) (p2 : x2 = mJ z2) (x3 : Int32) (z3 : Int) (p3 : x3 = mJ z3) (x4 : Int32) (z4 : Int) (p4 : x4 = mJ z4) (ζ : ZS) (σ : HS) (hr : Rp ζ σ) : Sm QI (g_X12_areWeights_85 z1 z2 z3 z4 ζ) (f_X12_areWeights_85 0 x1 x2 x3 x4 σ) := by
    unfold g_X12_areWeights_85 f_X12_areWeights_85
    exact q_X12_areWeights_86 _ _ p1 _ _ p2 _ _ p3 _ _ p4 _ _ li_0 _ _ hr
set_option maxHeartbeats 4000000 in
set_option maxRecDepth 100000 in
theorem q_X12_areWeights_81 (x1 : Int32) (z1 : Int) (p1 : x1 = mJ z1) (x2 : Int32) (z2 : Int) (p2 : x2 = mJ z2) (x3 : Int32) (z3 : Int) (p3 : x3 = mJ z3) (x4 : Int32) (z4 : Int) (p4 : x4 = mJ z4) (ζ : ZS) (σ : HS) (hr : Rp ζ σ) : Sm QI (g_X12_areWeights_81 z1 z2 z3 z4 ζ) (f_X12_areWeights_81 0 x1 x2 x3 x4 σ) := by
    unfold g_X12_areWeights_81 f_X12_areWeights_81
    exact q_X12_areWeights_86 _ _ p1 _ _ p2 _ _ p3 _ _ p4 _ _ li_1 _ _ hr
set_option maxHeartbeats 4000000 in
set_option maxRecDepth 100000 in
theorem q_X12_areWeights_61 (x1 : Int32) (z1 : Int) (p1 : x1 = mJ z1) (x2 : Int32) (z2 : Int) (p2 : x2 = mJ z2) (x3 : Int32) (z3 : Int) (p3 : x3 = mJ z3) (x4 : Int32) (z4 : Int) (p4 : x4 = mJ z4) (ζ : ZS) (σ : HS) (hr : Rp ζ σ) : Sm QI (g_X12_areWeights_61 z1 z2 z3 z4 ζ) (f_X12_areWeights_61 0 x1 x2 x3 x4 σ) := by
    unfold g_X12_areWeights_61 f_X12_areWeights_61
    refine sm_ilt (hr.1 0 20) li_4 ?_ ?_
    · exact q_X12_areWeights_81 _ _ p1 _ _ p2 _ _ p3 _ _ p4 _ _ hr
    · refine sm_bind (q_X12_within _ _ p4 _ _ li_0 _ _ li_999 _ _ hr) (fun q1 w1 e1 => ?_)
      refine sm_ieq e1.1 li_0 ?_ ?_
      · exact q_X12_areWeights_85 _ _ p1 _ _ p2 _ _ p3 _ _ p4 _ _ e1.2
      · exact q_X12_areWeights_81 _ _ p1 _ _ p2 _ _ p3 _ _ p4 _ _ e1.2
set_option maxHeartbeats 4000000 in
set_option maxRecDepth 100000 in
theorem q_X12_areWeights_35 (x1 : Int32) (z1 : Int) (p1 : x1 = mJ z1) (x2 : Int32) (z2 : Int) (p2 : x2 = mJ z2) (x3 : Int32) (z3 : Int) (p3 : x3 = mJ z3) (x4 : Int32) (z4 : Int) (p4 : x4 = mJ z4) (xs0 : Int32) (zs0 : Int) (ps0 : xs0 = mJ zs0) (ζ : ZS) (σ : HS) (hr : Rp ζ σ) : Sm QI (g_X12_areWeights_35 z1 z2 z3 z4 zs0 ζ) (f_X12_areWeights_35 0 x1 x2 x3 x4 xs0 σ) := by
    unfold g_X12_areWeights_35 f_X12_areWeights_35
    refine sm_ieq ps0 li_0 ?_ ?_
    · exact q_X12_areWeights_85 _ _ p1 _ _ p2 _ _ p3 _ _ p4 _ _ hr
    · refine sm_ilt (hr.1 0 20) li_3 ?_ ?_
      · exact q_X12_areWeights_61 _ _ p1 _ _ p2 _ _ p3 _ _ p4 _ _ hr
      · refine sm_bind (q_X12_within _ _ p3 _ _ li_0 _ _ li_999 _ _ hr) (fun q1 w1 e1 => ?_)
        refine sm_ieq e1.1 li_0 ?_ ?_
        · exact q_X12_areWeights_85 _ _ p1 _ _ p2 _ _ p3 _ _ p4 _ _ e1.2
        · exact q_X12_areWeights_61 _ _ p1 _ _ p2 _ _ p3 _ _ p4 _ _ e1.2
set_option maxHeartbeats 4000000 in
set_option maxRecDepth 100000 in
theorem q_X12_areWeights_34 (x1 : Int32) (z1 : Int) (p1 : x1 = mJ z1) (x2 : Int32) (z2 : Int) (p2 : x2 = mJ z2) (x3 : Int32) (z3 : Int) (p3 : x3 = mJ z3) (x4 : Int32) (z4 : Int) (p4 : x4 = mJ z4) (ζ : ZS) (σ : HS) (hr : Rp ζ σ) : Sm QI (g_X12_areWeights_34 z1 z2 z3 z4 ζ) (f_X12_areWeights_34 0 x1 x2 x3 x4 σ) := by
    unfold g_X12_areWeights_34 f_X12_areWeights_34
    exact q_X12_areWeights_35 _ _ p1 _ _ p2 _ _ p3 _ _ p4 _ _ li_0 _ _ hr
set_option maxHeartbeats 4000000 in
set_option maxRecDepth 100000 in
theorem q_X12_areWeights_30 (x1 : Int32) (z1 : Int) (p1 : x1 = mJ z1) (x2 : Int32) (z2 : Int) (p2 : x2 = mJ z2) (x3 : Int32) (z3 : Int) (p3 : x3 = mJ z3) (x4 : Int32) (z4 : Int) (p4 : x4 = mJ z4) (ζ : ZS) (σ : HS) (hr : Rp ζ σ) : Sm QI (g_X12_areWeights_30 z1 z2 z3 z4 ζ) (f_X12_areWeights_30 0 x1 x2 x3 x4 σ) := by
    unfold g_X12_areWeights_30 f_X12_areWeights_30
    exact q_X12_areWeights_35 _ _ p1 _ _ p2 _ _ p3 _ _ p4 _ _ li_1 _ _ hr
set_option maxHeartbeats 4000000 in
set_option maxRecDepth 100000 in
theorem q_X12_areWeights (x1 : Int32) (z1 : Int) (p1 : x1 = mJ z1) (x2 : Int32) (z2 : Int) (p2 : x2 = mJ z2) (x3 : Int32) (z3 : Int) (p3 : x3 = mJ z3) (x4 : Int32) (z4 : Int) (p4 : x4 = mJ z4) (ζ : ZS) (σ : HS) (hr : Rp ζ σ) : Sm QI (g_X12_areWeights z1 z2 z3 z4 ζ) (f_X12_areWeights 0 x1 x2 x3 x4 σ) := by
    unfold g_X12_areWeights f_X12_areWeights
    refine sm_bind (q_X12_within _ _ p1 _ _ li_0 _ _ li_999 _ _ hr) (fun q1 w1 e1 => ?_)
    refine sm_ieq e1.1 li_0 ?_ ?_
    · exact q_X12_areWeights_34 _ _ p1 _ _ p2 _ _ p3 _ _ p4 _ _ e1.2
    · refine sm_ilt (e1.2.1 0 20) li_2 ?_ ?_
      · exact q_X12_areWeights_30 _ _ p1 _ _ p2 _ _ p3 _ _ p4 _ _ e1.2
      · refine sm_bind (q_X12_within _ _ p2 _ _ li_0 _ _ li_999 _ _ e1.2) (fun q2 w2 e2 => ?_)
        refine sm_ieq e2.1 li_0 ?_ ?_
        · exact q_X12_areWeights_34 _ _ p1 _ _ p2 _ _ p3 _ _ p4 _ _ e2.2
        · exact q_X12_areWeights_30 _ _ p1 _ _ p2 _ _ p3 _ _ p4 _ _ e2.2
set_option maxHeartbeats 4000000 in
set_option maxRecDepth 100000 in
theorem q_X12_givesWeights_68 (xs0 : Int64) (zs0 : Int) (ps0 : xs0 = mL zs0) (xs1 : Int32) (zs1 : Int) (ps1 : xs1 = mJ zs1) (cs2 : Nat) (ks2 : kd cs2 = 15) (ζ : ZS) (σ : HS) (hr : Rp ζ σ) : Sm QV (g_X12_givesWeights_68 zs0 zs1 cs2 ζ) (f_X12_givesWeights_68 xs0 xs1 cs2 σ) := by
    unfold g_X12_givesWeights_68 f_X12_givesWeights_68
    refine sm_ck ps1 rfl (fun b101 => ?_)
    have hr102 := raJ (a := cs2) hr ps1 b101 (ln_le _) ps0
    exact sm_rv hr102
set_option maxHeartbeats 4000000 in
set_option maxRecDepth 100000 in
theorem q_X12_givesWeights_47 (x4 : Int32) (z4 : Int) (p4 : x4 = mJ z4) (xs0 : Int64) (zs0 : Int) (ps0 : xs0 = mL zs0) (xs1 : Int32) (zs1 : Int) (ps1 : xs1 = mJ zs1) (cs2 : Nat) (ks2 : kd cs2 = 15) (ζ : ZS) (σ : HS) (hr : Rp ζ σ) : Sm QV (g_X12_givesWeights_47 z4 zs0 zs1 cs2 ζ) (f_X12_givesWeights_47 0 x4 xs0 xs1 cs2 σ) := by
    unfold g_X12_givesWeights_47 f_X12_givesWeights_47
    refine sm_ck ps1 rfl (fun b101 => ?_)
    have hr102 := raJ (a := cs2) hr ps1 b101 (ln_le _) ps0
    refine sm_rk (a := 24) (pts (rp_s hr102) 0 35 24 rfl) kd_24 ?_
    refine sm_ile li_4 (hr102.1 0 20) ?_ ?_
    · refine sm_gw (fun b103 => ?_)
      exact q_X12_givesWeights_68 _ _ (pi2l p4 b103) _ _ li_3 _ kd_24 _ _ hr102
    · exact q_X12_givesWeights_68 _ _ lj_0 _ _ li_3 _ kd_24 _ _ hr102
set_option maxHeartbeats 4000000 in
set_option maxRecDepth 100000 in
theorem q_X12_givesWeights_27 (x3 : Int32) (z3 : Int) (p3 : x3 = mJ z3) (x4 : Int32) (z4 : Int) (p4 : x4 = mJ z4) (xs0 : Int64) (zs0 : Int) (ps0 : xs0 = mL zs0) (xs1 : Int32) (zs1 : Int) (ps1 : xs1 = mJ zs1) (cs2 : Nat) (ks2 : kd cs2 = 15) (ζ : ZS) (σ : HS) (hr : Rp ζ σ) : Sm QV (g_X12_givesWeights_27 z3 z4 zs0 zs1 cs2 ζ) (f_X12_givesWeights_27 0 x3 x4 xs0 xs1 cs2 σ) := by
    unfold g_X12_givesWeights_27 f_X12_givesWeights_27
    refine sm_ck ps1 rfl (fun b101 => ?_)
    have hr102 := raJ (a := cs2) hr ps1 b101 (ln_le _) ps0
    refine sm_rk (a := 24) (pts (rp_s hr102) 0 35 24 rfl) kd_24 ?_
    refine sm_ile li_3 (hr102.1 0 20) ?_ ?_
    · refine sm_gw (fun b103 => ?_)
      exact q_X12_givesWeights_47 _ _ p4 _ _ (pi2l p3 b103) _ _ li_2 _ kd_24 _ _ hr102
    · exact q_X12_givesWeights_47 _ _ p4 _ _ lj_0 _ _ li_2 _ kd_24 _ _ hr102
set_option maxHeartbeats 4000000 in
set_option maxRecDepth 100000 in
theorem q_X12_givesWeights (x1 : Int32) (z1 : Int) (p1 : x1 = mJ z1) (x2 : Int32) (z2 : Int) (p2 : x2 = mJ z2) (x3 : Int32) (z3 : Int) (p3 : x3 = mJ z3) (x4 : Int32) (z4 : Int) (p4 : x4 = mJ z4) (ζ : ZS) (σ : HS) (hr : Rp ζ σ) : Sm QV (g_X12_givesWeights z1 z2 z3 z4 ζ) (f_X12_givesWeights 0 x1 x2 x3 x4 σ) := by
    unfold g_X12_givesWeights f_X12_givesWeights
    refine sm_rk (a := 24) (pts (rp_s hr) 0 35 24 rfl) kd_24 ?_
    refine sm_gw (fun b101 => ?_)
    refine sm_ck li_0 ln_24 (fun b102 => ?_)
    have hr103 := raJ (a := 24) hr li_0 b102 (Nat.le_of_ble_eq_true rfl) (pi2l p1 b101)
    refine sm_rk (a := 24) (pts (rp_s hr103) 0 35 24 rfl) kd_24 ?_
    refine sm_ile li_2 (hr103.1 0 20) ?_ ?_
    · refine sm_gw (fun b104 => ?_)
      exact q_X12_givesWeights_27 _ _ p3 _ _ p4 _ _ (pi2l p2 b104) _ _ li_1 _ kd_24 _ _ hr103
    · exact q_X12_givesWeights_27 _ _ p3 _ _ p4 _ _ lj_0 _ _ li_1 _ kd_24 _ _ hr103
set_option maxHeartbeats 4000000 in
set_option maxRecDepth 100000 in
theorem q_X12_goodBy_5 (x1 : Int32) (z1 : Int) (p1 : x1 = mJ z1) : ∀ (n : Nat) (x2 : Int64) (z2 : Int) (p2 : x2 = mL z2) (x4 : Int32) (z4 : Int) (p4 : x4 = mJ z4) (ζ : ZS) (σ : HS), Rp ζ σ → Sm QJ (g_X12_goodBy_5 z1 n z2 z4 ζ) (f_X12_goodBy_5 0 x1 n x2 x4 σ) := by
  intro n
  induction n with
  | zero =>
    intro x2 z2 p2 x4 z4 p4 ζ σ hr
    exact sm_none
  | succ n ih =>
    intro x2 z2 p2 x4 z4 p4 ζ σ hr
    rw [g_X12_goodBy_5.eq_2, f_X12_goodBy_5.eq_2]
    refine sm_ile (hr.1 0 20) p4 ?_ ?_
    · exact sm_rj p2 hr
    · refine sm_rk (a := 24) (pts (rp_s hr) 0 35 24 rfl) kd_24 ?_
      refine sm_ck p4 ln_24 (fun b101 => ?_)
      refine sm_bind (q_X12_valueOf _ _ p1 _ _ p4 _ _ hr) (fun q2 w2 e2 => ?_)
      refine sm_gw (fun b103 => ?_)
      exact ih _ _ (paJ p2 (pmJ (rdJ (a := 24) hr p4 b101 (Nat.le_of_ble_eq_true rfl)) (pi2l e2.1 b103))) _ _ (pa p4 li_1) _ _ e2.2
set_option maxHeartbeats 4000000 in
set_option maxRecDepth 100000 in
theorem q_X12_goodBy (x1 : Int32) (z1 : Int) (p1 : x1 = mJ z1) (ζ : ZS) (σ : HS) (hr : Rp ζ σ) : Sm QJ (g_X12_goodBy z1 ζ) (f_X12_goodBy 0 x1 σ) := by
    unfold g_X12_goodBy f_X12_goodBy
    exact q_X12_goodBy_5 _ _ p1 FU _ _ lj_0 _ _ li_0 _ _ hr
set_option maxHeartbeats 4000000 in
set_option maxRecDepth 100000 in
theorem q_X12_doesFit_69 (r4 : Int → Int → ZS → Option (Int × ZS)) (f4 : Int32 → Int32 → HS → Option (Int32 × HS)) (h4 : ∀ (x1 : Int32) (z1 : Int) (p1 : x1 = mJ z1) (x2 : Int32) (z2 : Int) (p2 : x2 = mJ z2) (ζ : ZS) (σ : HS), Rp ζ σ → Sm QI (r4 z1 z2 ζ) (f4 x1 x2 σ)) (x2 : Int32) (z2 : Int) (p2 : x2 = mJ z2) (xs0 : Int32) (zs0 : Int) (ps0 : xs0 = mJ zs0) (ζ : ZS) (σ : HS) (hr : Rp ζ σ) : Sm QI (g_X12_doesFit_69 r4 z2 zs0 ζ) (f_X12_doesFit_69 f4 0 x2 xs0 σ) := by
    unfold g_X12_doesFit_69 f_X12_doesFit_69
    exact h4 _ _ ps0 _ _ (pa p2 li_1) _ _ hr
set_option maxHeartbeats 4000000 in
set_option maxRecDepth 100000 in
theorem q_X12_doesFit_68 (r4 : Int → Int → ZS → Option (Int × ZS)) (f4 : Int32 → Int32 → HS → Option (Int32 × HS)) (h4 : ∀ (x1 : Int32) (z1 : Int) (p1 : x1 = mJ z1) (x2 : Int32) (z2 : Int) (p2 : x2 = mJ z2) (ζ : ZS) (σ : HS), Rp ζ σ → Sm QI (r4 z1 z2 ζ) (f4 x1 x2 σ)) (x2 : Int32) (z2 : Int) (p2 : x2 = mJ z2) (ζ : ZS) (σ : HS) (hr : Rp ζ σ) : Sm QI (g_X12_doesFit_68 r4 z2 ζ) (f_X12_doesFit_68 f4 0 x2 σ) := by
    unfold g_X12_doesFit_68 f_X12_doesFit_68
    exact q_X12_doesFit_69 _ _ h4 _ _ p2 _ _ li_0 _ _ hr
set_option maxHeartbeats 4000000 in
set_option maxRecDepth 100000 in
theorem q_X12_doesFit_17 (x1 : Int32) (z1 : Int) (p1 : x1 = mJ z1) (x2 : Int32) (z2 : Int) (p2 : x2 = mJ z2) (r4 : Int → Int → ZS → Option (Int × ZS)) (f4 : Int32 → Int32 → HS → Option (Int32 × HS)) (h4 : ∀ (x1 : Int32) (z1 : Int) (p1 : x1 = mJ z1) (x2 : Int32) (z2 : Int) (p2 : x2 = mJ z2) (ζ : ZS) (σ : HS), Rp ζ σ → Sm QI (r4 z1 z2 ζ) (f4 x1 x2 σ)) : ∀ (n : Nat) (x3 : Int64) (z3 : Int) (p3 : x3 = mL z3) (x5 : Int32) (z5 : Int) (p5 : x5 = mJ z5) (ζ : ZS) (σ : HS), Rp ζ σ → Sm QI (g_X12_doesFit_17 z1 z2 r4 n z3 z5 ζ) (f_X12_doesFit_17 0 x1 x2 f4 n x3 x5 σ) := by
  intro n
  induction n with
  | zero =>
    intro x3 z3 p3 x5 z5 p5 ζ σ hr
    exact sm_none
  | succ n ih =>
    intro x3 z3 p3 x5 z5 p5 ζ σ hr
    rw [g_X12_doesFit_17.eq_2, f_X12_doesFit_17.eq_2]
    refine sm_ile (hr.1 0 20) p5 ?_ ?_
    · refine sm_ieq p1 li_0 ?_ ?_
      · exact q_X12_doesFit_68 _ _ h4 _ _ p2 _ _ hr
      · refine sm_jlt p3 lj_0 ?_ ?_
        · exact q_X12_doesFit_68 _ _ h4 _ _ p2 _ _ hr
        · exact q_X12_doesFit_69 _ _ h4 _ _ p2 _ _ li_1 _ _ hr
    · refine sm_rk (a := 19) (pts (rp_s hr) 0 27 19 rfl) kd_19 ?_
      refine sm_ck (pa (pm li_4 p2) p5) ln_19 (fun b101 => ?_)
      refine sm_rk (a := 24) (pts (rp_s hr) 0 35 24 rfl) kd_24 ?_
      refine sm_ck p5 ln_24 (fun b102 => ?_)
      exact ih _ _ (paJ p3 (pmJ (rdJ (a := 19) hr (pa (pm li_4 p2) p5) b101 (Nat.le_of_ble_eq_true rfl)) (rdJ (a := 24) hr p5 b102 (Nat.le_of_ble_eq_true rfl)))) _ _ (pa p5 li_1) _ _ hr
set_option maxHeartbeats 4000000 in
set_option maxRecDepth 100000 in
theorem q_X12_doesFit_4  : ∀ (n : Nat) (x1 : Int32) (z1 : Int) (p1 : x1 = mJ z1) (x2 : Int32) (z2 : Int) (p2 : x2 = mJ z2) (ζ : ZS) (σ : HS), Rp ζ σ → Sm QI (g_X12_doesFit_4 n z1 z2 ζ) (f_X12_doesFit_4 0 n x1 x2 σ) := by
  intro n
  induction n with
  | zero =>
    intro x1 z1 p1 x2 z2 p2 ζ σ hr
    exact sm_none
  | succ n ih =>
    intro x1 z1 p1 x2 z2 p2 ζ σ hr
    rw [g_X12_doesFit_4.eq_2, f_X12_doesFit_4.eq_2]
    refine sm_ile (hr.1 0 26) p2 ?_ ?_
    · exact sm_zr p1 hr
    · exact q_X12_doesFit_17 _ _ p1 _ _ p2 _ _ ih FU _ _ lj_0 _ _ li_0 _ _ hr
set_option maxHeartbeats 4000000 in
set_option maxRecDepth 100000 in
theorem q_X12_doesFit  (ζ : ZS) (σ : HS) (hr : Rp ζ σ) : Sm QI (g_X12_doesFit ζ) (f_X12_doesFit 0 σ) := by
    unfold g_X12_doesFit f_X12_doesFit
    exact q_X12_doesFit_4 FU _ _ li_1 _ _ li_0 _ _ hr
set_option maxHeartbeats 4000000 in
set_option maxRecDepth 100000 in
theorem q_X12_good_36  (ζ : ZS) (σ : HS) (hr : Rp ζ σ) : Sm QI (g_X12_good_36 ζ) (f_X12_good_36 σ) := by
    unfold g_X12_good_36 f_X12_good_36
    exact sm_ri li_m1 hr
set_option maxHeartbeats 4000000 in
set_option maxRecDepth 100000 in
theorem q_X12_good_111 (xs0 : Int64) (zs0 : Int) (ps0 : xs0 = mL zs0) (ζ : ZS) (σ : HS) (hr : Rp ζ σ) : Sm QI (g_X12_good_111 zs0 ζ) (f_X12_good_111 xs0 σ) := by
    unfold g_X12_good_111 f_X12_good_111
    exact sm_ri (pl2i ps0) hr
set_option maxHeartbeats 4000000 in
set_option maxRecDepth 100000 in
theorem q_X12_good (x1 : Int32) (z1 : Int) (p1 : x1 = mJ z1) (x2 : Int32) (z2 : Int) (p2 : x2 = mJ z2) (x3 : Int32) (z3 : Int) (p3 : x3 = mJ z3) (x4 : Int32) (z4 : Int) (p4 : x4 = mJ z4) (x5 : Int32) (z5 : Int) (p5 : x5 = mJ z5) (x6 : Int32) (z6 : Int) (p6 : x6 = mJ z6) (ζ : ZS) (σ : HS) (hr : Rp ζ σ) : Sm QI (g_X12_good z1 z2 z3 z4 z5 z6 ζ) (f_X12_good 0 x1 x2 x3 x4 x5 x6 σ) := by
    unfold g_X12_good f_X12_good
    have hr101 := rwI (a := 0) (k := 0) hr li_0
    refine sm_bind (q_X12_isThing _ _ p1 _ _ hr101) (fun q2 w2 e2 => ?_)
    refine sm_ieq e2.1 li_0 ?_ ?_
    · exact q_X12_good_36 _ _ e2.2
    · refine sm_bind (q_X12_areWeights _ _ p2 _ _ p3 _ _ p4 _ _ p5 _ _ e2.2) (fun q3 w3 e3 => ?_)
      refine sm_ieq e3.1 li_0 ?_ ?_
      · exact q_X12_good_36 _ _ e3.2
      · refine sm_bind (q_X12_within _ _ p6 _ _ li_0 _ _ li_1 _ _ e3.2) (fun q4 w4 e4 => ?_)
        refine sm_ieq e4.1 li_0 ?_ ?_
        · exact q_X12_good_36 _ _ e4.2
        · refine sm_bind (q_X12_givesWeights _ _ p2 _ _ p3 _ _ p4 _ _ p5 _ _ e4.2) (fun q5 w5 e5 => ?_)
          refine sm_bind (q_X12_goodBy _ _ p1 _ _ e5) (fun q6 w6 e6 => ?_)
          refine sm_rk (a := 24) (pts (rp_s e6.2) 0 35 24 rfl) kd_24 ?_
          refine sm_ck li_0 ln_24 (fun b107 => ?_)
          refine sm_rk (a := 24) (pts (rp_s e6.2) 0 35 24 rfl) kd_24 ?_
          refine sm_ck li_1 ln_24 (fun b108 => ?_)
          refine sm_rk (a := 24) (pts (rp_s e6.2) 0 35 24 rfl) kd_24 ?_
          refine sm_ck li_2 ln_24 (fun b109 => ?_)
          refine sm_rk (a := 24) (pts (rp_s e6.2) 0 35 24 rfl) kd_24 ?_
          refine sm_ck li_3 ln_24 (fun b110 => ?_)
          refine sm_bind (q_X12_common _ _ e6.1 _ _ (paJ (paJ (paJ (rdJ (a := 24) e6.2 li_0 b107 (Nat.le_of_ble_eq_true rfl)) (rdJ (a := 24) e6.2 li_1 b108 (Nat.le_of_ble_eq_true rfl))) (rdJ (a := 24) e6.2 li_2 b109 (Nat.le_of_ble_eq_true rfl))) (rdJ (a := 24) e6.2 li_3 b110 (Nat.le_of_ble_eq_true rfl))) _ _ e6.2) (fun q11 w11 e11 => ?_)
          refine sm_ieq p6 li_0 ?_ ?_
          · refine sm_nzJ e11.1 (fun b113 => ?_)
            exact q_X12_good_111 _ _ (pdivJ e6.1 e11.1 b113) _ _ e11.2
          · refine sm_nzJ e11.1 (fun b112 => ?_)
            exact q_X12_good_111 _ _ (pdivJ (paJ (paJ (paJ (rdJ (a := 24) e6.2 li_0 b107 (Nat.le_of_ble_eq_true rfl)) (rdJ (a := 24) e6.2 li_1 b108 (Nat.le_of_ble_eq_true rfl))) (rdJ (a := 24) e6.2 li_2 b109 (Nat.le_of_ble_eq_true rfl))) (rdJ (a := 24) e6.2 li_3 b110 (Nat.le_of_ble_eq_true rfl))) e11.1 b112) _ _ e11.2
set_option maxHeartbeats 4000000 in
set_option maxRecDepth 100000 in
theorem q_X12_fits_48 (xs0 : Int32) (zs0 : Int) (ps0 : xs0 = mJ zs0) (ζ : ZS) (σ : HS) (hr : Rp ζ σ) : Sm QI (g_X12_fits_48 zs0 ζ) (f_X12_fits_48 xs0 σ) := by
    unfold g_X12_fits_48 f_X12_fits_48
    exact sm_ri ps0 hr
set_option maxHeartbeats 4000000 in
set_option maxRecDepth 100000 in
theorem q_X12_fits (x1 : Int32) (z1 : Int) (p1 : x1 = mJ z1) (x2 : Int32) (z2 : Int) (p2 : x2 = mJ z2) (x3 : Int32) (z3 : Int) (p3 : x3 = mJ z3) (x4 : Int32) (z4 : Int) (p4 : x4 = mJ z4) (ζ : ZS) (σ : HS) (hr : Rp ζ σ) : Sm QI (g_X12_fits z1 z2 z3 z4 ζ) (f_X12_fits 0 x1 x2 x3 x4 σ) := by
    unfold g_X12_fits f_X12_fits
    have hr101 := rwI (a := 0) (k := 0) hr li_0
    refine sm_bind (q_X12_areWeights _ _ p1 _ _ p2 _ _ p3 _ _ p4 _ _ hr101) (fun q2 w2 e2 => ?_)
    refine sm_ieq e2.1 li_0 ?_ ?_
    · exact sm_ri li_m1 e2.2
    · refine sm_bind (q_X12_heard _ _ e2.2) (fun q3 w3 e3 => ?_)
      refine sm_bind (q_X12_laysRows _ _ e3.1 _ _ e3.2) (fun q4 w4 e4 => ?_)
      refine sm_bind (q_X12_givesWeights _ _ p1 _ _ p2 _ _ p3 _ _ p4 _ _ e4) (fun q5 w5 e5 => ?_)
      refine sm_bind (q_X12_doesFit _ _ e5) (fun q6 w6 e6 => ?_)
      refine sm_ieq e6.1 li_0 ?_ ?_
      · exact q_X12_fits_48 _ _ li_0 _ _ e6.2
      · exact q_X12_fits_48 _ _ li_1 _ _ e6.2
set_option maxHeartbeats 4000000 in
set_option maxRecDepth 100000 in
theorem q_X12_isAhead_51 (xs0 : Int32) (zs0 : Int) (ps0 : xs0 = mJ zs0) (ζ : ZS) (σ : HS) (hr : Rp ζ σ) : Sm QI (g_X12_isAhead_51 zs0 ζ) (f_X12_isAhead_51 xs0 σ) := by
    unfold g_X12_isAhead_51 f_X12_isAhead_51
    exact sm_zr ps0 hr
set_option maxHeartbeats 4000000 in
set_option maxRecDepth 100000 in
theorem q_X12_isAhead_2 (x1 : Int32) (z1 : Int) (p1 : x1 = mJ z1) (x2 : Int32) (z2 : Int) (p2 : x2 = mJ z2) : ∀ (n : Nat) (x3 : Int32) (z3 : Int) (p3 : x3 = mJ z3) (ζ : ZS) (σ : HS), Rp ζ σ → Sm QI (g_X12_isAhead_2 z1 z2 n z3 ζ) (f_X12_isAhead_2 0 x1 x2 n x3 σ) := by
  intro n
  induction n with
  | zero =>
    intro x3 z3 p3 ζ σ hr
    exact sm_none
  | succ n ih =>
    intro x3 z3 p3 ζ σ hr
    rw [g_X12_isAhead_2.eq_2, f_X12_isAhead_2.eq_2]
    refine sm_ile (hr.1 0 20) p3 ?_ ?_
    · exact sm_ri li_0 hr
    · refine sm_bind (q_X12_weightAt _ _ li_0 _ _ p1 _ _ p3 _ _ hr) (fun q1 w1 e1 => ?_)
      refine sm_bind (q_X12_weightAt _ _ li_0 _ _ p2 _ _ p3 _ _ e1.2) (fun q2 w2 e2 => ?_)
      refine sm_jeq e1.1 e2.1 ?_ ?_
      · exact ih _ _ (pa p3 li_1) _ _ e2.2
      · refine sm_bind (q_X12_weightAt _ _ li_0 _ _ p1 _ _ p3 _ _ e2.2) (fun q3 w3 e3 => ?_)
        refine sm_bind (q_X12_weightAt _ _ li_0 _ _ p2 _ _ p3 _ _ e3.2) (fun q4 w4 e4 => ?_)
        refine sm_jle e4.1 e3.1 ?_ ?_
        · exact q_X12_isAhead_51 _ _ li_0 _ _ e4.2
        · exact q_X12_isAhead_51 _ _ li_1 _ _ e4.2
set_option maxHeartbeats 4000000 in
set_option maxRecDepth 100000 in
theorem q_X12_isAhead (x1 : Int32) (z1 : Int) (p1 : x1 = mJ z1) (x2 : Int32) (z2 : Int) (p2 : x2 = mJ z2) (ζ : ZS) (σ : HS) (hr : Rp ζ σ) : Sm QI (g_X12_isAhead z1 z2 ζ) (f_X12_isAhead 0 x1 x2 σ) := by
    unfold g_X12_isAhead f_X12_isAhead
    exact q_X12_isAhead_2 _ _ p1 _ _ p2 FU _ _ li_0 _ _ hr
set_option maxHeartbeats 4000000 in
set_option maxRecDepth 100000 in
theorem q_X12_corner_42  (ζ : ZS) (σ : HS) (hr : Rp ζ σ) : Sm QJ (g_X12_corner_42 ζ) (f_X12_corner_42 σ) := by
    unfold g_X12_corner_42 f_X12_corner_42
    exact sm_rj lj_m1 hr
set_option maxHeartbeats 4000000 in
set_option maxRecDepth 100000 in
theorem q_X12_corner_92 (r48 : Int → ZS → Option (Int × ZS)) (f48 : Int32 → HS → Option (Int64 × HS)) (h48 : ∀ (x3 : Int32) (z3 : Int) (p3 : x3 = mJ z3) (ζ : ZS) (σ : HS), Rp ζ σ → Sm QJ (r48 z3 ζ) (f48 x3 σ)) (r64 : Int → Int → ZS → Option (Int × ZS)) (f64 : Int32 → Int32 → HS → Option (Int64 × HS)) (h64 : ∀ (x4 : Int32) (z4 : Int) (p4 : x4 = mJ z4) (x5 : Int32) (z5 : Int) (p5 : x5 = mJ z5) (ζ : ZS) (σ : HS), Rp ζ σ → Sm QJ (r64 z4 z5 ζ) (f64 x4 x5 σ)) (x1 : Int32) (z1 : Int) (p1 : x1 = mJ z1) (x2 : Int32) (z2 : Int) (p2 : x2 = mJ z2) (x3 : Int32) (z3 : Int) (p3 : x3 = mJ z3) (x5 : Int32) (z5 : Int) (p5 : x5 = mJ z5) (xs0 : Int32) (zs0 : Int) (ps0 : xs0 = mJ zs0) (xs1 : Int32) (zs1 : Int) (ps1 : xs1 = mJ zs1) (ζ : ZS) (σ : HS) (hr : Rp ζ σ) : Sm QJ (g_X12_corner_92 r48 r64 z1 z2 z3 z5 zs0 zs1 ζ) (f_X12_corner_92 f48 f64 0 x1 x2 x3 x5 xs0 xs1 σ) := by
    unfold g_X12_corner_92 f_X12_corner_92
    exact h64 _ _ (pa ps1 ps0) _ _ (pa p5 li_1) _ _ hr
set_option maxHeartbeats 4000000 in
set_option maxRecDepth 100000 in
theorem q_X12_corner_64 (x1 : Int32) (z1 : Int) (p1 : x1 = mJ z1) (x2 : Int32) (z2 : Int) (p2 : x2 = mJ z2) (x3 : Int32) (z3 : Int) (p3 : x3 = mJ z3) (r48 : Int → ZS → Option (Int × ZS)) (f48 : Int32 → HS → Option (Int64 × HS)) (h48 : ∀ (x3 : Int32) (z3 : Int) (p3 : x3 = mJ z3) (ζ : ZS) (σ : HS), Rp ζ σ → Sm QJ (r48 z3 ζ) (f48 x3 σ)) : ∀ (n : Nat) (x4 : Int32) (z4 : Int) (p4 : x4 = mJ z4) (x5 : Int32) (z5 : Int) (p5 : x5 = mJ z5) (ζ : ZS) (σ : HS), Rp ζ σ → Sm QJ (g_X12_corner_64 z1 z2 z3 r48 n z4 z5 ζ) (f_X12_corner_64 0 x1 x2 x3 f48 n x4 x5 σ) := by
  intro n
  induction n with
  | zero =>
    intro x4 z4 p4 x5 z5 p5 ζ σ hr
    exact sm_none
  | succ n ih =>
    intro x4 z4 p4 x5 z5 p5 ζ σ hr
    rw [g_X12_corner_64.eq_2, f_X12_corner_64.eq_2]
    refine sm_rk (a := 20) (pts (rp_s hr) 0 28 20 rfl) kd_20 ?_
    refine sm_ck li_0 ln_20 (fun b101 => ?_)
    refine sm_ile (rdI (a := 20) hr li_0 b101 (Nat.le_of_ble_eq_true rfl)) p5 ?_ ?_
    · refine sm_ieq p4 p1 ?_ ?_
      · refine sm_bind (q_X12_weightAt _ _ li_0 _ _ p3 _ _ p2 _ _ hr) (fun q2 w2 e2 => ?_)
        exact sm_rj e2.1 e2.2
      · exact h48 _ _ (pa p3 li_1) _ _ hr
    · refine sm_bind (q_X12_isAhead _ _ p5 _ _ p3 _ _ hr) (fun q3 w3 e3 => ?_)
      refine sm_ieq e3.1 li_0 ?_ ?_
      · exact q_X12_corner_92 _ _ h48 _ _ ih _ _ p1 _ _ p2 _ _ p3 _ _ p5 _ _ li_0 _ _ p4 _ _ e3.2
      · exact q_X12_corner_92 _ _ h48 _ _ ih _ _ p1 _ _ p2 _ _ p3 _ _ p5 _ _ li_1 _ _ p4 _ _ e3.2
set_option maxHeartbeats 4000000 in
set_option maxRecDepth 100000 in
theorem q_X12_corner_48 (x1 : Int32) (z1 : Int) (p1 : x1 = mJ z1) (x2 : Int32) (z2 : Int) (p2 : x2 = mJ z2) : ∀ (n : Nat) (x3 : Int32) (z3 : Int) (p3 : x3 = mJ z3) (ζ : ZS) (σ : HS), Rp ζ σ → Sm QJ (g_X12_corner_48 z1 z2 n z3 ζ) (f_X12_corner_48 0 x1 x2 n x3 σ) := by
  intro n
  induction n with
  | zero =>
    intro x3 z3 p3 ζ σ hr
    exact sm_none
  | succ n ih =>
    intro x3 z3 p3 ζ σ hr
    rw [g_X12_corner_48.eq_2, f_X12_corner_48.eq_2]
    refine sm_rk (a := 20) (pts (rp_s hr) 0 28 20 rfl) kd_20 ?_
    refine sm_ck li_0 ln_20 (fun b101 => ?_)
    refine sm_ile (rdI (a := 20) hr li_0 b101 (Nat.le_of_ble_eq_true rfl)) p3 ?_ ?_
    · exact sm_rj lj_m1 hr
    · exact q_X12_corner_64 _ _ p1 _ _ p2 _ _ p3 _ _ ih FU _ _ li_0 _ _ li_0 _ _ hr
set_option maxHeartbeats 4000000 in
set_option maxRecDepth 100000 in
theorem q_X12_corner (x1 : Int32) (z1 : Int) (p1 : x1 = mJ z1) (x2 : Int32) (z2 : Int) (p2 : x2 = mJ z2) (ζ : ZS) (σ : HS) (hr : Rp ζ σ) : Sm QJ (g_X12_corner z1 z2 ζ) (f_X12_corner 0 x1 x2 σ) := by
    unfold g_X12_corner f_X12_corner
    have hr101 := rwI (a := 0) (k := 0) hr li_0
    refine sm_bind (q_X12_within _ _ p2 _ _ li_0 _ _ (ps (hr101.1 0 20) li_1) _ _ hr101) (fun q2 w2 e2 => ?_)
    refine sm_ieq e2.1 li_0 ?_ ?_
    · exact q_X12_corner_42 _ _ e2.2
    · refine sm_bind (q_X12_findNow _ _ e2.2) (fun q3 w3 e3 => ?_)
      refine sm_ieq e3.1 li_0 ?_ ?_
      · exact q_X12_corner_42 _ _ e3.2
      · refine sm_rk (a := 20) (pts (rp_s e3.2) 0 28 20 rfl) kd_20 ?_
        refine sm_ck li_0 ln_20 (fun b104 => ?_)
        refine sm_bind (q_X12_within _ _ p1 _ _ li_0 _ _ (ps (rdI (a := 20) e3.2 li_0 b104 (Nat.le_of_ble_eq_true rfl)) li_1) _ _ e3.2) (fun q5 w5 e5 => ?_)
        refine sm_ieq e5.1 li_0 ?_ ?_
        · exact q_X12_corner_42 _ _ e5.2
        · exact q_X12_corner_48 _ _ p1 _ _ p2 FU _ _ li_0 _ _ e5.2
set_option maxHeartbeats 4000000 in
set_option maxRecDepth 100000 in
theorem q_X12_smallFrom_94 (rc : Int → Int → Int → ZS → Option (Int × ZS)) (frc : Nat → Int32 → Int32 → Int32 → HS → Option (Int32 × HS)) (hrc : ∀ (x1 : Int32) (z1 : Int) (p1 : x1 = mJ z1) (x2 : Int32) (z2 : Int) (p2 : x2 = mJ z2) (x3 : Int32) (z3 : Int) (p3 : x3 = mJ z3) (ζ : ZS) (σ : HS), Rp ζ σ → Sm QI (rc z1 z2 z3 ζ) (frc 0 x1 x2 x3 σ)) (r52 : Int → ZS → Option (Int × ZS)) (f52 : Int32 → HS → Option (Int32 × HS)) (h52 : ∀ (x4 : Int32) (z4 : Int) (p4 : x4 = mJ z4) (ζ : ZS) (σ : HS), Rp ζ σ → Sm QI (r52 z4 ζ) (f52 x4 σ)) (x1 : Int32) (z1 : Int) (p1 : x1 = mJ z1) (x3 : Int32) (z3 : Int) (p3 : x3 = mJ z3) (x4 : Int32) (z4 : Int) (p4 : x4 = mJ z4) (ζ : ZS) (σ : HS) (hr : Rp ζ σ) : Sm QI (g_X12_smallFrom_94 rc r52 z1 z3 z4 ζ) (f_X12_smallFrom_94 frc f52 0 x1 x3 x4 σ) := by
    unfold g_X12_smallFrom_94 f_X12_smallFrom_94
    exact h52 _ _ (pa p4 li_1) _ _ hr
set_option maxHeartbeats 4000000 in
set_option maxRecDepth 100000 in
theorem q_X12_smallFrom_52 (rc : Int → Int → Int → ZS → Option (Int × ZS)) (frc : Nat → Int32 → Int32 → Int32 → HS → Option (Int32 × HS)) (hrc : ∀ (x1 : Int32) (z1 : Int) (p1 : x1 = mJ z1) (x2 : Int32) (z2 : Int) (p2 : x2 = mJ z2) (x3 : Int32) (z3 : Int) (p3 : x3 = mJ z3) (ζ : ZS) (σ : HS), Rp ζ σ → Sm QI (rc z1 z2 z3 ζ) (frc 0 x1 x2 x3 σ)) (x1 : Int32) (z1 : Int) (p1 : x1 = mJ z1) (x3 : Int32) (z3 : Int) (p3 : x3 = mJ z3) : ∀ (n : Nat) (x4 : Int32) (z4 : Int) (p4 : x4 = mJ z4) (ζ : ZS) (σ : HS), Rp ζ σ → Sm QI (g_X12_smallFrom_52 rc z1 z3 n z4 ζ) (f_X12_smallFrom_52 frc 0 x1 x3 n x4 σ) := by
  intro n
  induction n with
  | zero =>
    intro x4 z4 p4 ζ σ hr
    exact sm_none
  | succ n ih =>
    intro x4 z4 p4 ζ σ hr
    rw [g_X12_smallFrom_52.eq_2, f_X12_smallFrom_52.eq_2]
    refine sm_rk (a := 9) (pts (rp_s hr) 0 13 9 rfl) kd_9 ?_
    refine sm_ck li_0 ln_9 (fun b101 => ?_)
    refine sm_ile (rdI (a := 9) hr li_0 b101 (Nat.le_of_ble_eq_true rfl)) p4 ?_ ?_
    · exact sm_ri li_0 hr
    · refine sm_bind (q_X12_isHeard _ _ p4 _ _ hr) (fun q2 w2 e2 => ?_)
      refine sm_ieq e2.1 li_0 ?_ ?_
      · exact q_X12_smallFrom_94 _ _ hrc _ _ ih _ _ p1 _ _ p3 _ _ p4 _ _ e2.2
      · refine sm_bind (hrc _ _ (ps p1 li_1) _ _ (pa p4 li_1) _ _ (por p3 (pshl li_1 p4)) _ _ e2.2) (fun q3 w3 e3 => ?_)
        refine sm_ieq e3.1 li_0 ?_ ?_
        · exact q_X12_smallFrom_94 _ _ hrc _ _ ih _ _ p1 _ _ p3 _ _ p4 _ _ e3.2
        · exact sm_ri li_1 e3.2
set_option maxHeartbeats 4000000 in
set_option maxRecDepth 100000 in
theorem q_X12_smallFrom_48 (rc : Int → Int → Int → ZS → Option (Int × ZS)) (frc : Nat → Int32 → Int32 → Int32 → HS → Option (Int32 × HS)) (hrc : ∀ (x1 : Int32) (z1 : Int) (p1 : x1 = mJ z1) (x2 : Int32) (z2 : Int) (p2 : x2 = mJ z2) (x3 : Int32) (z3 : Int) (p3 : x3 = mJ z3) (ζ : ZS) (σ : HS), Rp ζ σ → Sm QI (rc z1 z2 z3 ζ) (frc 0 x1 x2 x3 σ)) (xs0 : Int32) (zs0 : Int) (ps0 : xs0 = mJ zs0) (ζ : ZS) (σ : HS) (hr : Rp ζ σ) : Sm QI (g_X12_smallFrom_48 rc zs0 ζ) (f_X12_smallFrom_48 frc xs0 σ) := by
    unfold g_X12_smallFrom_48 f_X12_smallFrom_48
    exact sm_zr ps0 hr
set_option maxHeartbeats 4000000 in
set_option maxRecDepth 100000 in
theorem q_X12_smallFrom_31 (rc : Int → Int → Int → ZS → Option (Int × ZS)) (frc : Nat → Int32 → Int32 → Int32 → HS → Option (Int32 × HS)) (hrc : ∀ (x1 : Int32) (z1 : Int) (p1 : x1 = mJ z1) (x2 : Int32) (z2 : Int) (p2 : x2 = mJ z2) (x3 : Int32) (z3 : Int) (p3 : x3 = mJ z3) (ζ : ZS) (σ : HS), Rp ζ σ → Sm QI (rc z1 z2 z3 ζ) (frc 0 x1 x2 x3 σ)) (xs0 : Int32) (zs0 : Int) (ps0 : xs0 = mJ zs0) (ζ : ZS) (σ : HS) (hr : Rp ζ σ) : Sm QI (g_X12_smallFrom_31 rc zs0 ζ) (f_X12_smallFrom_31 frc 0 xs0 0 σ) := by
    unfold g_X12_smallFrom_31 f_X12_smallFrom_31
    have hr101 := rwI (a := 0) (k := 36) hr ps0
    refine sm_rk (a := 20) (pts (rp_s hr101) 0 28 20 rfl) kd_20 ?_
    refine sm_ck li_0 ln_20 (fun b102 => ?_)
    refine sm_ieq (rdI (a := 20) hr101 li_0 b102 (Nat.le_of_ble_eq_true rfl)) li_0 ?_ ?_
    · exact q_X12_smallFrom_48 _ _ hrc _ _ li_1 _ _ hr101
    · exact q_X12_smallFrom_48 _ _ hrc _ _ li_0 _ _ hr101
set_option maxHeartbeats 4000000 in
set_option maxRecDepth 100000 in
theorem q_X12_smallFrom_0 (rc : Int → Int → Int → ZS → Option (Int × ZS)) (frc : Nat → Int32 → Int32 → Int32 → HS → Option (Int32 × HS)) (hrc : ∀ (x1 : Int32) (z1 : Int) (p1 : x1 = mJ z1) (x2 : Int32) (z2 : Int) (p2 : x2 = mJ z2) (x3 : Int32) (z3 : Int) (p3 : x3 = mJ z3) (ζ : ZS) (σ : HS), Rp ζ σ → Sm QI (rc z1 z2 z3 ζ) (frc 0 x1 x2 x3 σ)) (x1 : Int32) (z1 : Int) (p1 : x1 = mJ z1) (x2 : Int32) (z2 : Int) (p2 : x2 = mJ z2) (x3 : Int32) (z3 : Int) (p3 : x3 = mJ z3) (ζ : ZS) (σ : HS) (hr : Rp ζ σ) : Sm QI (g_X12_smallFrom_0 rc z1 z2 z3 ζ) (f_X12_smallFrom_0 frc 0 x1 x2 x3 σ) := by
    unfold g_X12_smallFrom_0 f_X12_smallFrom_0
    refine sm_ieq p1 li_0 ?_ ?_
    · refine sm_bind (q_X12_laysRows _ _ p3 _ _ hr) (fun q1 w1 e1 => ?_)
      refine sm_bind (q_X12_findCorners _ _ e1) (fun q2 w2 e2 => ?_)
      refine sm_rk (a := 20) (pts (rp_s e2) 0 28 20 rfl) kd_20 ?_
      refine sm_ck li_0 ln_20 (fun b103 => ?_)
      refine sm_ieq (rdI (a := 20) e2 li_0 b103 (Nat.le_of_ble_eq_true rfl)) li_0 ?_ ?_
      · exact q_X12_smallFrom_31 _ _ hrc _ _ p3 _ _ e2
      · exact q_X12_smallFrom_31 _ _ hrc _ _ (e2.1 0 36) _ _ e2
    · exact q_X12_smallFrom_52 _ _ hrc _ _ p1 _ _ p3 FU _ _ p2 _ _ hr
theorem q_X12_smallFrom : ∀ (d : Nat) (x1 : Int32) (z1 : Int) (p1 : x1 = mJ z1) (x2 : Int32) (z2 : Int) (p2 : x2 = mJ z2) (x3 : Int32) (z3 : Int) (p3 : x3 = mJ z3) (ζ : ZS) (σ : HS), Rp ζ σ → Sm QI (g_X12_smallFrom d z1 z2 z3 ζ) (f_X12_smallFrom d 0 x1 x2 x3 σ) := by
  intro d
  induction d with
  | zero => intro x1 z1 p1 x2 z2 p2 x3 z3 p3 ζ σ hr; exact sm_none
  | succ d ih =>
    intro x1 z1 p1 x2 z2 p2 x3 z3 p3 ζ σ hr
    exact q_X12_smallFrom_0 _ _ ih x1 z1 p1 x2 z2 p2 x3 z3 p3 _ _ hr
set_option maxHeartbeats 4000000 in
set_option maxRecDepth 100000 in
theorem q_X12_small_21  (ζ : ZS) (σ : HS) (hr : Rp ζ σ) : Sm QI (g_X12_small_21 ζ) (f_X12_small_21 σ) := by
    unfold g_X12_small_21 f_X12_small_21
    exact sm_ri li_m1 hr
set_option maxHeartbeats 4000000 in
set_option maxRecDepth 100000 in
theorem q_X12_small_52 (xs0 : Int32) (zs0 : Int) (ps0 : xs0 = mJ zs0) (ζ : ZS) (σ : HS) (hr : Rp ζ σ) : Sm QI (g_X12_small_52 zs0 ζ) (f_X12_small_52 xs0 σ) := by
    unfold g_X12_small_52 f_X12_small_52
    exact sm_ri ps0 hr
set_option maxHeartbeats 4000000 in
set_option maxRecDepth 100000 in
theorem q_X12_small_25 (x1 : Int32) (z1 : Int) (p1 : x1 = mJ z1) : ∀ (n : Nat) (x2 : Int32) (z2 : Int) (p2 : x2 = mJ z2) (ζ : ZS) (σ : HS), Rp ζ σ → Sm QI (g_X12_small_25 z1 n z2 ζ) (f_X12_small_25 0 x1 n x2 σ) := by
  intro n
  induction n with
  | zero =>
    intro x2 z2 p2 ζ σ hr
    exact sm_none
  | succ n ih =>
    intro x2 z2 p2 ζ σ hr
    rw [g_X12_small_25.eq_2, f_X12_small_25.eq_2]
    refine sm_ilt li_4 p2 ?_ ?_
    · exact sm_ri li_m1 hr
    · refine sm_bind (q_X12_smallFrom DEP _ _ p2 _ _ li_0 _ _ li_0 _ _ hr) (fun q1 w1 e1 => ?_)
      refine sm_ieq e1.1 li_0 ?_ ?_
      · exact ih _ _ (pa p2 li_1) _ _ e1.2
      · refine sm_ieq p1 li_0 ?_ ?_
        · exact q_X12_small_52 _ _ p2 _ _ e1.2
        · exact q_X12_small_52 _ _ (e1.2.1 0 36) _ _ e1.2
set_option maxHeartbeats 4000000 in
set_option maxRecDepth 100000 in
theorem q_X12_small (x1 : Int32) (z1 : Int) (p1 : x1 = mJ z1) (ζ : ZS) (σ : HS) (hr : Rp ζ σ) : Sm QI (g_X12_small z1 ζ) (f_X12_small 0 x1 σ) := by
    unfold g_X12_small f_X12_small
    have hr101 := rwI (a := 0) (k := 0) hr li_0
    refine sm_bind (q_X12_within _ _ p1 _ _ li_0 _ _ li_1 _ _ hr101) (fun q2 w2 e2 => ?_)
    refine sm_ieq e2.1 li_0 ?_ ?_
    · exact q_X12_small_21 _ _ e2.2
    · refine sm_bind (q_X12_findNow _ _ e2.2) (fun q3 w3 e3 => ?_)
      refine sm_ieq e3.1 li_0 ?_ ?_
      · exact q_X12_small_25 _ _ p1 FU _ _ li_1 _ _ e3.2
      · exact q_X12_small_21 _ _ e3.2
set_option maxHeartbeats 4000000 in
set_option maxRecDepth 100000 in
theorem q_X12_whyFrom_93 (rc : Int → Int → Int → Int → Int → ZS → Option (Int × ZS)) (frc : Nat → Int32 → Int32 → Int32 → Int32 → Int32 → HS → Option (Int32 × HS)) (hrc : ∀ (x1 : Int32) (z1 : Int) (p1 : x1 = mJ z1) (x2 : Int32) (z2 : Int) (p2 : x2 = mJ z2) (x3 : Int32) (z3 : Int) (p3 : x3 = mJ z3) (x4 : Int32) (z4 : Int) (p4 : x4 = mJ z4) (x5 : Int32) (z5 : Int) (p5 : x5 = mJ z5) (ζ : ZS) (σ : HS), Rp ζ σ → Sm QI (rc z1 z2 z3 z4 z5 ζ) (frc 0 x1 x2 x3 x4 x5 σ)) (r47 : Int → ZS → Option (Int × ZS)) (f47 : Int32 → HS → Option (Int32 × HS)) (h47 : ∀ (x6 : Int32) (z6 : Int) (p6 : x6 = mJ z6) (ζ : ZS) (σ : HS), Rp ζ σ → Sm QI (r47 z6 ζ) (f47 x6 σ)) (x1 : Int32) (z1 : Int) (p1 : x1 = mJ z1) (x3 : Int32) (z3 : Int) (p3 : x3 = mJ z3) (x4 : Int32) (z4 : Int) (p4 : x4 = mJ z4) (x5 : Int32) (z5 : Int) (p5 : x5 = mJ z5) (x6 : Int32) (z6 : Int) (p6 : x6 = mJ z6) (ζ : ZS) (σ : HS) (hr : Rp ζ σ) : Sm QI (g_X12_whyFrom_93 rc r47 z1 z3 z4 z5 z6 ζ) (f_X12_whyFrom_93 frc f47 0 x1 x3 x4 x5 x6 σ) := by
    unfold g_X12_whyFrom_93 f_X12_whyFrom_93
    exact h47 _ _ (pa p6 li_1) _ _ hr
set_option maxHeartbeats 4000000 in
set_option maxRecDepth 100000 in
theorem q_X12_whyFrom_47 (rc : Int → Int → Int → Int → Int → ZS → Option (Int × ZS)) (frc : Nat → Int32 → Int32 → Int32 → Int32 → Int32 → HS → Option (Int32 × HS)) (hrc : ∀ (x1 : Int32) (z1 : Int) (p1 : x1 = mJ z1) (x2 : Int32) (z2 : Int) (p2 : x2 = mJ z2) (x3 : Int32) (z3 : Int) (p3 : x3 = mJ z3) (x4 : Int32) (z4 : Int) (p4 : x4 = mJ z4) (x5 : Int32) (z5 : Int) (p5 : x5 = mJ z5) (ζ : ZS) (σ : HS), Rp ζ σ → Sm QI (rc z1 z2 z3 z4 z5 ζ) (frc 0 x1 x2 x3 x4 x5 σ)) (x1 : Int32) (z1 : Int) (p1 : x1 = mJ z1) (x3 : Int32) (z3 : Int) (p3 : x3 = mJ z3) (x4 : Int32) (z4 : Int) (p4 : x4 = mJ z4) (x5 : Int32) (z5 : Int) (p5 : x5 = mJ z5) : ∀ (n : Nat) (x6 : Int32) (z6 : Int) (p6 : x6 = mJ z6) (ζ : ZS) (σ : HS), Rp ζ σ → Sm QI (g_X12_whyFrom_47 rc z1 z3 z4 z5 n z6 ζ) (f_X12_whyFrom_47 frc 0 x1 x3 x4 x5 n x6 σ) := by
  intro n
  induction n with
  | zero =>
    intro x6 z6 p6 ζ σ hr
    exact sm_none
  | succ n ih =>
    intro x6 z6 p6 ζ σ hr
    rw [g_X12_whyFrom_47.eq_2, f_X12_whyFrom_47.eq_2]
    refine sm_rk (a := 9) (pts (rp_s hr) 0 13 9 rfl) kd_9 ?_
    refine sm_ck li_0 ln_9 (fun b101 => ?_)
    refine sm_ile (rdI (a := 9) hr li_0 b101 (Nat.le_of_ble_eq_true rfl)) p6 ?_ ?_
    · exact sm_ri li_0 hr
    · refine sm_bind (q_X12_isHeard _ _ p6 _ _ hr) (fun q2 w2 e2 => ?_)
      refine sm_ieq e2.1 li_0 ?_ ?_
      · exact q_X12_whyFrom_93 _ _ hrc _ _ ih _ _ p1 _ _ p3 _ _ p4 _ _ p5 _ _ p6 _ _ e2.2
      · refine sm_bind (hrc _ _ (ps p1 li_1) _ _ (pa p6 li_1) _ _ (por p3 (pshl li_1 p6)) _ _ p4 _ _ p5 _ _ e2.2) (fun q3 w3 e3 => ?_)
        refine sm_ieq e3.1 li_0 ?_ ?_
        · exact q_X12_whyFrom_93 _ _ hrc _ _ ih _ _ p1 _ _ p3 _ _ p4 _ _ p5 _ _ p6 _ _ e3.2
        · exact sm_ri li_1 e3.2
set_option maxHeartbeats 4000000 in
set_option maxRecDepth 100000 in
theorem q_X12_whyFrom_38 (rc : Int → Int → Int → Int → Int → ZS → Option (Int × ZS)) (frc : Nat → Int32 → Int32 → Int32 → Int32 → Int32 → HS → Option (Int32 × HS)) (hrc : ∀ (x1 : Int32) (z1 : Int) (p1 : x1 = mJ z1) (x2 : Int32) (z2 : Int) (p2 : x2 = mJ z2) (x3 : Int32) (z3 : Int) (p3 : x3 = mJ z3) (x4 : Int32) (z4 : Int) (p4 : x4 = mJ z4) (x5 : Int32) (z5 : Int) (p5 : x5 = mJ z5) (ζ : ZS) (σ : HS), Rp ζ σ → Sm QI (rc z1 z2 z3 z4 z5 ζ) (frc 0 x1 x2 x3 x4 x5 σ)) (x6 : Int32) (z6 : Int) (p6 : x6 = mJ z6) (xs0 : Int32) (zs0 : Int) (ps0 : xs0 = mJ zs0) (ζ : ZS) (σ : HS) (hr : Rp ζ σ) : Sm QI (g_X12_whyFrom_38 rc z6 zs0 ζ) (f_X12_whyFrom_38 frc x6 xs0 0 σ) := by
    unfold g_X12_whyFrom_38 f_X12_whyFrom_38
    have hr101 := rwI (a := 0) (k := 36) hr ps0
    exact sm_zr p6 hr101
set_option maxHeartbeats 4000000 in
set_option maxRecDepth 100000 in
theorem q_X12_whyFrom_0 (rc : Int → Int → Int → Int → Int → ZS → Option (Int × ZS)) (frc : Nat → Int32 → Int32 → Int32 → Int32 → Int32 → HS → Option (Int32 × HS)) (hrc : ∀ (x1 : Int32) (z1 : Int) (p1 : x1 = mJ z1) (x2 : Int32) (z2 : Int) (p2 : x2 = mJ z2) (x3 : Int32) (z3 : Int) (p3 : x3 = mJ z3) (x4 : Int32) (z4 : Int) (p4 : x4 = mJ z4) (x5 : Int32) (z5 : Int) (p5 : x5 = mJ z5) (ζ : ZS) (σ : HS), Rp ζ σ → Sm QI (rc z1 z2 z3 z4 z5 ζ) (frc 0 x1 x2 x3 x4 x5 σ)) (x1 : Int32) (z1 : Int) (p1 : x1 = mJ z1) (x2 : Int32) (z2 : Int) (p2 : x2 = mJ z2) (x3 : Int32) (z3 : Int) (p3 : x3 = mJ z3) (x4 : Int32) (z4 : Int) (p4 : x4 = mJ z4) (x5 : Int32) (z5 : Int) (p5 : x5 = mJ z5) (ζ : ZS) (σ : HS) (hr : Rp ζ σ) : Sm QI (g_X12_whyFrom_0 rc z1 z2 z3 z4 z5 ζ) (f_X12_whyFrom_0 frc 0 x1 x2 x3 x4 x5 σ) := by
    unfold g_X12_whyFrom_0 f_X12_whyFrom_0
    refine sm_ieq p1 li_0 ?_ ?_
    · refine sm_bind (q_X12_laysRows _ _ p3 _ _ hr) (fun q1 w1 e1 => ?_)
      refine sm_bind (q_X12_findCorners _ _ e1) (fun q2 w2 e2 => ?_)
      refine sm_bind (q_X12_isBetter _ _ p4 _ _ p5 _ _ li_0 _ _ e2) (fun q3 w3 e3 => ?_)
      refine sm_ieq e3.1 li_0 ?_ ?_
      · exact q_X12_whyFrom_38 _ _ hrc _ _ e3.1 _ _ (e3.2.1 0 36) _ _ e3.2
      · exact q_X12_whyFrom_38 _ _ hrc _ _ e3.1 _ _ p3 _ _ e3.2
    · exact q_X12_whyFrom_47 _ _ hrc _ _ p1 _ _ p3 _ _ p4 _ _ p5 FU _ _ p2 _ _ hr
theorem q_X12_whyFrom : ∀ (d : Nat) (x1 : Int32) (z1 : Int) (p1 : x1 = mJ z1) (x2 : Int32) (z2 : Int) (p2 : x2 = mJ z2) (x3 : Int32) (z3 : Int) (p3 : x3 = mJ z3) (x4 : Int32) (z4 : Int) (p4 : x4 = mJ z4) (x5 : Int32) (z5 : Int) (p5 : x5 = mJ z5) (ζ : ZS) (σ : HS), Rp ζ σ → Sm QI (g_X12_whyFrom d z1 z2 z3 z4 z5 ζ) (f_X12_whyFrom d 0 x1 x2 x3 x4 x5 σ) := by
  intro d
  induction d with
  | zero => intro x1 z1 p1 x2 z2 p2 x3 z3 p3 x4 z4 p4 x5 z5 p5 ζ σ hr; exact sm_none
  | succ d ih =>
    intro x1 z1 p1 x2 z2 p2 x3 z3 p3 x4 z4 p4 x5 z5 p5 ζ σ hr
    exact q_X12_whyFrom_0 _ _ ih x1 z1 p1 x2 z2 p2 x3 z3 p3 x4 z4 p4 x5 z5 p5 _ _ hr
set_option maxHeartbeats 4000000 in
set_option maxRecDepth 100000 in
theorem q_X12_areTwo_46 (xs0 : Int32) (zs0 : Int) (ps0 : xs0 = mJ zs0) (ζ : ZS) (σ : HS) (hr : Rp ζ σ) : Sm QI (g_X12_areTwo_46 zs0 ζ) (f_X12_areTwo_46 xs0 σ) := by
    unfold g_X12_areTwo_46 f_X12_areTwo_46
    exact sm_zr ps0 hr
set_option maxHeartbeats 4000000 in
set_option maxRecDepth 100000 in
theorem q_X12_areTwo_45  (ζ : ZS) (σ : HS) (hr : Rp ζ σ) : Sm QI (g_X12_areTwo_45 ζ) (f_X12_areTwo_45 σ) := by
    unfold g_X12_areTwo_45 f_X12_areTwo_45
    exact q_X12_areTwo_46 _ _ li_0 _ _ hr
set_option maxHeartbeats 4000000 in
set_option maxRecDepth 100000 in
theorem q_X12_areTwo (x1 : Int32) (z1 : Int) (p1 : x1 = mJ z1) (x2 : Int32) (z2 : Int) (p2 : x2 = mJ z2) (ζ : ZS) (σ : HS) (hr : Rp ζ σ) : Sm QI (g_X12_areTwo z1 z2 ζ) (f_X12_areTwo 0 x1 x2 σ) := by
    unfold g_X12_areTwo f_X12_areTwo
    refine sm_bind (q_X12_within _ _ p1 _ _ li_0 _ _ li_7 _ _ hr) (fun q1 w1 e1 => ?_)
    refine sm_ieq e1.1 li_0 ?_ ?_
    · exact q_X12_areTwo_45 _ _ e1.2
    · refine sm_bind (q_X12_within _ _ p2 _ _ li_0 _ _ li_7 _ _ e1.2) (fun q2 w2 e2 => ?_)
      refine sm_ieq e2.1 li_0 ?_ ?_
      · exact q_X12_areTwo_45 _ _ e2.2
      · refine sm_ieq p1 p2 ?_ ?_
        · exact q_X12_areTwo_45 _ _ e2.2
        · refine sm_bind (q_X12_isIn _ _ p1 _ _ e2.2) (fun q3 w3 e3 => ?_)
          refine sm_ieq e3.1 li_0 ?_ ?_
          · exact q_X12_areTwo_45 _ _ e3.2
          · refine sm_bind (q_X12_isIn _ _ p2 _ _ e3.2) (fun q4 w4 e4 => ?_)
            refine sm_ieq e4.1 li_0 ?_ ?_
            · exact q_X12_areTwo_45 _ _ e4.2
            · exact q_X12_areTwo_46 _ _ li_1 _ _ e4.2
set_option maxHeartbeats 4000000 in
set_option maxRecDepth 100000 in
theorem q_X12_why_40  (ζ : ZS) (σ : HS) (hr : Rp ζ σ) : Sm QI (g_X12_why_40 ζ) (f_X12_why_40 σ) := by
    unfold g_X12_why_40 f_X12_why_40
    exact sm_ri li_m1 hr
set_option maxHeartbeats 4000000 in
set_option maxRecDepth 100000 in
theorem q_X12_why_77 (xs0 : Int32) (zs0 : Int) (ps0 : xs0 = mJ zs0) (ζ : ZS) (σ : HS) (hr : Rp ζ σ) : Sm QI (g_X12_why_77 zs0 ζ) (f_X12_why_77 xs0 σ) := by
    unfold g_X12_why_77 f_X12_why_77
    exact sm_ri ps0 hr
set_option maxHeartbeats 4000000 in
set_option maxRecDepth 100000 in
theorem q_X12_why_45 (x1 : Int32) (z1 : Int) (p1 : x1 = mJ z1) (x2 : Int32) (z2 : Int) (p2 : x2 = mJ z2) (x3 : Int32) (z3 : Int) (p3 : x3 = mJ z3) : ∀ (n : Nat) (x4 : Int32) (z4 : Int) (p4 : x4 = mJ z4) (ζ : ZS) (σ : HS), Rp ζ σ → Sm QI (g_X12_why_45 z1 z2 z3 n z4 ζ) (f_X12_why_45 0 x1 x2 x3 n x4 σ) := by
  intro n
  induction n with
  | zero =>
    intro x4 z4 p4 ζ σ hr
    exact sm_none
  | succ n ih =>
    intro x4 z4 p4 ζ σ hr
    rw [g_X12_why_45.eq_2, f_X12_why_45.eq_2]
    refine sm_ilt li_3 p4 ?_ ?_
    · exact sm_ri li_m1 hr
    · refine sm_bind (q_X12_whyFrom DEP _ _ p4 _ _ li_0 _ _ li_0 _ _ p1 _ _ p2 _ _ hr) (fun q1 w1 e1 => ?_)
      refine sm_ieq e1.1 li_0 ?_ ?_
      · exact ih _ _ (pa p4 li_1) _ _ e1.2
      · refine sm_ieq p3 li_0 ?_ ?_
        · exact q_X12_why_77 _ _ p4 _ _ e1.2
        · exact q_X12_why_77 _ _ (e1.2.1 0 36) _ _ e1.2
set_option maxHeartbeats 4000000 in
set_option maxRecDepth 100000 in
theorem q_X12_why (x1 : Int32) (z1 : Int) (p1 : x1 = mJ z1) (x2 : Int32) (z2 : Int) (p2 : x2 = mJ z2) (x3 : Int32) (z3 : Int) (p3 : x3 = mJ z3) (ζ : ZS) (σ : HS) (hr : Rp ζ σ) : Sm QI (g_X12_why z1 z2 z3 ζ) (f_X12_why 0 x1 x2 x3 σ) := by
    unfold g_X12_why f_X12_why
    have hr101 := rwI (a := 0) (k := 0) hr li_0
    refine sm_bind (q_X12_areTwo _ _ p1 _ _ p2 _ _ hr101) (fun q2 w2 e2 => ?_)
    refine sm_ieq e2.1 li_0 ?_ ?_
    · exact q_X12_why_40 _ _ e2.2
    · refine sm_bind (q_X12_within _ _ p3 _ _ li_0 _ _ li_1 _ _ e2.2) (fun q3 w3 e3 => ?_)
      refine sm_ieq e3.1 li_0 ?_ ?_
      · exact q_X12_why_40 _ _ e3.2
      · refine sm_bind (q_X12_findNow _ _ e3.2) (fun q4 w4 e4 => ?_)
        refine sm_ieq e4.1 li_0 ?_ ?_
        · exact q_X12_why_40 _ _ e4.2
        · refine sm_bind (q_X12_isBetter _ _ p1 _ _ p2 _ _ li_0 _ _ e4.2) (fun q5 w5 e5 => ?_)
          refine sm_ieq e5.1 li_0 ?_ ?_
          · exact q_X12_why_40 _ _ e5.2
          · exact q_X12_why_45 _ _ p1 _ _ p2 _ _ p3 FU _ _ li_0 _ _ e5.2
set_option maxHeartbeats 4000000 in
set_option maxRecDepth 100000 in
theorem q_X12_beatenFrom_128 (rc : Int → Int → Int → Int → Int → ZS → Option (Int × ZS)) (frc : Nat → Int32 → Int32 → Int32 → Int32 → Int32 → HS → Option (Int32 × HS)) (hrc : ∀ (x1 : Int32) (z1 : Int) (p1 : x1 = mJ z1) (x2 : Int32) (z2 : Int) (p2 : x2 = mJ z2) (x3 : Int32) (z3 : Int) (p3 : x3 = mJ z3) (x4 : Int32) (z4 : Int) (p4 : x4 = mJ z4) (x5 : Int32) (z5 : Int) (p5 : x5 = mJ z5) (ζ : ZS) (σ : HS), Rp ζ σ → Sm QI (rc z1 z2 z3 z4 z5 ζ) (frc 0 x1 x2 x3 x4 x5 σ)) (x6 : Int32) (z6 : Int) (p6 : x6 = mJ z6) (ζ : ZS) (σ : HS) (hr : Rp ζ σ) : Sm QI (g_X12_beatenFrom_128 rc z6 ζ) (f_X12_beatenFrom_128 frc x6 σ) := by
    unfold g_X12_beatenFrom_128 f_X12_beatenFrom_128
    exact sm_zr p6 hr
set_option maxHeartbeats 4000000 in
set_option maxRecDepth 100000 in
theorem q_X12_beatenFrom_122 (rc : Int → Int → Int → Int → Int → ZS → Option (Int × ZS)) (frc : Nat → Int32 → Int32 → Int32 → Int32 → Int32 → HS → Option (Int32 × HS)) (hrc : ∀ (x1 : Int32) (z1 : Int) (p1 : x1 = mJ z1) (x2 : Int32) (z2 : Int) (p2 : x2 = mJ z2) (x3 : Int32) (z3 : Int) (p3 : x3 = mJ z3) (x4 : Int32) (z4 : Int) (p4 : x4 = mJ z4) (x5 : Int32) (z5 : Int) (p5 : x5 = mJ z5) (ζ : ZS) (σ : HS), Rp ζ σ → Sm QI (rc z1 z2 z3 z4 z5 ζ) (frc 0 x1 x2 x3 x4 x5 σ)) (r49 : Int → Int → ZS → Option (Int × ZS)) (f49 : Int32 → Int32 → HS → Option (Int32 × HS)) (h49 : ∀ (x6 : Int32) (z6 : Int) (p6 : x6 = mJ z6) (x7 : Int32) (z7 : Int) (p7 : x7 = mJ z7) (ζ : ZS) (σ : HS), Rp ζ σ → Sm QI (r49 z6 z7 ζ) (f49 x6 x7 σ)) (x1 : Int32) (z1 : Int) (p1 : x1 = mJ z1) (x2 : Int32) (z2 : Int) (p2 : x2 = mJ z2) (x4 : Int32) (z4 : Int) (p4 : x4 = mJ z4) (x5 : Int32) (z5 : Int) (p5 : x5 = mJ z5) (x6 : Int32) (z6 : Int) (p6 : x6 = mJ z6) (x7 : Int32) (z7 : Int) (p7 : x7 = mJ z7) (ζ : ZS) (σ : HS) (hr : Rp ζ σ) : Sm QI (g_X12_beatenFrom_122 rc r49 z1 z2 z4 z5 z6 z7 ζ) (f_X12_beatenFrom_122 frc f49 0 x1 x2 x4 x5 x6 x7 σ) := by
    unfold g_X12_beatenFrom_122 f_X12_beatenFrom_122
    exact h49 _ _ p6 _ _ (pa p7 li_1) _ _ hr
set_option maxHeartbeats 4000000 in
set_option maxRecDepth 100000 in
theorem q_X12_beatenFrom_49 (rc : Int → Int → Int → Int → Int → ZS → Option (Int × ZS)) (frc : Nat → Int32 → Int32 → Int32 → Int32 → Int32 → HS → Option (Int32 × HS)) (hrc : ∀ (x1 : Int32) (z1 : Int) (p1 : x1 = mJ z1) (x2 : Int32) (z2 : Int) (p2 : x2 = mJ z2) (x3 : Int32) (z3 : Int) (p3 : x3 = mJ z3) (x4 : Int32) (z4 : Int) (p4 : x4 = mJ z4) (x5 : Int32) (z5 : Int) (p5 : x5 = mJ z5) (ζ : ZS) (σ : HS), Rp ζ σ → Sm QI (rc z1 z2 z3 z4 z5 ζ) (frc 0 x1 x2 x3 x4 x5 σ)) (x1 : Int32) (z1 : Int) (p1 : x1 = mJ z1) (x2 : Int32) (z2 : Int) (p2 : x2 = mJ z2) (x4 : Int32) (z4 : Int) (p4 : x4 = mJ z4) (x5 : Int32) (z5 : Int) (p5 : x5 = mJ z5) : ∀ (n : Nat) (x6 : Int32) (z6 : Int) (p6 : x6 = mJ z6) (x7 : Int32) (z7 : Int) (p7 : x7 = mJ z7) (ζ : ZS) (σ : HS), Rp ζ σ → Sm QI (g_X12_beatenFrom_49 rc z1 z2 z4 z5 n z6 z7 ζ) (f_X12_beatenFrom_49 frc 0 x1 x2 x4 x5 n x6 x7 σ) := by
  intro n
  induction n with
  | zero =>
    intro x6 z6 p6 x7 z7 p7 ζ σ hr
    exact sm_none
  | succ n ih =>
    intro x6 z6 p6 x7 z7 p7 ζ σ hr
    rw [g_X12_beatenFrom_49.eq_2, f_X12_beatenFrom_49.eq_2]
    refine sm_ile li_8 p7 ?_ ?_
    · exact q_X12_beatenFrom_128 _ _ hrc _ _ p6 _ _ hr
    · refine sm_ieq p6 li_0 ?_ ?_
      · refine sm_ieq p7 p1 ?_ ?_
        · exact q_X12_beatenFrom_122 _ _ hrc _ _ ih _ _ p1 _ _ p2 _ _ p4 _ _ p5 _ _ p6 _ _ p7 _ _ hr
        · refine sm_bind (q_X12_isIn _ _ p7 _ _ hr) (fun q1 w1 e1 => ?_)
          refine sm_ieq e1.1 li_0 ?_ ?_
          · exact q_X12_beatenFrom_122 _ _ hrc _ _ ih _ _ p1 _ _ p2 _ _ p4 _ _ p5 _ _ p6 _ _ p7 _ _ e1.2
          · refine sm_bind (q_X12_addsAbove _ _ p1 _ _ p7 _ _ e1.2) (fun q2 w2 e2 => ?_)
            refine sm_bind (q_X12_findMore _ _ (pa p5 li_1) _ _ e2) (fun q3 w3 e3 => ?_)
            refine sm_bind (hrc _ _ p1 _ _ (ps p2 li_1) _ _ (pa p7 li_1) _ _ (por p4 (pshl li_1 p7)) _ _ (pa p5 li_1) _ _ e3) (fun q4 w4 e4 => ?_)
            refine sm_bind (q_X12_backTo _ _ p5 _ _ e4.2) (fun q5 w5 e5 => ?_)
            exact q_X12_beatenFrom_122 _ _ hrc _ _ ih _ _ p1 _ _ p2 _ _ p4 _ _ p5 _ _ e4.1 _ _ p7 _ _ e5
      · exact q_X12_beatenFrom_128 _ _ hrc _ _ p6 _ _ hr
set_option maxHeartbeats 4000000 in
set_option maxRecDepth 100000 in
theorem q_X12_beatenFrom_42 (rc : Int → Int → Int → Int → Int → ZS → Option (Int × ZS)) (frc : Nat → Int32 → Int32 → Int32 → Int32 → Int32 → HS → Option (Int32 × HS)) (hrc : ∀ (x1 : Int32) (z1 : Int) (p1 : x1 = mJ z1) (x2 : Int32) (z2 : Int) (p2 : x2 = mJ z2) (x3 : Int32) (z3 : Int) (p3 : x3 = mJ z3) (x4 : Int32) (z4 : Int) (p4 : x4 = mJ z4) (x5 : Int32) (z5 : Int) (p5 : x5 = mJ z5) (ζ : ZS) (σ : HS), Rp ζ σ → Sm QI (rc z1 z2 z3 z4 z5 ζ) (frc 0 x1 x2 x3 x4 x5 σ)) (xs0 : Int32) (zs0 : Int) (ps0 : xs0 = mJ zs0) (ζ : ZS) (σ : HS) (hr : Rp ζ σ) : Sm QI (g_X12_beatenFrom_42 rc zs0 ζ) (f_X12_beatenFrom_42 frc xs0 σ) := by
    unfold g_X12_beatenFrom_42 f_X12_beatenFrom_42
    exact sm_zr ps0 hr
set_option maxHeartbeats 4000000 in
set_option maxRecDepth 100000 in
theorem q_X12_beatenFrom_24 (rc : Int → Int → Int → Int → Int → ZS → Option (Int × ZS)) (frc : Nat → Int32 → Int32 → Int32 → Int32 → Int32 → HS → Option (Int32 × HS)) (hrc : ∀ (x1 : Int32) (z1 : Int) (p1 : x1 = mJ z1) (x2 : Int32) (z2 : Int) (p2 : x2 = mJ z2) (x3 : Int32) (z3 : Int) (p3 : x3 = mJ z3) (x4 : Int32) (z4 : Int) (p4 : x4 = mJ z4) (x5 : Int32) (z5 : Int) (p5 : x5 = mJ z5) (ζ : ZS) (σ : HS), Rp ζ σ → Sm QI (rc z1 z2 z3 z4 z5 ζ) (frc 0 x1 x2 x3 x4 x5 σ)) (x5 : Int32) (z5 : Int) (p5 : x5 = mJ z5) (xs0 : Int32) (zs0 : Int) (ps0 : xs0 = mJ zs0) (ζ : ZS) (σ : HS) (hr : Rp ζ σ) : Sm QI (g_X12_beatenFrom_24 rc z5 zs0 ζ) (f_X12_beatenFrom_24 frc 0 x5 xs0 0 σ) := by
    unfold g_X12_beatenFrom_24 f_X12_beatenFrom_24
    have hr101 := rwI (a := 0) (k := 36) hr ps0
    refine sm_rk (a := 20) (pts (rp_s hr101) 0 28 20 rfl) kd_20 ?_
    refine sm_ck p5 ln_20 (fun b102 => ?_)
    refine sm_ieq (rdI (a := 20) hr101 p5 b102 (Nat.le_of_ble_eq_true rfl)) li_0 ?_ ?_
    · exact q_X12_beatenFrom_42 _ _ hrc _ _ li_1 _ _ hr101
    · exact q_X12_beatenFrom_42 _ _ hrc _ _ li_0 _ _ hr101
set_option maxHeartbeats 4000000 in
set_option maxRecDepth 100000 in
theorem q_X12_beatenFrom_0 (rc : Int → Int → Int → Int → Int → ZS → Option (Int × ZS)) (frc : Nat → Int32 → Int32 → Int32 → Int32 → Int32 → HS → Option (Int32 × HS)) (hrc : ∀ (x1 : Int32) (z1 : Int) (p1 : x1 = mJ z1) (x2 : Int32) (z2 : Int) (p2 : x2 = mJ z2) (x3 : Int32) (z3 : Int) (p3 : x3 = mJ z3) (x4 : Int32) (z4 : Int) (p4 : x4 = mJ z4) (x5 : Int32) (z5 : Int) (p5 : x5 = mJ z5) (ζ : ZS) (σ : HS), Rp ζ σ → Sm QI (rc z1 z2 z3 z4 z5 ζ) (frc 0 x1 x2 x3 x4 x5 σ)) (x1 : Int32) (z1 : Int) (p1 : x1 = mJ z1) (x2 : Int32) (z2 : Int) (p2 : x2 = mJ z2) (x3 : Int32) (z3 : Int) (p3 : x3 = mJ z3) (x4 : Int32) (z4 : Int) (p4 : x4 = mJ z4) (x5 : Int32) (z5 : Int) (p5 : x5 = mJ z5) (ζ : ZS) (σ : HS) (hr : Rp ζ σ) : Sm QI (g_X12_beatenFrom_0 rc z1 z2 z3 z4 z5 ζ) (f_X12_beatenFrom_0 frc 0 x1 x2 x3 x4 x5 σ) := by
    unfold g_X12_beatenFrom_0 f_X12_beatenFrom_0
    refine sm_ieq p2 li_0 ?_ ?_
    · refine sm_rk (a := 20) (pts (rp_s hr) 0 28 20 rfl) kd_20 ?_
      refine sm_ck p5 ln_20 (fun b101 => ?_)
      refine sm_ieq (rdI (a := 20) hr p5 b101 (Nat.le_of_ble_eq_true rfl)) li_0 ?_ ?_
      · exact q_X12_beatenFrom_24 _ _ hrc _ _ p5 _ _ p4 _ _ hr
      · exact q_X12_beatenFrom_24 _ _ hrc _ _ p5 _ _ (hr.1 0 36) _ _ hr
    · exact q_X12_beatenFrom_49 _ _ hrc _ _ p1 _ _ p2 _ _ p4 _ _ p5 FU _ _ li_0 _ _ p3 _ _ hr
theorem q_X12_beatenFrom : ∀ (d : Nat) (x1 : Int32) (z1 : Int) (p1 : x1 = mJ z1) (x2 : Int32) (z2 : Int) (p2 : x2 = mJ z2) (x3 : Int32) (z3 : Int) (p3 : x3 = mJ z3) (x4 : Int32) (z4 : Int) (p4 : x4 = mJ z4) (x5 : Int32) (z5 : Int) (p5 : x5 = mJ z5) (ζ : ZS) (σ : HS), Rp ζ σ → Sm QI (g_X12_beatenFrom d z1 z2 z3 z4 z5 ζ) (f_X12_beatenFrom d 0 x1 x2 x3 x4 x5 σ) := by
  intro d
  induction d with
  | zero => intro x1 z1 p1 x2 z2 p2 x3 z3 p3 x4 z4 p4 x5 z5 p5 ζ σ hr; exact sm_none
  | succ d ih =>
    intro x1 z1 p1 x2 z2 p2 x3 z3 p3 x4 z4 p4 x5 z5 p5 ζ σ hr
    exact q_X12_beatenFrom_0 _ _ ih x1 z1 p1 x2 z2 p2 x3 z3 p3 x4 z4 p4 x5 z5 p5 _ _ hr
set_option maxHeartbeats 4000000 in
set_option maxRecDepth 100000 in
theorem q_X12_isThingIn_23 (xs0 : Int32) (zs0 : Int) (ps0 : xs0 = mJ zs0) (ζ : ZS) (σ : HS) (hr : Rp ζ σ) : Sm QI (g_X12_isThingIn_23 zs0 ζ) (f_X12_isThingIn_23 xs0 σ) := by
    unfold g_X12_isThingIn_23 f_X12_isThingIn_23
    exact sm_zr ps0 hr
set_option maxHeartbeats 4000000 in
set_option maxRecDepth 100000 in
theorem q_X12_isThingIn_22  (ζ : ZS) (σ : HS) (hr : Rp ζ σ) : Sm QI (g_X12_isThingIn_22 ζ) (f_X12_isThingIn_22 σ) := by
    unfold g_X12_isThingIn_22 f_X12_isThingIn_22
    exact q_X12_isThingIn_23 _ _ li_0 _ _ hr
set_option maxHeartbeats 4000000 in
set_option maxRecDepth 100000 in
theorem q_X12_isThingIn (x1 : Int32) (z1 : Int) (p1 : x1 = mJ z1) (ζ : ZS) (σ : HS) (hr : Rp ζ σ) : Sm QI (g_X12_isThingIn z1 ζ) (f_X12_isThingIn 0 x1 σ) := by
    unfold g_X12_isThingIn f_X12_isThingIn
    refine sm_bind (q_X12_within _ _ p1 _ _ li_0 _ _ li_7 _ _ hr) (fun q1 w1 e1 => ?_)
    refine sm_ieq e1.1 li_0 ?_ ?_
    · exact q_X12_isThingIn_22 _ _ e1.2
    · refine sm_bind (q_X12_isIn _ _ p1 _ _ e1.2) (fun q2 w2 e2 => ?_)
      refine sm_ieq e2.1 li_0 ?_ ?_
      · exact q_X12_isThingIn_22 _ _ e2.2
      · exact q_X12_isThingIn_23 _ _ li_1 _ _ e2.2
set_option maxHeartbeats 4000000 in
set_option maxRecDepth 100000 in
theorem q_X12_beaten_29  (ζ : ZS) (σ : HS) (hr : Rp ζ σ) : Sm QI (g_X12_beaten_29 ζ) (f_X12_beaten_29 σ) := by
    unfold g_X12_beaten_29 f_X12_beaten_29
    exact sm_ri li_m1 hr
set_option maxHeartbeats 4000000 in
set_option maxRecDepth 100000 in
theorem q_X12_beaten_33 (x1 : Int32) (z1 : Int) (p1 : x1 = mJ z1) : ∀ (n : Nat) (x2 : Int32) (z2 : Int) (p2 : x2 = mJ z2) (ζ : ZS) (σ : HS), Rp ζ σ → Sm QI (g_X12_beaten_33 z1 n z2 ζ) (f_X12_beaten_33 0 x1 n x2 σ) := by
  intro n
  induction n with
  | zero =>
    intro x2 z2 p2 ζ σ hr
    exact sm_none
  | succ n ih =>
    intro x2 z2 p2 ζ σ hr
    rw [g_X12_beaten_33.eq_2, f_X12_beaten_33.eq_2]
    refine sm_ilt li_3 p2 ?_ ?_
    · exact sm_ri li_m1 hr
    · refine sm_bind (q_X12_beatenFrom DEP _ _ p1 _ _ p2 _ _ li_0 _ _ li_0 _ _ li_0 _ _ hr) (fun q1 w1 e1 => ?_)
      refine sm_ieq e1.1 li_0 ?_ ?_
      · exact ih _ _ (pa p2 li_1) _ _ e1.2
      · exact sm_ri (e1.2.1 0 36) e1.2
set_option maxHeartbeats 4000000 in
set_option maxRecDepth 100000 in
theorem q_X12_beaten (x1 : Int32) (z1 : Int) (p1 : x1 = mJ z1) (ζ : ZS) (σ : HS) (hr : Rp ζ σ) : Sm QI (g_X12_beaten z1 ζ) (f_X12_beaten 0 x1 σ) := by
    unfold g_X12_beaten f_X12_beaten
    have hr101 := rwI (a := 0) (k := 0) hr li_0
    refine sm_bind (q_X12_isThingIn _ _ p1 _ _ hr101) (fun q2 w2 e2 => ?_)
    refine sm_ieq e2.1 li_0 ?_ ?_
    · exact q_X12_beaten_29 _ _ e2.2
    · refine sm_bind (q_X12_findNow _ _ e2.2) (fun q3 w3 e3 => ?_)
      refine sm_ieq e3.1 li_0 ?_ ?_
      · exact q_X12_beaten_29 _ _ e3.2
      · refine sm_bind (q_X12_mayBe _ _ p1 _ _ li_0 _ _ e3.2) (fun q4 w4 e4 => ?_)
        refine sm_ieq e4.1 li_0 ?_ ?_
        · exact q_X12_beaten_33 _ _ p1 FU _ _ li_1 _ _ e4.2
        · exact q_X12_beaten_29 _ _ e4.2
set_option maxHeartbeats 4000000 in
set_option maxRecDepth 100000 in
theorem q_X12_betterNow_93 (xs0 : Int32) (zs0 : Int) (ps0 : xs0 = mJ zs0) (ζ : ZS) (σ : HS) (hr : Rp ζ σ) : Sm QI (g_X12_betterNow_93 zs0 ζ) (f_X12_betterNow_93 xs0 σ) := by
    unfold g_X12_betterNow_93 f_X12_betterNow_93
    exact sm_ri ps0 hr
set_option maxHeartbeats 4000000 in
set_option maxRecDepth 100000 in
theorem q_X12_betterNow_67 (r8 : Int → Int → Int → ZS → Option (Int × ZS)) (f8 : Int32 → Int32 → Int32 → HS → Option (Int32 × HS)) (h8 : ∀ (x3 : Int32) (z3 : Int) (p3 : x3 = mJ z3) (x4 : Int32) (z4 : Int) (p4 : x4 = mJ z4) (x5 : Int32) (z5 : Int) (p5 : x5 = mJ z5) (ζ : ZS) (σ : HS), Rp ζ σ → Sm QI (r8 z3 z4 z5 ζ) (f8 x3 x4 x5 σ)) (x1 : Int32) (z1 : Int) (p1 : x1 = mJ z1) (x2 : Int32) (z2 : Int) (p2 : x2 = mJ z2) (x3 : Int32) (z3 : Int) (p3 : x3 = mJ z3) (x5 : Int32) (z5 : Int) (p5 : x5 = mJ z5) (xs0 : Int32) (zs0 : Int) (ps0 : xs0 = mJ zs0) (ζ : ZS) (σ : HS) (hr : Rp ζ σ) : Sm QI (g_X12_betterNow_67 r8 z1 z2 z3 z5 zs0 ζ) (f_X12_betterNow_67 f8 0 x1 x2 x3 x5 xs0 σ) := by
    unfold g_X12_betterNow_67 f_X12_betterNow_67
    exact h8 _ _ p3 _ _ ps0 _ _ (pa p5 li_1) _ _ hr
set_option maxHeartbeats 4000000 in
set_option maxRecDepth 100000 in
theorem q_X12_betterNow_62 (r8 : Int → Int → Int → ZS → Option (Int × ZS)) (f8 : Int32 → Int32 → Int32 → HS → Option (Int32 × HS)) (h8 : ∀ (x3 : Int32) (z3 : Int) (p3 : x3 = mJ z3) (x4 : Int32) (z4 : Int) (p4 : x4 = mJ z4) (x5 : Int32) (z5 : Int) (p5 : x5 = mJ z5) (ζ : ZS) (σ : HS), Rp ζ σ → Sm QI (r8 z3 z4 z5 ζ) (f8 x3 x4 x5 σ)) (x1 : Int32) (z1 : Int) (p1 : x1 = mJ z1) (x2 : Int32) (z2 : Int) (p2 : x2 = mJ z2) (x3 : Int32) (z3 : Int) (p3 : x3 = mJ z3) (x5 : Int32) (z5 : Int) (p5 : x5 = mJ z5) (ζ : ZS) (σ : HS) (hr : Rp ζ σ) : Sm QI (g_X12_betterNow_62 r8 z1 z2 z3 z5 ζ) (f_X12_betterNow_62 f8 0 x1 x2 x3 x5 σ) := by
    unfold g_X12_betterNow_62 f_X12_betterNow_62
    exact q_X12_betterNow_67 _ _ h8 _ _ p1 _ _ p2 _ _ p3 _ _ p5 _ _ li_1 _ _ hr
set_option maxHeartbeats 4000000 in
set_option maxRecDepth 100000 in
theorem q_X12_betterNow_42 (r8 : Int → Int → Int → ZS → Option (Int × ZS)) (f8 : Int32 → Int32 → Int32 → HS → Option (Int32 × HS)) (h8 : ∀ (x3 : Int32) (z3 : Int) (p3 : x3 = mJ z3) (x4 : Int32) (z4 : Int) (p4 : x4 = mJ z4) (x5 : Int32) (z5 : Int) (p5 : x5 = mJ z5) (ζ : ZS) (σ : HS), Rp ζ σ → Sm QI (r8 z3 z4 z5 ζ) (f8 x3 x4 x5 σ)) (x1 : Int32) (z1 : Int) (p1 : x1 = mJ z1) (x2 : Int32) (z2 : Int) (p2 : x2 = mJ z2) (x4 : Int32) (z4 : Int) (p4 : x4 = mJ z4) (x5 : Int32) (z5 : Int) (p5 : x5 = mJ z5) (xs0 : Int32) (zs0 : Int) (ps0 : xs0 = mJ zs0) (ζ : ZS) (σ : HS) (hr : Rp ζ σ) : Sm QI (g_X12_betterNow_42 r8 z1 z2 z4 z5 zs0 ζ) (f_X12_betterNow_42 f8 0 x1 x2 x4 x5 xs0 σ) := by
    unfold g_X12_betterNow_42 f_X12_betterNow_42
    refine sm_ieq p4 li_0 ?_ ?_
    · refine sm_bind (q_X12_aboveAt _ _ p1 _ _ p2 _ _ li_0 _ _ p5 _ _ hr) (fun q1 w1 e1 => ?_)
      refine sm_jlt e1.1 lj_0 ?_ ?_
      · exact q_X12_betterNow_67 _ _ h8 _ _ p1 _ _ p2 _ _ ps0 _ _ p5 _ _ li_0 _ _ e1.2
      · exact q_X12_betterNow_62 _ _ h8 _ _ p1 _ _ p2 _ _ ps0 _ _ p5 _ _ e1.2
    · exact q_X12_betterNow_62 _ _ h8 _ _ p1 _ _ p2 _ _ ps0 _ _ p5 _ _ hr
set_option maxHeartbeats 4000000 in
set_option maxRecDepth 100000 in
theorem q_X12_betterNow_41 (r8 : Int → Int → Int → ZS → Option (Int × ZS)) (f8 : Int32 → Int32 → Int32 → HS → Option (Int32 × HS)) (h8 : ∀ (x3 : Int32) (z3 : Int) (p3 : x3 = mJ z3) (x4 : Int32) (z4 : Int) (p4 : x4 = mJ z4) (x5 : Int32) (z5 : Int) (p5 : x5 = mJ z5) (ζ : ZS) (σ : HS), Rp ζ σ → Sm QI (r8 z3 z4 z5 ζ) (f8 x3 x4 x5 σ)) (x1 : Int32) (z1 : Int) (p1 : x1 = mJ z1) (x2 : Int32) (z2 : Int) (p2 : x2 = mJ z2) (x4 : Int32) (z4 : Int) (p4 : x4 = mJ z4) (x5 : Int32) (z5 : Int) (p5 : x5 = mJ z5) (ζ : ZS) (σ : HS) (hr : Rp ζ σ) : Sm QI (g_X12_betterNow_41 r8 z1 z2 z4 z5 ζ) (f_X12_betterNow_41 f8 0 x1 x2 x4 x5 σ) := by
    unfold g_X12_betterNow_41 f_X12_betterNow_41
    exact q_X12_betterNow_42 _ _ h8 _ _ p1 _ _ p2 _ _ p4 _ _ p5 _ _ li_0 _ _ hr
set_option maxHeartbeats 4000000 in
set_option maxRecDepth 100000 in
theorem q_X12_betterNow_8 (x1 : Int32) (z1 : Int) (p1 : x1 = mJ z1) (x2 : Int32) (z2 : Int) (p2 : x2 = mJ z2) : ∀ (n : Nat) (x3 : Int32) (z3 : Int) (p3 : x3 = mJ z3) (x4 : Int32) (z4 : Int) (p4 : x4 = mJ z4) (x5 : Int32) (z5 : Int) (p5 : x5 = mJ z5) (ζ : ZS) (σ : HS), Rp ζ σ → Sm QI (g_X12_betterNow_8 z1 z2 n z3 z4 z5 ζ) (f_X12_betterNow_8 0 x1 x2 n x3 x4 x5 σ) := by
  intro n
  induction n with
  | zero =>
    intro x3 z3 p3 x4 z4 p4 x5 z5 p5 ζ σ hr
    exact sm_none
  | succ n ih =>
    intro x3 z3 p3 x4 z4 p4 x5 z5 p5 ζ σ hr
    rw [g_X12_betterNow_8.eq_2, f_X12_betterNow_8.eq_2]
    refine sm_rk (a := 20) (pts (rp_s hr) 0 28 20 rfl) kd_20 ?_
    refine sm_ck li_0 ln_20 (fun b101 => ?_)
    refine sm_ile (rdI (a := 20) hr li_0 b101 (Nat.le_of_ble_eq_true rfl)) p5 ?_ ?_
    · refine sm_ieq p3 li_0 ?_ ?_
      · refine sm_ieq p4 li_0 ?_ ?_
        · exact q_X12_betterNow_93 _ _ li_0 _ _ hr
        · exact q_X12_betterNow_93 _ _ li_1 _ _ hr
      · exact q_X12_betterNow_93 _ _ li_2 _ _ hr
    · refine sm_ieq p3 li_0 ?_ ?_
      · exact q_X12_betterNow_41 _ _ ih _ _ p1 _ _ p2 _ _ p4 _ _ p5 _ _ hr
      · refine sm_bind (q_X12_aboveAt _ _ p1 _ _ p2 _ _ li_0 _ _ p5 _ _ hr) (fun q2 w2 e2 => ?_)
        refine sm_jlt e2.1 lj_0 ?_ ?_
        · exact q_X12_betterNow_41 _ _ ih _ _ p1 _ _ p2 _ _ p4 _ _ p5 _ _ e2.2
        · exact q_X12_betterNow_42 _ _ ih _ _ p1 _ _ p2 _ _ p4 _ _ p5 _ _ li_1 _ _ e2.2
set_option maxHeartbeats 4000000 in
set_option maxRecDepth 100000 in
theorem q_X12_betterNow (x1 : Int32) (z1 : Int) (p1 : x1 = mJ z1) (x2 : Int32) (z2 : Int) (p2 : x2 = mJ z2) (ζ : ZS) (σ : HS) (hr : Rp ζ σ) : Sm QI (g_X12_betterNow z1 z2 ζ) (f_X12_betterNow 0 x1 x2 σ) := by
    unfold g_X12_betterNow f_X12_betterNow
    exact q_X12_betterNow_8 _ _ p1 _ _ p2 FU _ _ li_1 _ _ li_0 _ _ li_0 _ _ hr
set_option maxHeartbeats 4000000 in
set_option maxRecDepth 100000 in
theorem q_X12_better_31 (xs0 : Int32) (zs0 : Int) (ps0 : xs0 = mJ zs0) (ζ : ZS) (σ : HS) (hr : Rp ζ σ) : Sm QI (g_X12_better_31 zs0 ζ) (f_X12_better_31 xs0 σ) := by
    unfold g_X12_better_31 f_X12_better_31
    exact sm_ri ps0 hr
set_option maxHeartbeats 4000000 in
set_option maxRecDepth 100000 in
theorem q_X12_better_30  (ζ : ZS) (σ : HS) (hr : Rp ζ σ) : Sm QI (g_X12_better_30 ζ) (f_X12_better_30 σ) := by
    unfold g_X12_better_30 f_X12_better_30
    exact q_X12_better_31 _ _ li_m1 _ _ hr
set_option maxHeartbeats 4000000 in
set_option maxRecDepth 100000 in
theorem q_X12_better (x1 : Int32) (z1 : Int) (p1 : x1 = mJ z1) (x2 : Int32) (z2 : Int) (p2 : x2 = mJ z2) (ζ : ZS) (σ : HS) (hr : Rp ζ σ) : Sm QI (g_X12_better z1 z2 ζ) (f_X12_better 0 x1 x2 σ) := by
    unfold g_X12_better f_X12_better
    have hr101 := rwI (a := 0) (k := 0) hr li_0
    refine sm_bind (q_X12_areTwo _ _ p1 _ _ p2 _ _ hr101) (fun q2 w2 e2 => ?_)
    refine sm_ieq e2.1 li_0 ?_ ?_
    · exact q_X12_better_30 _ _ e2.2
    · refine sm_bind (q_X12_findNow _ _ e2.2) (fun q3 w3 e3 => ?_)
      refine sm_ieq e3.1 li_0 ?_ ?_
      · exact q_X12_better_30 _ _ e3.2
      · refine sm_bind (q_X12_betterNow _ _ p1 _ _ p2 _ _ e3.2) (fun q4 w4 e4 => ?_)
        exact q_X12_better_31 _ _ e4.1 _ _ e4.2
set_option maxHeartbeats 4000000 in
set_option maxRecDepth 100000 in
theorem q_X12_holds_30  (ζ : ZS) (σ : HS) (hr : Rp ζ σ) : Sm QI (g_X12_holds_30 ζ) (f_X12_holds_30 σ) := by
    unfold g_X12_holds_30 f_X12_holds_30
    exact sm_ri li_m1 hr
set_option maxHeartbeats 4000000 in
set_option maxRecDepth 100000 in
theorem q_X12_holds_69 (xs0 : Int32) (zs0 : Int) (ps0 : xs0 = mJ zs0) (ζ : ZS) (σ : HS) (hr : Rp ζ σ) : Sm QI (g_X12_holds_69 zs0 ζ) (f_X12_holds_69 xs0 σ) := by
    unfold g_X12_holds_69 f_X12_holds_69
    exact sm_ri ps0 hr
set_option maxHeartbeats 4000000 in
set_option maxRecDepth 100000 in
theorem q_X12_holds (x1 : Int32) (z1 : Int) (p1 : x1 = mJ z1) (x2 : Int32) (z2 : Int) (p2 : x2 = mJ z2) (x3 : Int32) (z3 : Int) (p3 : x3 = mJ z3) (ζ : ZS) (σ : HS) (hr : Rp ζ σ) : Sm QI (g_X12_holds z1 z2 z3 ζ) (f_X12_holds 0 x1 x2 x3 σ) := by
    unfold g_X12_holds f_X12_holds
    have hr101 := rwI (a := 0) (k := 0) hr li_0
    refine sm_bind (q_X12_areTwo _ _ p2 _ _ p3 _ _ hr101) (fun q2 w2 e2 => ?_)
    refine sm_ieq e2.1 li_0 ?_ ?_
    · exact q_X12_holds_30 _ _ e2.2
    · refine sm_rk (a := 9) (pts (rp_s e2.2) 0 13 9 rfl) kd_9 ?_
      refine sm_ck li_0 ln_9 (fun b103 => ?_)
      refine sm_bind (q_X12_within _ _ p1 _ _ li_0 _ _ (ps (rdI (a := 9) e2.2 li_0 b103 (Nat.le_of_ble_eq_true rfl)) li_1) _ _ e2.2) (fun q4 w4 e4 => ?_)
      refine sm_ieq e4.1 li_0 ?_ ?_
      · exact q_X12_holds_30 _ _ e4.2
      · refine sm_bind (q_X12_heard _ _ e4.2) (fun q5 w5 e5 => ?_)
        refine sm_bind (q_X12_laysRows _ _ (pand e5.1 (pxor (pshl li_1 p1) li_m1)) _ _ e5.2) (fun q6 w6 e6 => ?_)
        refine sm_bind (q_X12_findCorners _ _ e6) (fun q7 w7 e7 => ?_)
        refine sm_rk (a := 20) (pts (rp_s e7) 0 28 20 rfl) kd_20 ?_
        refine sm_ck li_0 ln_20 (fun b108 => ?_)
        refine sm_ieq (rdI (a := 20) e7 li_0 b108 (Nat.le_of_ble_eq_true rfl)) li_0 ?_ ?_
        · exact q_X12_holds_69 _ _ li_m1 _ _ e7
        · refine sm_bind (q_X12_betterNow _ _ p2 _ _ p3 _ _ e7) (fun q9 w9 e9 => ?_)
          exact q_X12_holds_69 _ _ e9.1 _ _ e9.2
set_option maxHeartbeats 4000000 in
set_option maxRecDepth 100000 in
theorem q_X12_findGap_64 (r2 : Int → ZS → Option ZS) (f2 : Int32 → HS → Option HS) (h2 : ∀ (x3 : Int32) (z3 : Int) (p3 : x3 = mJ z3) (ζ : ZS) (σ : HS), Rp ζ σ → Sm QV (r2 z3 ζ) (f2 x3 σ)) (x1 : Int32) (z1 : Int) (p1 : x1 = mJ z1) (x2 : Int32) (z2 : Int) (p2 : x2 = mJ z2) (x3 : Int32) (z3 : Int) (p3 : x3 = mJ z3) (ζ : ZS) (σ : HS) (hr : Rp ζ σ) : Sm QV (g_X12_findGap_64 r2 z1 z2 z3 ζ) (f_X12_findGap_64 f2 0 x1 x2 x3 σ) := by
    unfold g_X12_findGap_64 f_X12_findGap_64
    exact h2 _ _ (pa p3 li_1) _ _ hr
set_option maxHeartbeats 4000000 in
set_option maxRecDepth 100000 in
theorem q_X12_findGap_52 (r2 : Int → ZS → Option ZS) (f2 : Int32 → HS → Option HS) (h2 : ∀ (x3 : Int32) (z3 : Int) (p3 : x3 = mJ z3) (ζ : ZS) (σ : HS), Rp ζ σ → Sm QV (r2 z3 ζ) (f2 x3 σ)) (x1 : Int32) (z1 : Int) (p1 : x1 = mJ z1) (x2 : Int32) (z2 : Int) (p2 : x2 = mJ z2) (x3 : Int32) (z3 : Int) (p3 : x3 = mJ z3) (x4 : Int64) (z4 : Int) (p4 : x4 = mL z4) (x6 : Int64) (z6 : Int) (p6 : x6 = mL z6) (ζ : ZS) (σ : HS) (hr : Rp ζ σ) : Sm QV (g_X12_findGap_52 r2 z1 z2 z3 z4 z6 ζ) (f_X12_findGap_52 f2 0 x1 x2 x3 x4 x6 σ) := by
    unfold g_X12_findGap_52 f_X12_findGap_52
    have hr101 := rwJ (a := 0) (k := 37) hr p4
    have hr102 := rwJ (a := 0) (k := 38) hr101 p6
    exact q_X12_findGap_64 _ _ h2 _ _ p1 _ _ p2 _ _ p3 _ _ hr102
set_option maxHeartbeats 4000000 in
set_option maxRecDepth 100000 in
theorem q_X12_findGap_2 (x1 : Int32) (z1 : Int) (p1 : x1 = mJ z1) (x2 : Int32) (z2 : Int) (p2 : x2 = mJ z2) : ∀ (n : Nat) (x3 : Int32) (z3 : Int) (p3 : x3 = mJ z3) (ζ : ZS) (σ : HS), Rp ζ σ → Sm QV (g_X12_findGap_2 z1 z2 n z3 ζ) (f_X12_findGap_2 0 x1 x2 n x3 σ) := by
  intro n
  induction n with
  | zero =>
    intro x3 z3 p3 ζ σ hr
    exact sm_none
  | succ n ih =>
    intro x3 z3 p3 ζ σ hr
    rw [g_X12_findGap_2.eq_2, f_X12_findGap_2.eq_2]
    refine sm_rk (a := 20) (pts (rp_s hr) 0 28 20 rfl) kd_20 ?_
    refine sm_ck li_0 ln_20 (fun b101 => ?_)
    refine sm_ile (rdI (a := 20) hr li_0 b101 (Nat.le_of_ble_eq_true rfl)) p3 ?_ ?_
    · exact sm_rv hr
    · refine sm_bind (q_X12_aboveAt _ _ p2 _ _ p1 _ _ li_0 _ _ p3 _ _ hr) (fun q2 w2 e2 => ?_)
      refine sm_bind (q_X12_sumAt _ _ li_0 _ _ p3 _ _ e2.2) (fun q3 w3 e3 => ?_)
      refine sm_ieq p3 li_0 ?_ ?_
      · exact q_X12_findGap_52 _ _ ih _ _ p1 _ _ p2 _ _ p3 _ _ e2.1 _ _ e3.1 _ _ e3.2
      · refine sm_jle (pmJ e2.1 (e3.2.2.1 0 38)) (pmJ (e3.2.2.1 0 37) e3.1) ?_ ?_
        · exact q_X12_findGap_64 _ _ ih _ _ p1 _ _ p2 _ _ p3 _ _ e3.2
        · exact q_X12_findGap_52 _ _ ih _ _ p1 _ _ p2 _ _ p3 _ _ e2.1 _ _ e3.1 _ _ e3.2
set_option maxHeartbeats 4000000 in
set_option maxRecDepth 100000 in
theorem q_X12_findGap (x1 : Int32) (z1 : Int) (p1 : x1 = mJ z1) (x2 : Int32) (z2 : Int) (p2 : x2 = mJ z2) (ζ : ZS) (σ : HS) (hr : Rp ζ σ) : Sm QV (g_X12_findGap z1 z2 ζ) (f_X12_findGap 0 x1 x2 σ) := by
    unfold g_X12_findGap f_X12_findGap
    exact q_X12_findGap_2 _ _ p1 _ _ p2 FU _ _ li_0 _ _ hr
set_option maxHeartbeats 4000000 in
set_option maxRecDepth 100000 in
theorem q_X12_gap_83 (xs0 : Int64) (zs0 : Int) (ps0 : xs0 = mL zs0) (ζ : ZS) (σ : HS) (hr : Rp ζ σ) : Sm QJ (g_X12_gap_83 zs0 ζ) (f_X12_gap_83 xs0 σ) := by
    unfold g_X12_gap_83 f_X12_gap_83
    exact sm_rj ps0 hr
set_option maxHeartbeats 4000000 in
set_option maxRecDepth 100000 in
theorem q_X12_gap_31 (x1 : Int32) (z1 : Int) (p1 : x1 = mJ z1) (x2 : Int32) (z2 : Int) (p2 : x2 = mJ z2) (x3 : Int32) (z3 : Int) (p3 : x3 = mJ z3) (xs0 : Int32) (zs0 : Int) (ps0 : xs0 = mJ zs0) (ζ : ZS) (σ : HS) (hr : Rp ζ σ) : Sm QJ (g_X12_gap_31 z1 z2 z3 zs0 ζ) (f_X12_gap_31 0 x1 x2 x3 xs0 0 σ) := by
    unfold g_X12_gap_31 f_X12_gap_31
    have hr101 := rwI (a := 0) (k := 0) hr ps0
    refine sm_ile (hr101.1 0 0) li_0 ?_ ?_
    · refine sm_bind (q_X12_findGap _ _ p1 _ _ p2 _ _ hr101) (fun q2 w2 e2 => ?_)
      refine sm_bind (q_X12_common _ _ (e2.2.1 0 37) _ _ (e2.2.1 0 38) _ _ e2) (fun q3 w3 e3 => ?_)
      refine sm_ieq p3 li_0 ?_ ?_
      · refine sm_nzJ e3.1 (fun b105 => ?_)
        exact q_X12_gap_83 _ _ (pdivJ (e3.2.2.1 0 37) e3.1 b105) _ _ e3.2
      · refine sm_nzJ e3.1 (fun b104 => ?_)
        exact q_X12_gap_83 _ _ (pdivJ (e3.2.2.1 0 38) e3.1 b104) _ _ e3.2
    · exact sm_rj lj_0 hr101
set_option maxHeartbeats 4000000 in
set_option maxRecDepth 100000 in
theorem q_X12_gap_30 (x1 : Int32) (z1 : Int) (p1 : x1 = mJ z1) (x2 : Int32) (z2 : Int) (p2 : x2 = mJ z2) (x3 : Int32) (z3 : Int) (p3 : x3 = mJ z3) (ζ : ZS) (σ : HS) (hr : Rp ζ σ) : Sm QJ (g_X12_gap_30 z1 z2 z3 ζ) (f_X12_gap_30 0 x1 x2 x3 0 σ) := by
    unfold g_X12_gap_30 f_X12_gap_30
    exact q_X12_gap_31 _ _ p1 _ _ p2 _ _ p3 _ _ li_1 _ _ hr
set_option maxHeartbeats 4000000 in
set_option maxRecDepth 100000 in
theorem q_X12_gap (x1 : Int32) (z1 : Int) (p1 : x1 = mJ z1) (x2 : Int32) (z2 : Int) (p2 : x2 = mJ z2) (x3 : Int32) (z3 : Int) (p3 : x3 = mJ z3) (ζ : ZS) (σ : HS) (hr : Rp ζ σ) : Sm QJ (g_X12_gap z1 z2 z3 ζ) (f_X12_gap 0 x1 x2 x3 σ) := by
    unfold g_X12_gap f_X12_gap
    refine sm_bind (q_X12_areTwo _ _ p1 _ _ p2 _ _ hr) (fun q1 w1 e1 => ?_)
    refine sm_ieq e1.1 li_0 ?_ ?_
    · exact q_X12_gap_30 _ _ p1 _ _ p2 _ _ p3 _ _ e1.2
    · refine sm_bind (q_X12_within _ _ p3 _ _ li_0 _ _ li_1 _ _ e1.2) (fun q2 w2 e2 => ?_)
      refine sm_ieq e2.1 li_0 ?_ ?_
      · exact q_X12_gap_30 _ _ p1 _ _ p2 _ _ p3 _ _ e2.2
      · refine sm_bind (q_X12_findNow _ _ e2.2) (fun q3 w3 e3 => ?_)
        refine sm_ieq e3.1 li_0 ?_ ?_
        · exact q_X12_gap_30 _ _ p1 _ _ p2 _ _ p3 _ _ e3.2
        · exact q_X12_gap_31 _ _ p1 _ _ p2 _ _ p3 _ _ li_0 _ _ e3.2
set_option maxHeartbeats 4000000 in
set_option maxRecDepth 100000 in
theorem q_X12_findRegret_65 (r8 : Int → Int → Int → ZS → Option ZS) (f8 : Int64 → Int64 → Int32 → HS → Option HS) (h8 : ∀ (x2 : Int64) (z2 : Int) (p2 : x2 = mL z2) (x4 : Int64) (z4 : Int) (p4 : x4 = mL z4) (x6 : Int32) (z6 : Int) (p6 : x6 = mJ z6) (ζ : ZS) (σ : HS), Rp ζ σ → Sm QV (r8 z2 z4 z6 ζ) (f8 x2 x4 x6 σ)) (x1 : Int32) (z1 : Int) (p1 : x1 = mJ z1) (x2 : Int64) (z2 : Int) (p2 : x2 = mL z2) (x4 : Int64) (z4 : Int) (p4 : x4 = mL z4) (x6 : Int32) (z6 : Int) (p6 : x6 = mJ z6) (ζ : ZS) (σ : HS) (hr : Rp ζ σ) : Sm QV (g_X12_findRegret_65 r8 z1 z2 z4 z6 ζ) (f_X12_findRegret_65 f8 0 x1 x2 x4 x6 σ) := by
    unfold g_X12_findRegret_65 f_X12_findRegret_65
    exact h8 _ _ p2 _ _ p4 _ _ (pa p6 li_1) _ _ hr
set_option maxHeartbeats 4000000 in
set_option maxRecDepth 100000 in
theorem q_X12_findRegret_8 (x1 : Int32) (z1 : Int) (p1 : x1 = mJ z1) : ∀ (n : Nat) (x2 : Int64) (z2 : Int) (p2 : x2 = mL z2) (x4 : Int64) (z4 : Int) (p4 : x4 = mL z4) (x6 : Int32) (z6 : Int) (p6 : x6 = mJ z6) (ζ : ZS) (σ : HS), Rp ζ σ → Sm QV (g_X12_findRegret_8 z1 n z2 z4 z6 ζ) (f_X12_findRegret_8 0 x1 n x2 x4 x6 σ) := by
  intro n
  induction n with
  | zero =>
    intro x2 z2 p2 x4 z4 p4 x6 z6 p6 ζ σ hr
    exact sm_none
  | succ n ih =>
    intro x2 z2 p2 x4 z4 p4 x6 z6 p6 ζ σ hr
    rw [g_X12_findRegret_8.eq_2, f_X12_findRegret_8.eq_2]
    refine sm_ile li_8 p6 ?_ ?_
    · have hr101 := rwJ (a := 0) (k := 37) hr p2
      have hr102 := rwJ (a := 0) (k := 38) hr101 p4
      exact sm_rv hr102
    · refine sm_ieq p6 p1 ?_ ?_
      · exact q_X12_findRegret_65 _ _ ih _ _ p1 _ _ p2 _ _ p4 _ _ p6 _ _ hr
      · refine sm_bind (q_X12_isIn _ _ p6 _ _ hr) (fun q3 w3 e3 => ?_)
        refine sm_ieq e3.1 li_0 ?_ ?_
        · exact q_X12_findRegret_65 _ _ ih _ _ p1 _ _ p2 _ _ p4 _ _ p6 _ _ e3.2
        · refine sm_bind (q_X12_findGap _ _ p1 _ _ p6 _ _ e3.2) (fun q4 w4 e4 => ?_)
          refine sm_jle (pmJ (e4.2.1 0 37) p4) (pmJ p2 (e4.2.1 0 38)) ?_ ?_
          · exact q_X12_findRegret_65 _ _ ih _ _ p1 _ _ p2 _ _ p4 _ _ p6 _ _ e4
          · exact q_X12_findRegret_65 _ _ ih _ _ p1 _ _ (e4.2.1 0 37) _ _ (e4.2.1 0 38) _ _ p6 _ _ e4
set_option maxHeartbeats 4000000 in
set_option maxRecDepth 100000 in
theorem q_X12_findRegret (x1 : Int32) (z1 : Int) (p1 : x1 = mJ z1) (ζ : ZS) (σ : HS) (hr : Rp ζ σ) : Sm QV (g_X12_findRegret z1 ζ) (f_X12_findRegret 0 x1 σ) := by
    unfold g_X12_findRegret f_X12_findRegret
    exact q_X12_findRegret_8 _ _ p1 FU _ _ lj_0 _ _ lj_1 _ _ li_0 _ _ hr
set_option maxHeartbeats 4000000 in
set_option maxRecDepth 100000 in
theorem q_X12_regret_29  (ζ : ZS) (σ : HS) (hr : Rp ζ σ) : Sm QJ (g_X12_regret_29 ζ) (f_X12_regret_29 σ) := by
    unfold g_X12_regret_29 f_X12_regret_29
    exact sm_rj lj_m1 hr
set_option maxHeartbeats 4000000 in
set_option maxRecDepth 100000 in
theorem q_X12_regret_69 (xs0 : Int64) (zs0 : Int) (ps0 : xs0 = mL zs0) (ζ : ZS) (σ : HS) (hr : Rp ζ σ) : Sm QJ (g_X12_regret_69 zs0 ζ) (f_X12_regret_69 xs0 σ) := by
    unfold g_X12_regret_69 f_X12_regret_69
    exact sm_rj ps0 hr
set_option maxHeartbeats 4000000 in
set_option maxRecDepth 100000 in
theorem q_X12_regret (x1 : Int32) (z1 : Int) (p1 : x1 = mJ z1) (x2 : Int32) (z2 : Int) (p2 : x2 = mJ z2) (ζ : ZS) (σ : HS) (hr : Rp ζ σ) : Sm QJ (g_X12_regret z1 z2 ζ) (f_X12_regret 0 x1 x2 σ) := by
    unfold g_X12_regret f_X12_regret
    have hr101 := rwI (a := 0) (k := 0) hr li_0
    refine sm_bind (q_X12_isThingIn _ _ p1 _ _ hr101) (fun q2 w2 e2 => ?_)
    refine sm_ieq e2.1 li_0 ?_ ?_
    · exact q_X12_regret_29 _ _ e2.2
    · refine sm_bind (q_X12_within _ _ p2 _ _ li_0 _ _ li_1 _ _ e2.2) (fun q3 w3 e3 => ?_)
      refine sm_ieq e3.1 li_0 ?_ ?_
      · exact q_X12_regret_29 _ _ e3.2
      · refine sm_bind (q_X12_findNow _ _ e3.2) (fun q4 w4 e4 => ?_)
        refine sm_ieq e4.1 li_0 ?_ ?_
        · exact q_X12_regret_29 _ _ e4.2
        · refine sm_bind (q_X12_findRegret _ _ p1 _ _ e4.2) (fun q5 w5 e5 => ?_)
          refine sm_bind (q_X12_common _ _ (e5.2.1 0 37) _ _ (e5.2.1 0 38) _ _ e5) (fun q6 w6 e6 => ?_)
          refine sm_ieq p2 li_0 ?_ ?_
          · refine sm_nzJ e6.1 (fun b108 => ?_)
            exact q_X12_regret_69 _ _ (pdivJ (e6.2.2.1 0 37) e6.1 b108) _ _ e6.2
          · refine sm_nzJ e6.1 (fun b107 => ?_)
            exact q_X12_regret_69 _ _ (pdivJ (e6.2.2.1 0 38) e6.1 b107) _ _ e6.2
