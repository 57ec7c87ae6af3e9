set_option maxHeartbeats 4000000 in
set_option maxRecDepth 100000 in
theorem q_X2_settle_91  (ζ : ZS) (σ : HS) (hr : Rp ζ σ) : Sm QV (g_X2_settle_91 ζ) (f_X2_settle_91 σ) := by
    unfold g_X2_settle_91 f_X2_settle_91
    exact sm_rv hr
set_option maxHeartbeats 4000000 in
set_option maxRecDepth 100000 in
theorem q_X2_settle_86 (x2 : Int32) (z2 : Int) (p2 : x2 = mJ z2) (ζ : ZS) (σ : HS) (hr : Rp ζ σ) : Sm QV (g_X2_settle_86 z2 ζ) (f_X2_settle_86 142 x2 σ) := by
    unfold g_X2_settle_86 f_X2_settle_86
    have hr101 := rwI (a := 142) (k := 5) hr p2
    exact q_X2_settle_91 _ _ hr101
set_option maxHeartbeats 4000000 in
set_option maxRecDepth 100000 in
theorem q_X2_settle_50 (x2 : Int32) (z2 : Int) (p2 : x2 = mJ z2) (xs0 : Int32) (zs0 : Int) (ps0 : xs0 = mJ zs0) (xs1 : Int32) (zs1 : Int) (ps1 : xs1 = mJ zs1) (ζ : ZS) (σ : HS) (hr : Rp ζ σ) : Sm QV (g_X2_settle_50 z2 zs0 zs1 ζ) (f_X2_settle_50 142 x2 xs0 xs1 σ) := by
    unfold g_X2_settle_50 f_X2_settle_50
    refine sm_ilt li_0 (ps ps1 ps0) ?_ ?_
    · exact q_X2_settle_86 _ _ p2 _ _ hr
    · refine sm_ieq (ps ps1 ps0) li_0 ?_ ?_
      · refine sm_ieq (hr.1 142 4) li_0 ?_ ?_
        · refine sm_ile (hr.1 142 5) p2 ?_ ?_
          · exact q_X2_settle_91 _ _ hr
          · exact q_X2_settle_86 _ _ p2 _ _ hr
        · refine sm_ile p2 (hr.1 142 5) ?_ ?_
          · exact q_X2_settle_91 _ _ hr
          · exact q_X2_settle_86 _ _ p2 _ _ hr
      · exact q_X2_settle_91 _ _ hr
set_option maxHeartbeats 4000000 in
set_option maxRecDepth 100000 in
theorem q_X2_settle_27 (x2 : Int32) (z2 : Int) (p2 : x2 = mJ z2) (ζ : ZS) (σ : HS) (hr : Rp ζ σ) : Sm QV (g_X2_settle_27 z2 ζ) (f_X2_settle_27 142 x2 σ) := by
    unfold g_X2_settle_27 f_X2_settle_27
    refine sm_bind (q_J6_bitCount_0f7a4 _ _ p2 _ _ hr) (fun q1 w1 e1 => ?_)
    refine sm_ieq (e1.2.1 142 5) li_m1 ?_ ?_
    · exact q_X2_settle_50 _ _ p2 _ _ li_m1 _ _ e1.1 _ _ e1.2
    · refine sm_bind (q_J6_bitCount_0f7a4 _ _ (e1.2.1 142 5) _ _ e1.2) (fun q2 w2 e2 => ?_)
      exact q_X2_settle_50 _ _ p2 _ _ e2.1 _ _ e1.1 _ _ e2.2
set_option maxHeartbeats 4000000 in
set_option maxRecDepth 100000 in
theorem q_X2_settle (x1 : Int32) (z1 : Int) (p1 : x1 = mJ z1) (x2 : Int32) (z2 : Int) (p2 : x2 = mJ z2) (ζ : ZS) (σ : HS) (hr : Rp ζ σ) : Sm QV (g_X2_settle z1 z2 ζ) (f_X2_settle 142 x1 x2 σ) := by
    unfold g_X2_settle f_X2_settle
    refine sm_ieq (hr.1 142 4) li_0 ?_ ?_
    · exact q_X2_settle_27 _ _ p2 _ _ hr
    · refine sm_rk (a := 125) (pts (rp_s hr) 142 1 125 rfl) kd_125 ?_
      refine sm_rk (a := 50) (pts (rp_s hr) 142 0 50 rfl) kd_50 ?_
      refine sm_rk (a := 72) (pts (rp_s hr) 50 3 72 rfl) kd_72 ?_
      refine sm_ck p1 ln_72 (fun b101 => ?_)
      refine sm_rk (aa17 hr p1 b101) (ak17 b101) ?_
      refine sm_bind (q_X4_surelyBest _ (ak17 b101) _ _ hr) (fun q2 w2 e2 => ?_)
      refine sm_ieq e2.1 li_0 ?_ ?_
      · exact sm_rv e2.2
      · exact q_X2_settle_27 _ _ p2 _ _ e2.2
set_option maxHeartbeats 4000000 in
set_option maxRecDepth 100000 in
theorem q_X2_hear_65 (r5 : Int → Int → ZS → Option (Int × ZS)) (f5 : Int32 → Int32 → HS → Option (Int32 × HS)) (h5 : ∀ (x3 : Int32) (z3 : Int) (p3 : x3 = mJ z3) (x4 : Int32) (z4 : Int) (p4 : x4 = mJ z4) (ζ : ZS) (σ : HS), Rp ζ σ → Sm QI (r5 z3 z4 ζ) (f5 x3 x4 σ)) (x1 : Int32) (z1 : Int) (p1 : x1 = mJ z1) (x3 : Int32) (z3 : Int) (p3 : x3 = mJ z3) (x4 : Int32) (z4 : Int) (p4 : x4 = mJ z4) (ζ : ZS) (σ : HS) (hr : Rp ζ σ) : Sm QI (g_X2_hear_65 r5 z1 z3 z4 ζ) (f_X2_hear_65 f5 142 x1 x3 x4 σ) := by
    unfold g_X2_hear_65 f_X2_hear_65
    exact h5 _ _ p3 _ _ (pa p4 li_1) _ _ hr
set_option maxHeartbeats 4000000 in
set_option maxRecDepth 100000 in
theorem q_X2_hear_5 (x1 : Int32) (z1 : Int) (p1 : x1 = mJ z1) : ∀ (n : Nat) (x3 : Int32) (z3 : Int) (p3 : x3 = mJ z3) (x4 : Int32) (z4 : Int) (p4 : x4 = mJ z4) (ζ : ZS) (σ : HS), Rp ζ σ → Sm QI (g_X2_hear_5 z1 n z3 z4 ζ) (f_X2_hear_5 142 x1 n x3 x4 σ) := by
  intro n
  induction n with
  | zero =>
    intro x3 z3 p3 x4 z4 p4 ζ σ hr
    exact sm_none
  | succ n ih =>
    intro x3 z3 p3 x4 z4 p4 ζ σ hr
    rw [g_X2_hear_5.eq_2, f_X2_hear_5.eq_2]
    refine sm_ile li_12 p4 ?_ ?_
    · exact sm_ri p3 hr
    · refine sm_ieq (pand p1 (pshl li_1 p4)) li_0 ?_ ?_
      · exact q_X2_hear_65 _ _ ih _ _ p1 _ _ p3 _ _ p4 _ _ hr
      · refine sm_ile li_13 (pa p3 li_1) ?_ ?_
        · exact q_X2_hear_65 _ _ ih _ _ p1 _ _ p3 _ _ p4 _ _ hr
        · refine sm_rk (a := 50) (pts (rp_s hr) 142 0 50 rfl) kd_50 ?_
          refine sm_rk (a := 72) (pts (rp_s hr) 50 3 72 rfl) kd_72 ?_
          refine sm_ck (pa p3 li_1) ln_72 (fun b101 => ?_)
          refine sm_rk (aa17 hr (pa p3 li_1) b101) (ak17 b101) ?_
          refine sm_rk (a := 50) (pts (rp_s hr) 142 0 50 rfl) kd_50 ?_
          refine sm_rk (a := 72) (pts (rp_s hr) 50 3 72 rfl) kd_72 ?_
          refine sm_ck p3 ln_72 (fun b102 => ?_)
          refine sm_rk (aa17 hr p3 b102) (ak17 b102) ?_
          refine sm_rk (a := 50) (pts (rp_s hr) 142 0 50 rfl) kd_50 ?_
          refine sm_rk (a := 51) (pts (rp_s hr) 50 0 51 rfl) kd_51 ?_
          refine sm_ck p4 ln_51 (fun b103 => ?_)
          refine sm_rk (aa18 hr kd_51 ln_51 p4 b103) (ak18 kd_51 ln_51 b103) ?_
          refine sm_bind (q_X1_becomeCut _ (ak17 b101) _ (ak17 b102) _ (ak18 kd_51 ln_51 b103) _ _ hr) (fun q4 w4 e4 => ?_)
          exact q_X2_hear_65 _ _ ih _ _ p1 _ _ (pa p3 li_1) _ _ p4 _ _ e4
set_option maxHeartbeats 4000000 in
set_option maxRecDepth 100000 in
theorem q_X2_hear (x1 : Int32) (z1 : Int) (p1 : x1 = mJ z1) (x2 : Int32) (z2 : Int) (p2 : x2 = mJ z2) (ζ : ZS) (σ : HS) (hr : Rp ζ σ) : Sm QI (g_X2_hear z1 z2 ζ) (f_X2_hear 142 x1 x2 σ) := by
    unfold g_X2_hear f_X2_hear
    exact q_X2_hear_5 _ _ p1 FU _ _ p2 _ _ li_0 _ _ hr
set_option maxHeartbeats 4000000 in
set_option maxRecDepth 100000 in
theorem q_X2_ask_136 (rc : Int → Int → Int → ZS → Option (Int × ZS)) (frc : Nat → Int32 → Int32 → Int32 → HS → Option (Int32 × HS)) (hrc : ∀ (x1 : Int32) (z1 : Int) (p1 : x1 = mJ z1) (x2 : Int32) (z2 : Int) (p2 : x2 = mJ z2) (x3 : Int32) (z3 : Int) (p3 : x3 = mJ z3) (ζ : ZS) (σ : HS), Rp ζ σ → Sm QI (rc z1 z2 z3 ζ) (frc 142 x1 x2 x3 σ)) (x7 : Int32) (z7 : Int) (p7 : x7 = mJ z7) (ζ : ZS) (σ : HS) (hr : Rp ζ σ) : Sm QI (g_X2_ask_136 rc z7 ζ) (f_X2_ask_136 frc x7 σ) := by
    unfold g_X2_ask_136 f_X2_ask_136
    exact sm_zr p7 hr
set_option maxHeartbeats 4000000 in
set_option maxRecDepth 100000 in
theorem q_X2_ask_113 (rc : Int → Int → Int → ZS → Option (Int × ZS)) (frc : Nat → Int32 → Int32 → Int32 → HS → Option (Int32 × HS)) (hrc : ∀ (x1 : Int32) (z1 : Int) (p1 : x1 = mJ z1) (x2 : Int32) (z2 : Int) (p2 : x2 = mJ z2) (x3 : Int32) (z3 : Int) (p3 : x3 = mJ z3) (ζ : ZS) (σ : HS), Rp ζ σ → Sm QI (rc z1 z2 z3 ζ) (frc 142 x1 x2 x3 σ)) (x1 : Int32) (z1 : Int) (p1 : x1 = mJ z1) (x2 : Int32) (z2 : Int) (p2 : x2 = mJ z2) (x3 : Int32) (z3 : Int) (p3 : x3 = mJ z3) (x6 : Int32) (z6 : Int) (p6 : x6 = mJ z6) (xs0 : Int32) (zs0 : Int) (ps0 : xs0 = mJ zs0) (ζ : ZS) (σ : HS) (hr : Rp ζ σ) : Sm QI (g_X2_ask_113 rc z1 z2 z3 z6 zs0 ζ) (f_X2_ask_113 frc 142 x1 x2 x3 x6 xs0 σ) := by
    unfold g_X2_ask_113 f_X2_ask_113
    refine sm_ieq ps0 li_0 ?_ ?_
    · refine sm_ieq p6 p2 ?_ ?_
      · exact q_X2_ask_136 _ _ hrc _ _ ps0 _ _ hr
      · refine sm_bind (hrc _ _ (ps p1 li_1) _ _ p2 _ _ p3 _ _ hr) (fun q1 w1 e1 => ?_)
        exact q_X2_ask_136 _ _ hrc _ _ ps0 _ _ e1.2
    · exact q_X2_ask_136 _ _ hrc _ _ ps0 _ _ hr
set_option maxHeartbeats 4000000 in
set_option maxRecDepth 100000 in
theorem q_X2_ask_112 (rc : Int → Int → Int → ZS → Option (Int × ZS)) (frc : Nat → Int32 → Int32 → Int32 → HS → Option (Int32 × HS)) (hrc : ∀ (x1 : Int32) (z1 : Int) (p1 : x1 = mJ z1) (x2 : Int32) (z2 : Int) (p2 : x2 = mJ z2) (x3 : Int32) (z3 : Int) (p3 : x3 = mJ z3) (ζ : ZS) (σ : HS), Rp ζ σ → Sm QI (rc z1 z2 z3 ζ) (frc 142 x1 x2 x3 σ)) (x1 : Int32) (z1 : Int) (p1 : x1 = mJ z1) (x2 : Int32) (z2 : Int) (p2 : x2 = mJ z2) (x3 : Int32) (z3 : Int) (p3 : x3 = mJ z3) (x6 : Int32) (z6 : Int) (p6 : x6 = mJ z6) (ζ : ZS) (σ : HS) (hr : Rp ζ σ) : Sm QI (g_X2_ask_112 rc z1 z2 z3 z6 ζ) (f_X2_ask_112 frc 142 x1 x2 x3 x6 σ) := by
    unfold g_X2_ask_112 f_X2_ask_112
    exact q_X2_ask_113 _ _ hrc _ _ p1 _ _ p2 _ _ p3 _ _ p6 _ _ li_0 _ _ hr
set_option maxHeartbeats 4000000 in
set_option maxRecDepth 100000 in
theorem q_X2_ask_41 (rc : Int → Int → Int → ZS → Option (Int × ZS)) (frc : Nat → Int32 → Int32 → Int32 → HS → Option (Int32 × HS)) (hrc : ∀ (x1 : Int32) (z1 : Int) (p1 : x1 = mJ z1) (x2 : Int32) (z2 : Int) (p2 : x2 = mJ z2) (x3 : Int32) (z3 : Int) (p3 : x3 = mJ z3) (ζ : ZS) (σ : HS), Rp ζ σ → Sm QI (rc z1 z2 z3 ζ) (frc 142 x1 x2 x3 σ)) (x1 : Int32) (z1 : Int) (p1 : x1 = mJ z1) (x2 : Int32) (z2 : Int) (p2 : x2 = mJ z2) (x3 : Int32) (z3 : Int) (p3 : x3 = mJ z3) (ζ : ZS) (σ : HS) (hr : Rp ζ σ) : Sm QI (g_X2_ask_41 rc z1 z2 z3 ζ) (f_X2_ask_41 frc 142 x1 x2 x3 σ) := by
    unfold g_X2_ask_41 f_X2_ask_41
    refine sm_ile li_0 p1 ?_ ?_
    · refine sm_rk (a := 143) (pts (rp_s hr) 142 2 143 rfl) kd_143 ?_
      refine sm_ck p1 ln_143 (fun b101 => ?_)
      refine sm_bind (q_X2_hear _ _ (rdI (a := 143) hr p1 b101 (Nat.le_of_ble_eq_true rfl)) _ _ p2 _ _ hr) (fun q2 w2 e2 => ?_)
      refine sm_rk (a := 50) (pts (rp_s e2.2) 142 0 50 rfl) kd_50 ?_
      refine sm_rk (a := 72) (pts (rp_s e2.2) 50 3 72 rfl) kd_72 ?_
      refine sm_ck e2.1 ln_72 (fun b103 => ?_)
      refine sm_rk (aa17 e2.2 e2.1 b103) (ak17 b103) ?_
      refine sm_ile (e2.2.1 (73 + 4 * Int.toNat q2.1) 5) li_0 ?_ ?_
      · exact q_X2_ask_112 _ _ hrc _ _ p1 _ _ p2 _ _ p3 _ _ e2.1 _ _ e2.2
      · refine sm_bind (hrc _ _ (ps p1 li_1) _ _ e2.1 _ _ (por p3 (pand (hr.1 142 3) (pshl li_1 p1))) _ _ e2.2) (fun q4 w4 e4 => ?_)
        refine sm_ieq e4.1 li_0 ?_ ?_
        · exact q_X2_ask_112 _ _ hrc _ _ p1 _ _ p2 _ _ p3 _ _ e2.1 _ _ e4.2
        · exact q_X2_ask_113 _ _ hrc _ _ p1 _ _ p2 _ _ p3 _ _ e2.1 _ _ li_1 _ _ e4.2
    · refine sm_bind (q_X2_settle _ _ p2 _ _ p3 _ _ hr) (fun q5 w5 e5 => ?_)
      exact sm_ri li_1 e5
set_option maxHeartbeats 4000000 in
set_option maxRecDepth 100000 in
theorem q_X2_ask_0 (rc : Int → Int → Int → ZS → Option (Int × ZS)) (frc : Nat → Int32 → Int32 → Int32 → HS → Option (Int32 × HS)) (hrc : ∀ (x1 : Int32) (z1 : Int) (p1 : x1 = mJ z1) (x2 : Int32) (z2 : Int) (p2 : x2 = mJ z2) (x3 : Int32) (z3 : Int) (p3 : x3 = mJ z3) (ζ : ZS) (σ : HS), Rp ζ σ → Sm QI (rc z1 z2 z3 ζ) (frc 142 x1 x2 x3 σ)) (x1 : Int32) (z1 : Int) (p1 : x1 = mJ z1) (x2 : Int32) (z2 : Int) (p2 : x2 = mJ z2) (x3 : Int32) (z3 : Int) (p3 : x3 = mJ z3) (ζ : ZS) (σ : HS) (hr : Rp ζ σ) : Sm QI (g_X2_ask_0 rc z1 z2 z3 ζ) (f_X2_ask_0 frc 142 x1 x2 x3 σ) := by
    unfold g_X2_ask_0 f_X2_ask_0
    refine sm_ieq (hr.1 142 5) li_m1 ?_ ?_
    · exact q_X2_ask_41 _ _ hrc _ _ p1 _ _ p2 _ _ p3 _ _ hr
    · refine sm_bind (q_J6_bitCount_0f7a4 _ _ (por p3 (pand (hr.1 142 3) (ps (pshl li_1 (pa p1 li_1)) li_1))) _ _ hr) (fun q1 w1 e1 => ?_)
      refine sm_bind (q_J6_bitCount_0f7a4 _ _ (e1.2.1 142 5) _ _ e1.2) (fun q2 w2 e2 => ?_)
      refine sm_ile e2.1 e1.1 ?_ ?_
      · exact q_X2_ask_41 _ _ hrc _ _ p1 _ _ p2 _ _ p3 _ _ e2.2
      · exact sm_ri li_0 e2.2
theorem q_X2_ask : ∀ (d : Nat) (x1 : Int32) (z1 : Int) (p1 : x1 = mJ z1) (x2 : Int32) (z2 : Int) (p2 : x2 = mJ z2) (x3 : Int32) (z3 : Int) (p3 : x3 = mJ z3) (ζ : ZS) (σ : HS), Rp ζ σ → Sm QI (g_X2_ask d z1 z2 z3 ζ) (f_X2_ask d 142 x1 x2 x3 σ) := by
  intro d
  induction d with
  | zero => intro x1 z1 p1 x2 z2 p2 x3 z3 p3 ζ σ hr; exact sm_none
  | succ d ih =>
    intro x1 z1 p1 x2 z2 p2 x3 z3 p3 ζ σ hr
    exact q_X2_ask_0 _ _ ih x1 z1 p1 x2 z2 p2 x3 z3 p3 _ _ hr
set_option maxHeartbeats 4000000 in
set_option maxRecDepth 100000 in
theorem q_X2_mostThatAgree (c1 : Nat) (k1 : kd c1 = 0) (ζ : ZS) (σ : HS) (hr : Rp ζ σ) : Sm QI (g_X2_mostThatAgree c1 ζ) (f_X2_mostThatAgree 142 c1 σ) := by
    unfold g_X2_mostThatAgree f_X2_mostThatAgree
    refine sm_bind (q_X2_prepare _ k1 _ _ li_255 _ _ li_0 _ _ hr) (fun q1 w1 e1 => ?_)
    refine sm_bind (q_X2_ask DEP _ _ li_7 _ _ li_0 _ _ li_0 _ _ e1) (fun q2 w2 e2 => ?_)
    exact sm_ri (e2.2.1 142 5) e2.2
set_option maxHeartbeats 4000000 in
set_option maxRecDepth 100000 in
theorem q_X2_fewestThatYield_36 (xs0 : Int32) (zs0 : Int) (ps0 : xs0 = mJ zs0) (ζ : ZS) (σ : HS) (hr : Rp ζ σ) : Sm QI (g_X2_fewestThatYield_36 zs0 ζ) (f_X2_fewestThatYield_36 xs0 σ) := by
    unfold g_X2_fewestThatYield_36 f_X2_fewestThatYield_36
    exact sm_ri ps0 hr
set_option maxHeartbeats 4000000 in
set_option maxRecDepth 100000 in
theorem q_X2_fewestThatYield (c1 : Nat) (k1 : kd c1 = 0) (x2 : Int32) (z2 : Int) (p2 : x2 = mJ z2) (ζ : ZS) (σ : HS) (hr : Rp ζ σ) : Sm QI (g_X2_fewestThatYield c1 z2 ζ) (f_X2_fewestThatYield 142 c1 x2 σ) := by
    unfold g_X2_fewestThatYield f_X2_fewestThatYield
    refine sm_bind (q_X2_prepare _ k1 _ _ p2 _ _ li_1 _ _ hr) (fun q1 w1 e1 => ?_)
    refine sm_bind (q_X2_ask DEP _ _ li_7 _ _ li_0 _ _ li_0 _ _ e1) (fun q2 w2 e2 => ?_)
    refine sm_ieq (e2.2.1 142 5) li_m1 ?_ ?_
    · exact q_X2_fewestThatYield_36 _ _ li_m1 _ _ e2.2
    · exact q_X2_fewestThatYield_36 _ _ (pand p2 (pxor (e2.2.1 142 5) li_m1)) _ _ e2.2
set_option maxHeartbeats 4000000 in
set_option maxRecDepth 100000 in
theorem q_X3_become (x1 : Int64) (z1 : Int) (p1 : x1 = mL z1) (x3 : Int64) (z3 : Int) (p3 : x3 = mL z3) (ζ : ZS) (σ : HS) (hr : Rp ζ σ) : Sm QV (g_X3_become z1 z3 ζ) (f_X3_become 145 x1 x3 σ) := by
    unfold g_X3_become f_X3_become
    have hr101 := rwJ (a := 145) (k := 0) hr p1
    have hr102 := rwJ (a := 145) (k := 1) hr101 p3
    exact sm_rv hr102
set_option maxHeartbeats 4000000 in
set_option maxRecDepth 100000 in
theorem q_X3_isUnder_21 (xs0 : Int32) (zs0 : Int) (ps0 : xs0 = mJ zs0) (ζ : ZS) (σ : HS) (hr : Rp ζ σ) : Sm QI (g_X3_isUnder_21 zs0 ζ) (f_X3_isUnder_21 xs0 σ) := by
    unfold g_X3_isUnder_21 f_X3_isUnder_21
    exact sm_zr ps0 hr
set_option maxHeartbeats 4000000 in
set_option maxRecDepth 100000 in
theorem q_X3_isUnder (x1 : Int64) (z1 : Int) (p1 : x1 = mL z1) (x3 : Int64) (z3 : Int) (p3 : x3 = mL z3) (ζ : ZS) (σ : HS) (hr : Rp ζ σ) : Sm QI (g_X3_isUnder z1 z3 ζ) (f_X3_isUnder 145 x1 x3 σ) := by
    unfold g_X3_isUnder f_X3_isUnder
    refine sm_jle (pmJ p1 (hr.2.1 145 1)) (pmJ (hr.2.1 145 0) p3) ?_ ?_
    · exact q_X3_isUnder_21 _ _ li_0 _ _ hr
    · exact q_X3_isUnder_21 _ _ li_1 _ _ hr
set_option maxHeartbeats 4000000 in
set_option maxRecDepth 100000 in
theorem q_X3_part_15 (xs0 : Int64) (zs0 : Int) (ps0 : xs0 = mL zs0) (ζ : ZS) (σ : HS) (hr : Rp ζ σ) : Sm QJ (g_X3_part_15 zs0 ζ) (f_X3_part_15 xs0 σ) := by
    unfold g_X3_part_15 f_X3_part_15
    exact sm_rj ps0 hr
set_option maxHeartbeats 4000000 in
set_option maxRecDepth 100000 in
theorem q_X3_part (x1 : Int32) (z1 : Int) (p1 : x1 = mJ z1) (ζ : ZS) (σ : HS) (hr : Rp ζ σ) : Sm QJ (g_X3_part z1 ζ) (f_X3_part 145 x1 σ) := by
    unfold g_X3_part f_X3_part
    refine sm_ieq p1 li_0 ?_ ?_
    · exact q_X3_part_15 _ _ (hr.2.1 145 0) _ _ hr
    · exact q_X3_part_15 _ _ (hr.2.1 145 1) _ _ hr
set_option maxHeartbeats 4000000 in
set_option maxRecDepth 100000 in
theorem q_X3_reduce_38  (ζ : ZS) (σ : HS) (hr : Rp ζ σ) : Sm QV (g_X3_reduce_38 ζ) (f_X3_reduce_38 σ) := by
    unfold g_X3_reduce_38 f_X3_reduce_38
    exact sm_rv hr
set_option maxHeartbeats 4000000 in
set_option maxRecDepth 100000 in
theorem q_X3_reduce  (ζ : ZS) (σ : HS) (hr : Rp ζ σ) : Sm QV (g_X3_reduce ζ) (f_X3_reduce 145 σ) := by
    unfold g_X3_reduce f_X3_reduce
    refine sm_bind (q_X3_commonDivisor _ _ (hr.2.1 145 0) _ _ (hr.2.1 145 1) _ _ hr) (fun q1 w1 e1 => ?_)
    refine sm_jle e1.1 lj_1 ?_ ?_
    · exact q_X3_reduce_38 _ _ e1.2
    · refine sm_nzJ e1.1 (fun b102 => ?_)
      have hr103 := rwJ (a := 145) (k := 0) e1.2 (pdivJ (e1.2.2.1 145 0) e1.1 b102)
      refine sm_nzJ e1.1 (fun b104 => ?_)
      have hr105 := rwJ (a := 145) (k := 1) hr103 (pdivJ (hr103.2.1 145 1) e1.1 b104)
      exact q_X3_reduce_38 _ _ hr105
set_option maxHeartbeats 4000000 in
set_option maxRecDepth 100000 in
theorem q_X9_isIn_26 (xs0 : Int32) (zs0 : Int) (ps0 : xs0 = mJ zs0) (ζ : ZS) (σ : HS) (hr : Rp ζ σ) : Sm QI (g_X9_isIn_26 zs0 ζ) (f_X9_isIn_26 xs0 σ) := by
    unfold g_X9_isIn_26 f_X9_isIn_26
    exact sm_zr ps0 hr
set_option maxHeartbeats 4000000 in
set_option maxRecDepth 100000 in
theorem q_X9_isIn_25  (ζ : ZS) (σ : HS) (hr : Rp ζ σ) : Sm QI (g_X9_isIn_25 ζ) (f_X9_isIn_25 σ) := by
    unfold g_X9_isIn_25 f_X9_isIn_25
    exact q_X9_isIn_26 _ _ li_0 _ _ hr
set_option maxHeartbeats 4000000 in
set_option maxRecDepth 100000 in
theorem q_X9_isIn (x1 : Int32) (z1 : Int) (p1 : x1 = mJ z1) (ζ : ZS) (σ : HS) (hr : Rp ζ σ) : Sm QI (g_X9_isIn z1 ζ) (f_X9_isIn 30 x1 σ) := by
    unfold g_X9_isIn f_X9_isIn
    refine sm_ilt p1 li_0 ?_ ?_
    · exact q_X9_isIn_25 _ _ hr
    · refine sm_ile li_8 p1 ?_ ?_
      · exact q_X9_isIn_25 _ _ hr
      · refine sm_ieq (pand (hr.1 30 4) (pshl li_1 p1)) li_0 ?_ ?_
        · exact q_X9_isIn_25 _ _ hr
        · exact q_X9_isIn_26 _ _ li_1 _ _ hr
set_option maxHeartbeats 4000000 in
set_option maxRecDepth 100000 in
theorem q_X4_compare_34  (ζ : ZS) (σ : HS) (hr : Rp ζ σ) : Sm QI (g_X4_compare_34 ζ) (f_X4_compare_34 σ) := by
    unfold g_X4_compare_34 f_X4_compare_34
    exact sm_ri li_m1 hr
set_option maxHeartbeats 4000000 in
set_option maxRecDepth 100000 in
theorem q_X4_compare_148 (xs0 : Int32) (zs0 : Int) (ps0 : xs0 = mJ zs0) (ζ : ZS) (σ : HS) (hr : Rp ζ σ) : Sm QI (g_X4_compare_148 zs0 ζ) (f_X4_compare_148 xs0 σ) := by
    unfold g_X4_compare_148 f_X4_compare_148
    exact sm_ri ps0 hr
set_option maxHeartbeats 4000000 in
set_option maxRecDepth 100000 in
theorem q_X4_compare_121 (r58 : Int → Int → Int → ZS → Option (Int × ZS)) (f58 : Int32 → Int32 → Int32 → HS → Option (Int32 × HS)) (h58 : ∀ (x4 : Int32) (z4 : Int) (p4 : x4 = mJ z4) (x5 : Int32) (z5 : Int) (p5 : x5 = mJ z5) (x6 : Int32) (z6 : Int) (p6 : x6 = mJ z6) (ζ : ZS) (σ : HS), Rp ζ σ → Sm QI (r58 z4 z5 z6 ζ) (f58 x4 x5 x6 σ)) (c1 : Nat) (k1 : kd c1 = 1) (x4 : Int32) (z4 : Int) (p4 : x4 = mJ z4) (x6 : Int32) (z6 : Int) (p6 : x6 = mJ z6) (xs0 : Int32) (zs0 : Int) (ps0 : xs0 = mJ zs0) (ζ : ZS) (σ : HS) (hr : Rp ζ σ) : Sm QI (g_X4_compare_121 r58 c1 z4 z6 zs0 ζ) (f_X4_compare_121 f58 125 c1 x4 x6 xs0 σ) := by
    unfold g_X4_compare_121 f_X4_compare_121
    exact h58 _ _ p4 _ _ ps0 _ _ (pa p6 li_1) _ _ hr
set_option maxHeartbeats 4000000 in
set_option maxRecDepth 100000 in
theorem q_X4_compare_116 (r58 : Int → Int → Int → ZS → Option (Int × ZS)) (f58 : Int32 → Int32 → Int32 → HS → Option (Int32 × HS)) (h58 : ∀ (x4 : Int32) (z4 : Int) (p4 : x4 = mJ z4) (x5 : Int32) (z5 : Int) (p5 : x5 = mJ z5) (x6 : Int32) (z6 : Int) (p6 : x6 = mJ z6) (ζ : ZS) (σ : HS), Rp ζ σ → Sm QI (r58 z4 z5 z6 ζ) (f58 x4 x5 x6 σ)) (c1 : Nat) (k1 : kd c1 = 1) (x4 : Int32) (z4 : Int) (p4 : x4 = mJ z4) (x6 : Int32) (z6 : Int) (p6 : x6 = mJ z6) (ζ : ZS) (σ : HS) (hr : Rp ζ σ) : Sm QI (g_X4_compare_116 r58 c1 z4 z6 ζ) (f_X4_compare_116 f58 125 c1 x4 x6 σ) := by
    unfold g_X4_compare_116 f_X4_compare_116
    exact q_X4_compare_121 _ _ h58 _ k1 _ _ p4 _ _ p6 _ _ li_1 _ _ hr
set_option maxHeartbeats 4000000 in
set_option maxRecDepth 100000 in
theorem q_X4_compare_104 (r58 : Int → Int → Int → ZS → Option (Int × ZS)) (f58 : Int32 → Int32 → Int32 → HS → Option (Int32 × HS)) (h58 : ∀ (x4 : Int32) (z4 : Int) (p4 : x4 = mJ z4) (x5 : Int32) (z5 : Int) (p5 : x5 = mJ z5) (x6 : Int32) (z6 : Int) (p6 : x6 = mJ z6) (ζ : ZS) (σ : HS), Rp ζ σ → Sm QI (r58 z4 z5 z6 ζ) (f58 x4 x5 x6 σ)) (c1 : Nat) (k1 : kd c1 = 1) (x5 : Int32) (z5 : Int) (p5 : x5 = mJ z5) (x6 : Int32) (z6 : Int) (p6 : x6 = mJ z6) (x7 : Int32) (z7 : Int) (p7 : x7 = mJ z7) (xs0 : Int32) (zs0 : Int) (ps0 : xs0 = mJ zs0) (ζ : ZS) (σ : HS) (hr : Rp ζ σ) : Sm QI (g_X4_compare_104 r58 c1 z5 z6 z7 zs0 ζ) (f_X4_compare_104 f58 125 c1 x5 x6 x7 xs0 σ) := by
    unfold g_X4_compare_104 f_X4_compare_104
    refine sm_ieq p5 li_0 ?_ ?_
    · refine sm_ieq p7 li_0 ?_ ?_
      · exact q_X4_compare_121 _ _ h58 _ k1 _ _ ps0 _ _ p6 _ _ li_0 _ _ hr
      · exact q_X4_compare_116 _ _ h58 _ k1 _ _ ps0 _ _ p6 _ _ hr
    · exact q_X4_compare_116 _ _ h58 _ k1 _ _ ps0 _ _ p6 _ _ hr
set_option maxHeartbeats 4000000 in
set_option maxRecDepth 100000 in
theorem q_X4_compare_103 (r58 : Int → Int → Int → ZS → Option (Int × ZS)) (f58 : Int32 → Int32 → Int32 → HS → Option (Int32 × HS)) (h58 : ∀ (x4 : Int32) (z4 : Int) (p4 : x4 = mJ z4) (x5 : Int32) (z5 : Int) (p5 : x5 = mJ z5) (x6 : Int32) (z6 : Int) (p6 : x6 = mJ z6) (ζ : ZS) (σ : HS), Rp ζ σ → Sm QI (r58 z4 z5 z6 ζ) (f58 x4 x5 x6 σ)) (c1 : Nat) (k1 : kd c1 = 1) (x5 : Int32) (z5 : Int) (p5 : x5 = mJ z5) (x6 : Int32) (z6 : Int) (p6 : x6 = mJ z6) (x7 : Int32) (z7 : Int) (p7 : x7 = mJ z7) (ζ : ZS) (σ : HS) (hr : Rp ζ σ) : Sm QI (g_X4_compare_103 r58 c1 z5 z6 z7 ζ) (f_X4_compare_103 f58 125 c1 x5 x6 x7 σ) := by
    unfold g_X4_compare_103 f_X4_compare_103
    exact q_X4_compare_104 _ _ h58 _ k1 _ _ p5 _ _ p6 _ _ p7 _ _ li_0 _ _ hr
set_option maxHeartbeats 4000000 in
set_option maxRecDepth 100000 in
theorem q_X4_compare_87 (r58 : Int → Int → Int → ZS → Option (Int × ZS)) (f58 : Int32 → Int32 → Int32 → HS → Option (Int32 × HS)) (h58 : ∀ (x4 : Int32) (z4 : Int) (p4 : x4 = mJ z4) (x5 : Int32) (z5 : Int) (p5 : x5 = mJ z5) (x6 : Int32) (z6 : Int) (p6 : x6 = mJ z6) (ζ : ZS) (σ : HS), Rp ζ σ → Sm QI (r58 z4 z5 z6 ζ) (f58 x4 x5 x6 σ)) (c1 : Nat) (k1 : kd c1 = 1) (x4 : Int32) (z4 : Int) (p4 : x4 = mJ z4) (x5 : Int32) (z5 : Int) (p5 : x5 = mJ z5) (x6 : Int32) (z6 : Int) (p6 : x6 = mJ z6) (xs0 : Int32) (zs0 : Int) (ps0 : xs0 = mJ zs0) (ζ : ZS) (σ : HS) (hr : Rp ζ σ) : Sm QI (g_X4_compare_87 r58 c1 z4 z5 z6 zs0 ζ) (f_X4_compare_87 f58 125 c1 x4 x5 x6 xs0 σ) := by
    unfold g_X4_compare_87 f_X4_compare_87
    refine sm_ieq p4 li_0 ?_ ?_
    · exact q_X4_compare_103 _ _ h58 _ k1 _ _ p5 _ _ p6 _ _ ps0 _ _ hr
    · refine sm_ieq ps0 li_0 ?_ ?_
      · exact q_X4_compare_103 _ _ h58 _ k1 _ _ p5 _ _ p6 _ _ ps0 _ _ hr
      · exact q_X4_compare_104 _ _ h58 _ k1 _ _ p5 _ _ p6 _ _ ps0 _ _ li_1 _ _ hr
set_option maxHeartbeats 4000000 in
set_option maxRecDepth 100000 in
theorem q_X4_compare_58 (c1 : Nat) (k1 : kd c1 = 1) : ∀ (n : Nat) (x4 : Int32) (z4 : Int) (p4 : x4 = mJ z4) (x5 : Int32) (z5 : Int) (p5 : x5 = mJ z5) (x6 : Int32) (z6 : Int) (p6 : x6 = mJ z6) (ζ : ZS) (σ : HS), Rp ζ σ → Sm QI (g_X4_compare_58 c1 n z4 z5 z6 ζ) (f_X4_compare_58 125 c1 n x4 x5 x6 σ) := by
  intro n
  induction n with
  | zero =>
    intro x4 z4 p4 x5 z5 p5 x6 z6 p6 ζ σ hr
    exact sm_none
  | succ n ih =>
    intro x4 z4 p4 x5 z5 p5 x6 z6 p6 ζ σ hr
    rw [g_X4_compare_58.eq_2, f_X4_compare_58.eq_2]
    refine sm_ile (hr.1 c1 5) p6 ?_ ?_
    · refine sm_ieq p4 li_0 ?_ ?_
      · refine sm_ieq p5 li_0 ?_ ?_
        · exact q_X4_compare_148 _ _ li_0 _ _ hr
        · exact q_X4_compare_148 _ _ li_1 _ _ hr
      · exact q_X4_compare_148 _ _ li_2 _ _ hr
    · refine sm_rk (a := 135) (pts (rp_s hr) 125 3 135 rfl) kd_135 ?_
      refine sm_bind (q_X1_product _ k1 _ _ p6 _ kd_135 _ _ hr) (fun q1 w1 e1 => ?_)
      refine sm_jlt e1.1 lj_0 ?_ ?_
      · exact q_X4_compare_87 _ _ ih _ k1 _ _ p4 _ _ p5 _ _ p6 _ _ li_0 _ _ e1.2
      · exact q_X4_compare_87 _ _ ih _ k1 _ _ p4 _ _ p5 _ _ p6 _ _ li_1 _ _ e1.2
set_option maxHeartbeats 4000000 in
set_option maxRecDepth 100000 in
theorem q_X4_compare (c1 : Nat) (k1 : kd c1 = 1) (x2 : Int32) (z2 : Int) (p2 : x2 = mJ z2) (x3 : Int32) (z3 : Int) (p3 : x3 = mJ z3) (ζ : ZS) (σ : HS) (hr : Rp ζ σ) : Sm QI (g_X4_compare c1 z2 z3 ζ) (f_X4_compare 125 c1 x2 x3 σ) := by
    unfold g_X4_compare f_X4_compare
    refine sm_rk (a := 30) (pts (rp_s hr) 125 0 30 rfl) kd_30 ?_
    refine sm_bind (q_X9_isIn _ _ p2 _ _ hr) (fun q1 w1 e1 => ?_)
    refine sm_ieq e1.1 li_0 ?_ ?_
    · exact q_X4_compare_34 _ _ e1.2
    · refine sm_rk (a := 30) (pts (rp_s e1.2) 125 0 30 rfl) kd_30 ?_
      refine sm_bind (q_X9_isIn _ _ p3 _ _ e1.2) (fun q2 w2 e2 => ?_)
      refine sm_ieq e2.1 li_0 ?_ ?_
      · exact q_X4_compare_34 _ _ e2.2
      · refine sm_ieq p2 p3 ?_ ?_
        · exact q_X4_compare_34 _ _ e2.2
        · refine sm_ieq (e2.2.1 c1 5) li_0 ?_ ?_
          · exact q_X4_compare_34 _ _ e2.2
          · refine sm_rk (a := 30) (pts (rp_s e2.2) 125 0 30 rfl) kd_30 ?_
            refine sm_rk (a := 135) (pts (rp_s e2.2) 125 3 135 rfl) kd_135 ?_
            refine sm_bind (q_X9_fillLead _ _ p2 _ _ p3 _ kd_135 _ _ e2.2) (fun q3 w3 e3 => ?_)
            exact q_X4_compare_58 _ k1 FU _ _ li_1 _ _ li_0 _ _ li_0 _ _ e3
set_option maxHeartbeats 4000000 in
set_option maxRecDepth 100000 in
theorem q_X4_raise_53  (ζ : ZS) (σ : HS) (hr : Rp ζ σ) : Sm QV (g_X4_raise_53 ζ) (f_X4_raise_53 σ) := by
    unfold g_X4_raise_53 f_X4_raise_53
    exact sm_rv hr
set_option maxHeartbeats 4000000 in
set_option maxRecDepth 100000 in
theorem q_X4_raise_45 (x4 : Int64) (z4 : Int) (p4 : x4 = mL z4) (x6 : Int64) (z6 : Int) (p6 : x6 = mL z6) (ζ : ZS) (σ : HS) (hr : Rp ζ σ) : Sm QV (g_X4_raise_45 z4 z6 ζ) (f_X4_raise_45 145 x4 x6 σ) := by
    unfold g_X4_raise_45 f_X4_raise_45
    refine sm_bind (q_X3_become _ _ p4 _ _ p6 _ _ hr) (fun q1 w1 e1 => ?_)
    exact q_X4_raise_53 _ _ e1
set_option maxHeartbeats 4000000 in
set_option maxRecDepth 100000 in
theorem q_X4_raise (x2 : Int32) (z2 : Int) (p2 : x2 = mJ z2) (x3 : Int32) (z3 : Int) (p3 : x3 = mJ z3) (ζ : ZS) (σ : HS) (hr : Rp ζ σ) : Sm QV (g_X4_raise z2 z3 ζ) (f_X4_raise 125 145 x2 x3 σ) := by
    unfold g_X4_raise f_X4_raise
    refine sm_rk (a := 50) (pts (rp_s hr) 125 1 50 rfl) kd_50 ?_
    refine sm_rk (a := 68) (pts (rp_s hr) 50 2 68 rfl) kd_68 ?_
    refine sm_rk (a := 135) (pts (rp_s hr) 125 3 135 rfl) kd_135 ?_
    refine sm_bind (q_X1_product _ kd_68 _ _ p2 _ kd_135 _ _ hr) (fun q1 w1 e1 => ?_)
    refine sm_rk (a := 50) (pts (rp_s e1.2) 125 1 50 rfl) kd_50 ?_
    refine sm_rk (a := 68) (pts (rp_s e1.2) 50 2 68 rfl) kd_68 ?_
    refine sm_bind (q_X1_sum _ kd_68 _ _ p2 _ _ e1.2) (fun q2 w2 e2 => ?_)
    refine sm_ieq p3 li_0 ?_ ?_
    · refine sm_bind (q_X3_isUnder _ _ e1.1 _ _ e2.1 _ _ e2.2) (fun q3 w3 e3 => ?_)
      refine sm_ieq e3.1 li_0 ?_ ?_
      · exact q_X4_raise_53 _ _ e3.2
      · exact q_X4_raise_45 _ _ e1.1 _ _ e2.1 _ _ e3.2
    · exact q_X4_raise_45 _ _ e1.1 _ _ e2.1 _ _ e2.2
set_option maxHeartbeats 4000000 in
set_option maxRecDepth 100000 in
theorem q_X4_fillGap_45 (r16 : Int → ZS → Option ZS) (f16 : Int32 → HS → Option HS) (h16 : ∀ (x4 : Int32) (z4 : Int) (p4 : x4 = mJ z4) (ζ : ZS) (σ : HS), Rp ζ σ → Sm QV (r16 z4 ζ) (f16 x4 σ)) (x4 : Int32) (z4 : Int) (p4 : x4 = mJ z4) (xs0 : Int32) (zs0 : Int) (ps0 : xs0 = mJ zs0) (xs1 : Int32) (zs1 : Int) (ps1 : xs1 = mJ zs1) (ζ : ZS) (σ : HS) (hr : Rp ζ σ) : Sm QV (g_X4_fillGap_45 r16 z4 zs0 zs1 ζ) (f_X4_fillGap_45 f16 125 145 x4 xs0 xs1 145 125 σ) := by
    unfold g_X4_fillGap_45 f_X4_fillGap_45
    refine sm_bind (q_X4_raise _ _ ps1 _ _ ps0 _ _ hr) (fun q1 w1 e1 => ?_)
    exact h16 _ _ (pa p4 li_1) _ _ e1
set_option maxHeartbeats 4000000 in
set_option maxRecDepth 100000 in
theorem q_X4_fillGap_16  : ∀ (n : Nat) (x4 : Int32) (z4 : Int) (p4 : x4 = mJ z4) (ζ : ZS) (σ : HS), Rp ζ σ → Sm QV (g_X4_fillGap_16 n z4 ζ) (f_X4_fillGap_16 125 145 n x4 σ) := by
  intro n
  induction n with
  | zero =>
    intro x4 z4 p4 ζ σ hr
    exact sm_none
  | succ n ih =>
    intro x4 z4 p4 ζ σ hr
    rw [g_X4_fillGap_16.eq_2, f_X4_fillGap_16.eq_2]
    refine sm_rk (a := 50) (pts (rp_s hr) 125 1 50 rfl) kd_50 ?_
    refine sm_rk (a := 68) (pts (rp_s hr) 50 2 68 rfl) kd_68 ?_
    refine sm_ile (hr.1 68 5) p4 ?_ ?_
    · exact sm_rv hr
    · refine sm_ieq p4 li_0 ?_ ?_
      · exact q_X4_fillGap_45 _ _ ih _ _ p4 _ _ li_1 _ _ p4 _ _ hr
      · exact q_X4_fillGap_45 _ _ ih _ _ p4 _ _ li_0 _ _ p4 _ _ hr
set_option maxHeartbeats 4000000 in
set_option maxRecDepth 100000 in
theorem q_X4_fillGap (x1 : Int32) (z1 : Int) (p1 : x1 = mJ z1) (x2 : Int32) (z2 : Int) (p2 : x2 = mJ z2) (ζ : ZS) (σ : HS) (hr : Rp ζ σ) : Sm QV (g_X4_fillGap z1 z2 ζ) (f_X4_fillGap 125 x1 x2 145 σ) := by
    unfold g_X4_fillGap f_X4_fillGap
    refine sm_rk (a := 30) (pts (rp_s hr) 125 0 30 rfl) kd_30 ?_
    refine sm_rk (a := 135) (pts (rp_s hr) 125 3 135 rfl) kd_135 ?_
    refine sm_bind (q_X9_fillLead _ _ p2 _ _ p1 _ kd_135 _ _ hr) (fun q1 w1 e1 => ?_)
    exact q_X4_fillGap_16 FU _ _ li_0 _ _ e1
set_option maxHeartbeats 4000000 in
set_option maxRecDepth 100000 in
theorem q_X4_fillRegret_70 (r8 : Int → ZS → Option ZS) (f8 : Int32 → HS → Option HS) (h8 : ∀ (x3 : Int32) (z3 : Int) (p3 : x3 = mJ z3) (ζ : ZS) (σ : HS), Rp ζ σ → Sm QV (r8 z3 ζ) (f8 x3 σ)) (x1 : Int32) (z1 : Int) (p1 : x1 = mJ z1) (x3 : Int32) (z3 : Int) (p3 : x3 = mJ z3) (ζ : ZS) (σ : HS) (hr : Rp ζ σ) : Sm QV (g_X4_fillRegret_70 r8 z1 z3 ζ) (f_X4_fillRegret_70 f8 125 x1 145 x3 σ) := by
    unfold g_X4_fillRegret_70 f_X4_fillRegret_70
    exact h8 _ _ (pa p3 li_1) _ _ hr
set_option maxHeartbeats 4000000 in
set_option maxRecDepth 100000 in
theorem q_X4_fillRegret_41 (x1 : Int32) (z1 : Int) (p1 : x1 = mJ z1) (x3 : Int32) (z3 : Int) (p3 : x3 = mJ z3) (r8 : Int → ZS → Option ZS) (f8 : Int32 → HS → Option HS) (h8 : ∀ (x3 : Int32) (z3 : Int) (p3 : x3 = mJ z3) (ζ : ZS) (σ : HS), Rp ζ σ → Sm QV (r8 z3 ζ) (f8 x3 σ)) : ∀ (n : Nat) (x4 : Int32) (z4 : Int) (p4 : x4 = mJ z4) (ζ : ZS) (σ : HS), Rp ζ σ → Sm QV (g_X4_fillRegret_41 z1 z3 r8 n z4 ζ) (f_X4_fillRegret_41 125 x1 145 x3 f8 n x4 σ) := by
  intro n
  induction n with
  | zero =>
    intro x4 z4 p4 ζ σ hr
    exact sm_none
  | succ n ih =>
    intro x4 z4 p4 ζ σ hr
    rw [g_X4_fillRegret_41.eq_2, f_X4_fillRegret_41.eq_2]
    refine sm_rk (a := 50) (pts (rp_s hr) 125 1 50 rfl) kd_50 ?_
    refine sm_rk (a := 68) (pts (rp_s hr) 50 2 68 rfl) kd_68 ?_
    refine sm_ile (hr.1 68 5) p4 ?_ ?_
    · exact q_X4_fillRegret_70 _ _ h8 _ _ p1 _ _ p3 _ _ hr
    · refine sm_bind (q_X4_raise _ _ p4 _ _ li_0 _ _ hr) (fun q1 w1 e1 => ?_)
      exact ih _ _ (pa p4 li_1) _ _ e1
set_option maxHeartbeats 4000000 in
set_option maxRecDepth 100000 in
theorem q_X4_fillRegret_8 (x1 : Int32) (z1 : Int) (p1 : x1 = mJ z1) : ∀ (n : Nat) (x3 : Int32) (z3 : Int) (p3 : x3 = mJ z3) (ζ : ZS) (σ : HS), Rp ζ σ → Sm QV (g_X4_fillRegret_8 z1 n z3 ζ) (f_X4_fillRegret_8 125 x1 145 n x3 σ) := by
  intro n
  induction n with
  | zero =>
    intro x3 z3 p3 ζ σ hr
    exact sm_none
  | succ n ih =>
    intro x3 z3 p3 ζ σ hr
    rw [g_X4_fillRegret_8.eq_2, f_X4_fillRegret_8.eq_2]
    refine sm_ile li_8 p3 ?_ ?_
    · exact sm_rv hr
    · refine sm_rk (a := 30) (pts (rp_s hr) 125 0 30 rfl) kd_30 ?_
      refine sm_bind (q_X9_isIn _ _ p3 _ _ hr) (fun q1 w1 e1 => ?_)
      refine sm_ieq e1.1 li_0 ?_ ?_
      · exact q_X4_fillRegret_70 _ _ ih _ _ p1 _ _ p3 _ _ e1.2
      · refine sm_rk (a := 30) (pts (rp_s e1.2) 125 0 30 rfl) kd_30 ?_
        refine sm_rk (a := 135) (pts (rp_s e1.2) 125 3 135 rfl) kd_135 ?_
        refine sm_bind (q_X9_fillLead _ _ p3 _ _ p1 _ kd_135 _ _ e1.2) (fun q2 w2 e2 => ?_)
        exact q_X4_fillRegret_41 _ _ p1 _ _ p3 _ _ ih FU _ _ li_0 _ _ e2
set_option maxHeartbeats 4000000 in
set_option maxRecDepth 100000 in
theorem q_X4_fillRegret (x1 : Int32) (z1 : Int) (p1 : x1 = mJ z1) (ζ : ZS) (σ : HS) (hr : Rp ζ σ) : Sm QV (g_X4_fillRegret z1 ζ) (f_X4_fillRegret 125 x1 145 σ) := by
    unfold g_X4_fillRegret f_X4_fillRegret
    refine sm_bind (q_X3_become _ _ lj_0 _ _ lj_1 _ _ hr) (fun q1 w1 e1 => ?_)
    exact q_X4_fillRegret_8 _ _ p1 FU _ _ li_0 _ _ e1
set_option maxHeartbeats 4000000 in
set_option maxRecDepth 100000 in
theorem q_X4_leastRegret_65 (r10 : Int → Int → Int → Int → ZS → Option (Int × ZS)) (f10 : Int32 → Int64 → Int64 → Int32 → HS → Option (Int32 × HS)) (h10 : ∀ (x2 : Int32) (z2 : Int) (p2 : x2 = mJ z2) (x3 : Int64) (z3 : Int) (p3 : x3 = mL z3) (x5 : Int64) (z5 : Int) (p5 : x5 = mL z5) (x7 : Int32) (z7 : Int) (p7 : x7 = mJ z7) (ζ : ZS) (σ : HS), Rp ζ σ → Sm QI (r10 z2 z3 z5 z7 ζ) (f10 x2 x3 x5 x7 σ)) (x2 : Int32) (z2 : Int) (p2 : x2 = mJ z2) (x3 : Int64) (z3 : Int) (p3 : x3 = mL z3) (x5 : Int64) (z5 : Int) (p5 : x5 = mL z5) (x7 : Int32) (z7 : Int) (p7 : x7 = mJ z7) (ζ : ZS) (σ : HS) (hr : Rp ζ σ) : Sm QI (g_X4_leastRegret_65 r10 z2 z3 z5 z7 ζ) (f_X4_leastRegret_65 f10 125 145 x2 x3 x5 x7 σ) := by
    unfold g_X4_leastRegret_65 f_X4_leastRegret_65
    exact h10 _ _ p2 _ _ p3 _ _ p5 _ _ (pa p7 li_1) _ _ hr
set_option maxHeartbeats 4000000 in
set_option maxRecDepth 100000 in
theorem q_X4_leastRegret_51 (r10 : Int → Int → Int → Int → ZS → Option (Int × ZS)) (f10 : Int32 → Int64 → Int64 → Int32 → HS → Option (Int32 × HS)) (h10 : ∀ (x2 : Int32) (z2 : Int) (p2 : x2 = mJ z2) (x3 : Int64) (z3 : Int) (p3 : x3 = mL z3) (x5 : Int64) (z5 : Int) (p5 : x5 = mL z5) (x7 : Int32) (z7 : Int) (p7 : x7 = mJ z7) (ζ : ZS) (σ : HS), Rp ζ σ → Sm QI (r10 z2 z3 z5 z7 ζ) (f10 x2 x3 x5 x7 σ)) (x7 : Int32) (z7 : Int) (p7 : x7 = mJ z7) (ζ : ZS) (σ : HS) (hr : Rp ζ σ) : Sm QI (g_X4_leastRegret_51 r10 z7 ζ) (f_X4_leastRegret_51 f10 125 145 x7 σ) := by
    unfold g_X4_leastRegret_51 f_X4_leastRegret_51
    exact q_X4_leastRegret_65 _ _ h10 _ _ p7 _ _ (hr.2.1 145 0) _ _ (hr.2.1 145 1) _ _ p7 _ _ hr
set_option maxHeartbeats 4000000 in
set_option maxRecDepth 100000 in
theorem q_X4_leastRegret_10  : ∀ (n : Nat) (x2 : Int32) (z2 : Int) (p2 : x2 = mJ z2) (x3 : Int64) (z3 : Int) (p3 : x3 = mL z3) (x5 : Int64) (z5 : Int) (p5 : x5 = mL z5) (x7 : Int32) (z7 : Int) (p7 : x7 = mJ z7) (ζ : ZS) (σ : HS), Rp ζ σ → Sm QI (g_X4_leastRegret_10 n z2 z3 z5 z7 ζ) (f_X4_leastRegret_10 125 145 n x2 x3 x5 x7 σ) := by
  intro n
  induction n with
  | zero =>
    intro x2 z2 p2 x3 z3 p3 x5 z5 p5 x7 z7 p7 ζ σ hr
    exact sm_none
  | succ n ih =>
    intro x2 z2 p2 x3 z3 p3 x5 z5 p5 x7 z7 p7 ζ σ hr
    rw [g_X4_leastRegret_10.eq_2, f_X4_leastRegret_10.eq_2]
    refine sm_ile li_8 p7 ?_ ?_
    · exact sm_ri p2 hr
    · refine sm_rk (a := 30) (pts (rp_s hr) 125 0 30 rfl) kd_30 ?_
      refine sm_bind (q_X9_isIn _ _ p7 _ _ hr) (fun q1 w1 e1 => ?_)
      refine sm_ieq e1.1 li_0 ?_ ?_
      · exact q_X4_leastRegret_65 _ _ ih _ _ p2 _ _ p3 _ _ p5 _ _ p7 _ _ e1.2
      · refine sm_bind (q_X4_fillRegret _ _ p7 _ _ e1.2) (fun q2 w2 e2 => ?_)
        refine sm_ieq p2 li_m1 ?_ ?_
        · exact q_X4_leastRegret_51 _ _ ih _ _ p7 _ _ e2
        · refine sm_bind (q_X3_isUnder _ _ p3 _ _ p5 _ _ e2) (fun q3 w3 e3 => ?_)
          refine sm_ieq e3.1 li_0 ?_ ?_
          · exact q_X4_leastRegret_65 _ _ ih _ _ p2 _ _ p3 _ _ p5 _ _ p7 _ _ e3.2
          · exact q_X4_leastRegret_51 _ _ ih _ _ p7 _ _ e3.2
set_option maxHeartbeats 4000000 in
set_option maxRecDepth 100000 in
theorem q_X4_leastRegret  (ζ : ZS) (σ : HS) (hr : Rp ζ σ) : Sm QI (g_X4_leastRegret ζ) (f_X4_leastRegret 125 145 σ) := by
    unfold g_X4_leastRegret f_X4_leastRegret
    exact q_X4_leastRegret_10 FU _ _ li_m1 _ _ lj_0 _ _ lj_1 _ _ li_0 _ _ hr
set_option maxHeartbeats 4000000 in
set_option maxRecDepth 100000 in
theorem q_X4_whereBest_111 (r29 : Int → Int → ZS → Option (Nat × ZS)) (f29 : Int32 → Int32 → HS → Option (Nat × HS)) (h29 : ∀ (x5 : Int32) (z5 : Int) (p5 : x5 = mJ z5) (x6 : Int32) (z6 : Int) (p6 : x6 = mJ z6) (ζ : ZS) (σ : HS), Rp ζ σ → Sm QR (r29 z5 z6 ζ) (f29 x5 x6 σ)) (x1 : Int32) (z1 : Int) (p1 : x1 = mJ z1) (x2 : Int32) (z2 : Int) (p2 : x2 = mJ z2) (x3 : Int32) (z3 : Int) (p3 : x3 = mJ z3) (x5 : Int32) (z5 : Int) (p5 : x5 = mJ z5) (x6 : Int32) (z6 : Int) (p6 : x6 = mJ z6) (ζ : ZS) (σ : HS) (hr : Rp ζ σ) : Sm QR (g_X4_whereBest_111 r29 z1 z2 z3 z5 z6 ζ) (f_X4_whereBest_111 f29 125 x1 x2 x3 72 x5 x6 σ) := by
    unfold g_X4_whereBest_111 f_X4_whereBest_111
    exact h29 _ _ p5 _ _ (pa p6 li_1) _ _ hr
set_option maxHeartbeats 4000000 in
set_option maxRecDepth 100000 in
theorem q_X4_whereBest_29 (x1 : Int32) (z1 : Int) (p1 : x1 = mJ z1) (x2 : Int32) (z2 : Int) (p2 : x2 = mJ z2) (x3 : Int32) (z3 : Int) (p3 : x3 = mJ z3) : ∀ (n : Nat) (x5 : Int32) (z5 : Int) (p5 : x5 = mJ z5) (x6 : Int32) (z6 : Int) (p6 : x6 = mJ z6) (ζ : ZS) (σ : HS), Rp ζ σ → Sm QR (g_X4_whereBest_29 z1 z2 z3 n z5 z6 ζ) (f_X4_whereBest_29 125 x1 x2 x3 72 n x5 x6 σ) := by
  intro n
  induction n with
  | zero =>
    intro x5 z5 p5 x6 z6 p6 ζ σ hr
    exact sm_none
  | succ n ih =>
    intro x5 z5 p5 x6 z6 p6 ζ σ hr
    rw [g_X4_whereBest_29.eq_2, f_X4_whereBest_29.eq_2]
    refine sm_ile li_8 p6 ?_ ?_
    · refine sm_ck p5 ln_72 (fun b101 => ?_)
      refine sm_rk (aa17 hr p5 b101) (ak17 b101) ?_
      exact sm_rr hr
    · refine sm_ieq p6 p1 ?_ ?_
      · exact q_X4_whereBest_111 _ _ ih _ _ p1 _ _ p2 _ _ p3 _ _ p5 _ _ p6 _ _ hr
      · refine sm_rk (a := 30) (pts (rp_s hr) 125 0 30 rfl) kd_30 ?_
        refine sm_bind (q_X9_isIn _ _ p6 _ _ hr) (fun q2 w2 e2 => ?_)
        refine sm_ieq e2.1 li_0 ?_ ?_
        · exact q_X4_whereBest_111 _ _ ih _ _ p1 _ _ p2 _ _ p3 _ _ p5 _ _ p6 _ _ e2.2
        · refine sm_ck p5 ln_72 (fun b103 => ?_)
          refine sm_rk (aa17 e2.2 p5 b103) (ak17 b103) ?_
          refine sm_ile (e2.2.1 (73 + 4 * Int.toNat z5) 5) li_0 ?_ ?_
          · exact q_X4_whereBest_111 _ _ ih _ _ p1 _ _ p2 _ _ p3 _ _ p5 _ _ p6 _ _ e2.2
          · refine sm_rk (a := 30) (pts (rp_s e2.2) 125 0 30 rfl) kd_30 ?_
            refine sm_rk (a := 135) (pts (rp_s e2.2) 125 3 135 rfl) kd_135 ?_
            refine sm_bind (q_X9_fillLead _ _ p1 _ _ p6 _ kd_135 _ _ e2.2) (fun q4 w4 e4 => ?_)
            refine sm_rk (a := 135) (pts (rp_s e4) 125 3 135 rfl) kd_135 ?_
            refine sm_ck p2 ln_135 (fun b105 => ?_)
            refine sm_ck p2 ln_135 (fun b106 => ?_)
            have hr107 := raI (a := 135) e4 p2 b106 (Nat.le_of_ble_eq_true rfl) (pa (rdI (a := 135) e4 p2 b105 (Nat.le_of_ble_eq_true rfl)) p3)
            refine sm_ck (pa p5 li_1) ln_72 (fun b108 => ?_)
            refine sm_rk (aa17 hr107 (pa p5 li_1) b108) (ak17 b108) ?_
            refine sm_ck p5 ln_72 (fun b109 => ?_)
            refine sm_rk (aa17 hr107 p5 b109) (ak17 b109) ?_
            refine sm_rk (a := 135) (pts (rp_s hr107) 125 3 135 rfl) kd_135 ?_
            refine sm_bind (q_X1_becomeCut _ (ak17 b108) _ (ak17 b109) _ kd_135 _ _ hr107) (fun q10 w10 e10 => ?_)
            exact q_X4_whereBest_111 _ _ ih _ _ p1 _ _ p2 _ _ p3 _ _ (pa p5 li_1) _ _ p6 _ _ e10
set_option maxHeartbeats 4000000 in
set_option maxRecDepth 100000 in
theorem q_X4_whereBest (x1 : Int32) (z1 : Int) (p1 : x1 = mJ z1) (x2 : Int32) (z2 : Int) (p2 : x2 = mJ z2) (x3 : Int32) (z3 : Int) (p3 : x3 = mJ z3) (ζ : ZS) (σ : HS) (hr : Rp ζ σ) : Sm QR (g_X4_whereBest z1 z2 z3 ζ) (f_X4_whereBest 125 x1 x2 x3 σ) := by
    unfold g_X4_whereBest f_X4_whereBest
    refine sm_rk (a := 50) (pts (rp_s hr) 125 1 50 rfl) kd_50 ?_
    refine sm_rk (a := 72) (pts (rp_s hr) 50 3 72 rfl) kd_72 ?_
    refine sm_ck li_0 ln_72 (fun b101 => ?_)
    refine sm_rk (aa17 hr li_0 b101) (ak17 b101) ?_
    refine sm_rk (a := 50) (pts (rp_s hr) 125 1 50 rfl) kd_50 ?_
    refine sm_rk (a := 68) (pts (rp_s hr) 50 2 68 rfl) kd_68 ?_
    refine sm_bind (q_X1_become _ (ak17 b101) _ kd_68 _ _ hr) (fun q2 w2 e2 => ?_)
    exact q_X4_whereBest_29 _ _ p1 _ _ p2 _ _ p3 FU _ _ li_0 _ _ li_0 _ _ e2
set_option maxHeartbeats 4000000 in
set_option maxRecDepth 100000 in
theorem q_X4_mayBeBest__18 (xs0 : Int32) (zs0 : Int) (ps0 : xs0 = mJ zs0) (ζ : ZS) (σ : HS) (hr : Rp ζ σ) : Sm QI (g_X4_mayBeBest__18 zs0 ζ) (f_X4_mayBeBest__18 xs0 σ) := by
    unfold g_X4_mayBeBest__18 f_X4_mayBeBest__18
    exact sm_zr ps0 hr
set_option maxHeartbeats 4000000 in
set_option maxRecDepth 100000 in
theorem q_X4_mayBeBest_ (x1 : Int32) (z1 : Int) (p1 : x1 = mJ z1) (ζ : ZS) (σ : HS) (hr : Rp ζ σ) : Sm QI (g_X4_mayBeBest_ z1 ζ) (f_X4_mayBeBest_ 125 x1 σ) := by
    unfold g_X4_mayBeBest_ f_X4_mayBeBest_
    refine sm_bind (q_X4_whereBest _ _ p1 _ _ li_0 _ _ li_0 _ _ hr) (fun q1 w1 e1 => ?_)
    refine sm_rkd (congrArg some e1.1) (fun c102 kc102 => ?_)
    refine sm_ile (e1.2.1 c102 5) li_0 ?_ ?_
    · exact q_X4_mayBeBest__18 _ _ li_0 _ _ e1.2
    · exact q_X4_mayBeBest__18 _ _ li_1 _ _ e1.2
set_option maxHeartbeats 4000000 in
set_option maxRecDepth 100000 in
theorem q_X4_mayBeBest_80 (r41 : Int → Int → ZS → Option (Int × ZS)) (f41 : Int32 → Int32 → HS → Option (Int32 × HS)) (h41 : ∀ (x1 : Int32) (z1 : Int) (p1 : x1 = mJ z1) (x2 : Int32) (z2 : Int) (p2 : x2 = mJ z2) (ζ : ZS) (σ : HS), Rp ζ σ → Sm QI (r41 z1 z2 ζ) (f41 x1 x2 σ)) (x1 : Int32) (z1 : Int) (p1 : x1 = mJ z1) (x2 : Int32) (z2 : Int) (p2 : x2 = mJ z2) (ζ : ZS) (σ : HS) (hr : Rp ζ σ) : Sm QI (g_X4_mayBeBest_80 r41 z1 z2 ζ) (f_X4_mayBeBest_80 f41 125 x1 x2 σ) := by
    unfold g_X4_mayBeBest_80 f_X4_mayBeBest_80
    exact h41 _ _ p1 _ _ (pa p2 li_1) _ _ hr
set_option maxHeartbeats 4000000 in
set_option maxRecDepth 100000 in
theorem q_X4_mayBeBest_41  : ∀ (n : Nat) (x1 : Int32) (z1 : Int) (p1 : x1 = mJ z1) (x2 : Int32) (z2 : Int) (p2 : x2 = mJ z2) (ζ : ZS) (σ : HS), Rp ζ σ → Sm QI (g_X4_mayBeBest_41 n z1 z2 ζ) (f_X4_mayBeBest_41 125 n x1 x2 σ) := by
  intro n
  induction n with
  | zero =>
    intro x1 z1 p1 x2 z2 p2 ζ σ hr
    exact sm_none
  | succ n ih =>
    intro x1 z1 p1 x2 z2 p2 ζ σ hr
    rw [g_X4_mayBeBest_41.eq_2, f_X4_mayBeBest_41.eq_2]
    refine sm_ile li_8 p2 ?_ ?_
    · exact sm_ri p1 hr
    · refine sm_rk (a := 30) (pts (rp_s hr) 125 0 30 rfl) kd_30 ?_
      refine sm_bind (q_X9_isIn _ _ p2 _ _ hr) (fun q1 w1 e1 => ?_)
      refine sm_ieq e1.1 li_0 ?_ ?_
      · exact q_X4_mayBeBest_80 _ _ ih _ _ p1 _ _ p2 _ _ e1.2
      · refine sm_ieq (pand p1 (pshl li_1 p2)) li_0 ?_ ?_
        · refine sm_bind (q_X4_mayBeBest_ _ _ p2 _ _ e1.2) (fun q2 w2 e2 => ?_)
          refine sm_ieq e2.1 li_0 ?_ ?_
          · exact q_X4_mayBeBest_80 _ _ ih _ _ p1 _ _ p2 _ _ e2.2
          · exact q_X4_mayBeBest_80 _ _ ih _ _ (por p1 (pshl li_1 p2)) _ _ p2 _ _ e2.2
        · exact q_X4_mayBeBest_80 _ _ ih _ _ p1 _ _ p2 _ _ e1.2
set_option maxHeartbeats 4000000 in
set_option maxRecDepth 100000 in
theorem q_X4_mayBeBest_4  : ∀ (n : Nat) (x1 : Int32) (z1 : Int) (p1 : x1 = mJ z1) (x2 : Int32) (z2 : Int) (p2 : x2 = mJ z2) (ζ : ZS) (σ : HS), Rp ζ σ → Sm QI (g_X4_mayBeBest_4 n z1 z2 ζ) (f_X4_mayBeBest_4 125 n x1 x2 σ) := by
  intro n
  induction n with
  | zero =>
    intro x1 z1 p1 x2 z2 p2 ζ σ hr
    exact sm_none
  | succ n ih =>
    intro x1 z1 p1 x2 z2 p2 ζ σ hr
    rw [g_X4_mayBeBest_4.eq_2, f_X4_mayBeBest_4.eq_2]
    refine sm_rk (a := 50) (pts (rp_s hr) 125 1 50 rfl) kd_50 ?_
    refine sm_rk (a := 68) (pts (rp_s hr) 50 2 68 rfl) kd_68 ?_
    refine sm_ile (hr.1 68 5) p2 ?_ ?_
    · exact q_X4_mayBeBest_41 FU _ _ p1 _ _ li_0 _ _ hr
    · refine sm_rk (a := 50) (pts (rp_s hr) 125 1 50 rfl) kd_50 ?_
      refine sm_rk (a := 68) (pts (rp_s hr) 50 2 68 rfl) kd_68 ?_
      refine sm_bind (q_X4_bestByCorner _ kd_68 _ _ p2 _ _ hr) (fun q1 w1 e1 => ?_)
      exact ih _ _ (por p1 e1.1) _ _ (pa p2 li_1) _ _ e1.2
set_option maxHeartbeats 4000000 in
set_option maxRecDepth 100000 in
theorem q_X4_mayBeBest  (ζ : ZS) (σ : HS) (hr : Rp ζ σ) : Sm QI (g_X4_mayBeBest ζ) (f_X4_mayBeBest 125 σ) := by
    unfold g_X4_mayBeBest f_X4_mayBeBest
    exact q_X4_mayBeBest_4 FU _ _ li_0 _ _ li_0 _ _ hr
set_option maxHeartbeats 4000000 in
set_option maxRecDepth 100000 in
theorem q_X4_leadsOf_2 (x1 : Int32) (z1 : Int) (p1 : x1 = mJ z1) : ∀ (n : Nat) (x2 : Int32) (z2 : Int) (p2 : x2 = mJ z2) (ζ : ZS) (σ : HS), Rp ζ σ → Sm QR (g_X4_leadsOf_2 z1 n z2 ζ) (f_X4_leadsOf_2 125 x1 n x2 σ) := by
  intro n
  induction n with
  | zero =>
    intro x2 z2 p2 ζ σ hr
    exact sm_none
  | succ n ih =>
    intro x2 z2 p2 ζ σ hr
    rw [g_X4_leadsOf_2.eq_2, f_X4_leadsOf_2.eq_2]
    refine sm_ile li_8 p2 ?_ ?_
    · refine sm_rk (a := 126) (pts (rp_s hr) 125 2 126 rfl) kd_126 ?_
      exact sm_rr hr
    · refine sm_rk (a := 30) (pts (rp_s hr) 125 0 30 rfl) kd_30 ?_
      refine sm_rk (a := 126) (pts (rp_s hr) 125 2 126 rfl) kd_126 ?_
      refine sm_ck p2 ln_126 (fun b101 => ?_)
      refine sm_rk (aa18 hr kd_126 ln_126 p2 b101) (ak18 kd_126 ln_126 b101) ?_
      refine sm_bind (q_X9_fillLead _ _ p1 _ _ p2 _ (ak18 kd_126 ln_126 b101) _ _ hr) (fun q2 w2 e2 => ?_)
      exact ih _ _ (pa p2 li_1) _ _ e2
set_option maxHeartbeats 4000000 in
set_option maxRecDepth 100000 in
theorem q_X4_leadsOf (x1 : Int32) (z1 : Int) (p1 : x1 = mJ z1) (ζ : ZS) (σ : HS) (hr : Rp ζ σ) : Sm QR (g_X4_leadsOf z1 ζ) (f_X4_leadsOf 125 x1 σ) := by
    unfold g_X4_leadsOf f_X4_leadsOf
    exact q_X4_leadsOf_2 _ _ p1 FU _ _ li_0 _ _ hr
set_option maxHeartbeats 4000000 in
set_option maxRecDepth 100000 in
theorem q_X4_markBehind_47 (r2 : Int → ZS → Option ZS) (f2 : Int32 → HS → Option HS) (h2 : ∀ (x2 : Int32) (z2 : Int) (p2 : x2 = mJ z2) (ζ : ZS) (σ : HS), Rp ζ σ → Sm QV (r2 z2 ζ) (f2 x2 σ)) (r10 : Int → ZS → Option ZS) (f10 : Int32 → HS → Option HS) (h10 : ∀ (x3 : Int32) (z3 : Int) (p3 : x3 = mJ z3) (ζ : ZS) (σ : HS), Rp ζ σ → Sm QV (r10 z3 ζ) (f10 x3 σ)) (x1 : Int32) (z1 : Int) (p1 : x1 = mJ z1) (x2 : Int32) (z2 : Int) (p2 : x2 = mJ z2) (x3 : Int32) (z3 : Int) (p3 : x3 = mJ z3) (ζ : ZS) (σ : HS) (hr : Rp ζ σ) : Sm QV (g_X4_markBehind_47 r2 r10 z1 z2 z3 ζ) (f_X4_markBehind_47 f2 f10 125 x1 x2 x3 σ) := by
    unfold g_X4_markBehind_47 f_X4_markBehind_47
    exact h10 _ _ (pa p3 li_1) _ _ hr
set_option maxHeartbeats 4000000 in
set_option maxRecDepth 100000 in
theorem q_X4_markBehind_10 (x1 : Int32) (z1 : Int) (p1 : x1 = mJ z1) (x2 : Int32) (z2 : Int) (p2 : x2 = mJ z2) (r2 : Int → ZS → Option ZS) (f2 : Int32 → HS → Option HS) (h2 : ∀ (x2 : Int32) (z2 : Int) (p2 : x2 = mJ z2) (ζ : ZS) (σ : HS), Rp ζ σ → Sm QV (r2 z2 ζ) (f2 x2 σ)) : ∀ (n : Nat) (x3 : Int32) (z3 : Int) (p3 : x3 = mJ z3) (ζ : ZS) (σ : HS), Rp ζ σ → Sm QV (g_X4_markBehind_10 z1 z2 r2 n z3 ζ) (f_X4_markBehind_10 125 x1 x2 f2 n x3 σ) := by
  intro n
  induction n with
  | zero =>
    intro x3 z3 p3 ζ σ hr
    exact sm_none
  | succ n ih =>
    intro x3 z3 p3 ζ σ hr
    rw [g_X4_markBehind_10.eq_2, f_X4_markBehind_10.eq_2]
    refine sm_ile li_8 p3 ?_ ?_
    · exact h2 _ _ (pa p2 li_1) _ _ hr
    · refine sm_rk (a := 137) (pts (rp_s hr) 125 5 137 rfl) kd_137 ?_
      refine sm_ck p2 ln_137 (fun b101 => ?_)
      refine sm_rk (a := 137) (pts (rp_s hr) 125 5 137 rfl) kd_137 ?_
      refine sm_ck p3 ln_137 (fun b102 => ?_)
      refine sm_jlt (rdJ (a := 137) hr p2 b101 (Nat.le_of_ble_eq_true rfl)) (rdJ (a := 137) hr p3 b102 (Nat.le_of_ble_eq_true rfl)) ?_ ?_
      · exact q_X4_markBehind_47 _ _ h2 _ _ ih _ _ p1 _ _ p2 _ _ p3 _ _ hr
      · refine sm_rk (a := 139) (pts (rp_s hr) 125 7 139 rfl) kd_139 ?_
        refine sm_ck (pa (pm p2 li_8) p3) ln_139 (fun b103 => ?_)
        refine sm_ck (pa (pm p2 li_8) p3) ln_139 (fun b104 => ?_)
        have hr105 := raI (a := 139) hr (pa (pm p2 li_8) p3) b104 (Nat.le_of_ble_eq_true rfl) (por (rdI (a := 139) hr (pa (pm p2 li_8) p3) b103 (Nat.le_of_ble_eq_true rfl)) p1)
        exact q_X4_markBehind_47 _ _ h2 _ _ ih _ _ p1 _ _ p2 _ _ p3 _ _ hr105
set_option maxHeartbeats 4000000 in
set_option maxRecDepth 100000 in
theorem q_X4_markBehind_2 (x1 : Int32) (z1 : Int) (p1 : x1 = mJ z1) : ∀ (n : Nat) (x2 : Int32) (z2 : Int) (p2 : x2 = mJ z2) (ζ : ZS) (σ : HS), Rp ζ σ → Sm QV (g_X4_markBehind_2 z1 n z2 ζ) (f_X4_markBehind_2 125 x1 n x2 σ) := by
  intro n
  induction n with
  | zero =>
    intro x2 z2 p2 ζ σ hr
    exact sm_none
  | succ n ih =>
    intro x2 z2 p2 ζ σ hr
    rw [g_X4_markBehind_2.eq_2, f_X4_markBehind_2.eq_2]
    refine sm_ile li_8 p2 ?_ ?_
    · exact sm_rv hr
    · exact q_X4_markBehind_10 _ _ p1 _ _ p2 _ _ ih FU _ _ li_0 _ _ hr
set_option maxHeartbeats 4000000 in
set_option maxRecDepth 100000 in
theorem q_X4_markBehind (x1 : Int32) (z1 : Int) (p1 : x1 = mJ z1) (ζ : ZS) (σ : HS) (hr : Rp ζ σ) : Sm QV (g_X4_markBehind z1 ζ) (f_X4_markBehind 125 x1 σ) := by
    unfold g_X4_markBehind f_X4_markBehind
    exact q_X4_markBehind_2 _ _ p1 FU _ _ li_0 _ _ hr
set_option maxHeartbeats 4000000 in
set_option maxRecDepth 100000 in
theorem q_X4_fillBehind_80 (r26 : Int → ZS → Option ZS) (f26 : Int32 → HS → Option HS) (h26 : ∀ (x1 : Int32) (z1 : Int) (p1 : x1 = mJ z1) (ζ : ZS) (σ : HS), Rp ζ σ → Sm QV (r26 z1 ζ) (f26 x1 σ)) (x1 : Int32) (z1 : Int) (p1 : x1 = mJ z1) (ζ : ZS) (σ : HS) (hr : Rp ζ σ) : Sm QV (g_X4_fillBehind_80 r26 z1 ζ) (f_X4_fillBehind_80 f26 125 x1 σ) := by
    unfold g_X4_fillBehind_80 f_X4_fillBehind_80
    exact h26 _ _ (pa p1 li_1) _ _ hr
set_option maxHeartbeats 4000000 in
set_option maxRecDepth 100000 in
theorem q_X4_fillBehind_53 (x1 : Int32) (z1 : Int) (p1 : x1 = mJ z1) (c2 : Nat) (k2 : kd c2 = 1) (r26 : Int → ZS → Option ZS) (f26 : Int32 → HS → Option HS) (h26 : ∀ (x1 : Int32) (z1 : Int) (p1 : x1 = mJ z1) (ζ : ZS) (σ : HS), Rp ζ σ → Sm QV (r26 z1 ζ) (f26 x1 σ)) : ∀ (n : Nat) (x3 : Int32) (z3 : Int) (p3 : x3 = mJ z3) (ζ : ZS) (σ : HS), Rp ζ σ → Sm QV (g_X4_fillBehind_53 z1 c2 r26 n z3 ζ) (f_X4_fillBehind_53 125 x1 c2 f26 n x3 σ) := by
  intro n
  induction n with
  | zero =>
    intro x3 z3 p3 ζ σ hr
    exact sm_none
  | succ n ih =>
    intro x3 z3 p3 ζ σ hr
    rw [g_X4_fillBehind_53.eq_2, f_X4_fillBehind_53.eq_2]
    refine sm_ile (hr.1 c2 5) p3 ?_ ?_
    · exact q_X4_fillBehind_80 _ _ h26 _ _ p1 _ _ hr
    · refine sm_bind (q_X4_fillGoods _ k2 _ _ p3 _ _ hr) (fun q1 w1 e1 => ?_)
      refine sm_bind (q_X4_markBehind _ _ (pshl li_1 p1) _ _ e1) (fun q2 w2 e2 => ?_)
      exact ih _ _ (pa p3 li_1) _ _ e2
set_option maxHeartbeats 4000000 in
set_option maxRecDepth 100000 in
theorem q_X4_fillBehind_26  : ∀ (n : Nat) (x1 : Int32) (z1 : Int) (p1 : x1 = mJ z1) (ζ : ZS) (σ : HS), Rp ζ σ → Sm QV (g_X4_fillBehind_26 n z1 ζ) (f_X4_fillBehind_26 125 n x1 σ) := by
  intro n
  induction n with
  | zero =>
    intro x1 z1 p1 ζ σ hr
    exact sm_none
  | succ n ih =>
    intro x1 z1 p1 ζ σ hr
    rw [g_X4_fillBehind_26.eq_2, f_X4_fillBehind_26.eq_2]
    refine sm_ile li_8 p1 ?_ ?_
    · exact sm_rv hr
    · refine sm_rk (a := 30) (pts (rp_s hr) 125 0 30 rfl) kd_30 ?_
      refine sm_bind (q_X9_isIn _ _ p1 _ _ hr) (fun q1 w1 e1 => ?_)
      refine sm_ieq e1.1 li_0 ?_ ?_
      · exact q_X4_fillBehind_80 _ _ ih _ _ p1 _ _ e1.2
      · refine sm_bind (q_X4_whereBest _ _ p1 _ _ li_0 _ _ li_0 _ _ e1.2) (fun q2 w2 e2 => ?_)
        refine sm_rkd (congrArg some e2.1) (fun c103 kc103 => ?_)
        exact q_X4_fillBehind_53 _ _ p1 _ kc103 _ _ ih FU _ _ li_0 _ _ e2.2
set_option maxHeartbeats 4000000 in
set_option maxRecDepth 100000 in
theorem q_X4_fillBehind_2  : ∀ (n : Nat) (x1 : Int32) (z1 : Int) (p1 : x1 = mJ z1) (ζ : ZS) (σ : HS), Rp ζ σ → Sm QV (g_X4_fillBehind_2 n z1 ζ) (f_X4_fillBehind_2 125 n x1 σ) := by
  intro n
  induction n with
  | zero =>
    intro x1 z1 p1 ζ σ hr
    exact sm_none
  | succ n ih =>
    intro x1 z1 p1 ζ σ hr
    rw [g_X4_fillBehind_2.eq_2, f_X4_fillBehind_2.eq_2]
    refine sm_rk (a := 139) (pts (rp_s hr) 125 7 139 rfl) kd_139 ?_
    refine sm_ile (plen (ln 139)) p1 ?_ ?_
    · exact q_X4_fillBehind_26 FU _ _ li_0 _ _ hr
    · refine sm_rk (a := 139) (pts (rp_s hr) 125 7 139 rfl) kd_139 ?_
      refine sm_ck p1 ln_139 (fun b101 => ?_)
      have hr102 := raI (a := 139) hr p1 b101 (Nat.le_of_ble_eq_true rfl) li_0
      exact ih _ _ (pa p1 li_1) _ _ hr102
set_option maxHeartbeats 4000000 in
set_option maxRecDepth 100000 in
theorem q_X4_fillBehind  (ζ : ZS) (σ : HS) (hr : Rp ζ σ) : Sm QV (g_X4_fillBehind ζ) (f_X4_fillBehind 125 σ) := by
    unfold g_X4_fillBehind f_X4_fillBehind
    exact q_X4_fillBehind_2 FU _ _ li_0 _ _ hr
set_option maxHeartbeats 4000000 in
set_option maxRecDepth 100000 in
theorem q_X4_greaterCount_13  (ζ : ZS) (σ : HS) (hr : Rp ζ σ) : Sm QI (g_X4_greaterCount_13 ζ) (f_X4_greaterCount_13 σ) := by
    unfold g_X4_greaterCount_13 f_X4_greaterCount_13
    exact sm_ri li_m1 hr
set_option maxHeartbeats 4000000 in
set_option maxRecDepth 100000 in
theorem q_X4_greaterCount (x1 : Int32) (z1 : Int) (p1 : x1 = mJ z1) (ζ : ZS) (σ : HS) (hr : Rp ζ σ) : Sm QI (g_X4_greaterCount z1 ζ) (f_X4_greaterCount 125 x1 σ) := by
    unfold g_X4_greaterCount f_X4_greaterCount
    refine sm_ilt p1 li_0 ?_ ?_
    · exact q_X4_greaterCount_13 _ _ hr
    · refine sm_rk (a := 139) (pts (rp_s hr) 125 7 139 rfl) kd_139 ?_
      refine sm_ilt p1 (plen (ln 139)) ?_ ?_
      · refine sm_gd (fun b101 => ?_)
        refine sm_gd (fun b102 => ?_)
        refine sm_rk (a := 139) (pts (rp_s hr) 125 7 139 rfl) kd_139 ?_
        refine sm_ck (pa (pm (pdiv p1 li_8 b101) li_8) (prem p1 li_8 b102)) ln_139 (fun b103 => ?_)
        refine sm_bind (q_J6_bitCount_0f7a4 _ _ (rdI (a := 139) hr (pa (pm (pdiv p1 li_8 b101) li_8) (prem p1 li_8 b102)) b103 (Nat.le_of_ble_eq_true rfl)) _ _ hr) (fun q4 w4 e4 => ?_)
        refine sm_rk (a := 139) (pts (rp_s e4.2) 125 7 139 rfl) kd_139 ?_
        refine sm_ck (pa (pm (prem p1 li_8 b102) li_8) (pdiv p1 li_8 b101)) ln_139 (fun b105 => ?_)
        refine sm_bind (q_J6_bitCount_0f7a4 _ _ (rdI (a := 139) e4.2 (pa (pm (prem p1 li_8 b102) li_8) (pdiv p1 li_8 b101)) b105 (Nat.le_of_ble_eq_true rfl)) _ _ e4.2) (fun q6 w6 e6 => ?_)
        refine sm_bind (q_J9_max_7cf53 _ _ e4.1 _ _ e6.1 _ _ e6.2) (fun q7 w7 e7 => ?_)
        exact sm_ri e7.1 e7.2
      · exact q_X4_greaterCount_13 _ _ hr
set_option maxHeartbeats 4000000 in
set_option maxRecDepth 100000 in
theorem q_X4_partsMost_88 (r8 : Int → Int → ZS → Option (Int × ZS)) (f8 : Int32 → Int32 → HS → Option (Int32 × HS)) (h8 : ∀ (x1 : Int32) (z1 : Int) (p1 : x1 = mJ z1) (x2 : Int32) (z2 : Int) (p2 : x2 = mJ z2) (ζ : ZS) (σ : HS), Rp ζ σ → Sm QI (r8 z1 z2 ζ) (f8 x1 x2 σ)) (r18 : Int → Int → ZS → Option (Int × ZS)) (f18 : Int32 → Int32 → HS → Option (Int32 × HS)) (h18 : ∀ (x1 : Int32) (z1 : Int) (p1 : x1 = mJ z1) (x3 : Int32) (z3 : Int) (p3 : x3 = mJ z3) (ζ : ZS) (σ : HS), Rp ζ σ → Sm QI (r18 z1 z3 ζ) (f18 x1 x3 σ)) (x1 : Int32) (z1 : Int) (p1 : x1 = mJ z1) (x2 : Int32) (z2 : Int) (p2 : x2 = mJ z2) (x3 : Int32) (z3 : Int) (p3 : x3 = mJ z3) (ζ : ZS) (σ : HS) (hr : Rp ζ σ) : Sm QI (g_X4_partsMost_88 r8 r18 z1 z2 z3 ζ) (f_X4_partsMost_88 f8 f18 125 x1 x2 x3 σ) := by
    unfold g_X4_partsMost_88 f_X4_partsMost_88
    exact h18 _ _ p1 _ _ (pa p3 li_1) _ _ hr
set_option maxHeartbeats 4000000 in
set_option maxRecDepth 100000 in
theorem q_X4_partsMost_85 (r8 : Int → Int → ZS → Option (Int × ZS)) (f8 : Int32 → Int32 → HS → Option (Int32 × HS)) (h8 : ∀ (x1 : Int32) (z1 : Int) (p1 : x1 = mJ z1) (x2 : Int32) (z2 : Int) (p2 : x2 = mJ z2) (ζ : ZS) (σ : HS), Rp ζ σ → Sm QI (r8 z1 z2 ζ) (f8 x1 x2 σ)) (r18 : Int → Int → ZS → Option (Int × ZS)) (f18 : Int32 → Int32 → HS → Option (Int32 × HS)) (h18 : ∀ (x1 : Int32) (z1 : Int) (p1 : x1 = mJ z1) (x3 : Int32) (z3 : Int) (p3 : x3 = mJ z3) (ζ : ZS) (σ : HS), Rp ζ σ → Sm QI (r18 z1 z3 ζ) (f18 x1 x3 σ)) (x2 : Int32) (z2 : Int) (p2 : x2 = mJ z2) (x3 : Int32) (z3 : Int) (p3 : x3 = mJ z3) (x4 : Int32) (z4 : Int) (p4 : x4 = mJ z4) (ζ : ZS) (σ : HS) (hr : Rp ζ σ) : Sm QI (g_X4_partsMost_85 r8 r18 z2 z3 z4 ζ) (f_X4_partsMost_85 f8 f18 125 x2 x3 x4 σ) := by
    unfold g_X4_partsMost_85 f_X4_partsMost_85
    exact q_X4_partsMost_88 _ _ h8 _ _ h18 _ _ p4 _ _ p2 _ _ p3 _ _ hr
set_option maxHeartbeats 4000000 in
set_option maxRecDepth 100000 in
theorem q_X4_partsMost_59 (r8 : Int → Int → ZS → Option (Int × ZS)) (f8 : Int32 → Int32 → HS → Option (Int32 × HS)) (h8 : ∀ (x1 : Int32) (z1 : Int) (p1 : x1 = mJ z1) (x2 : Int32) (z2 : Int) (p2 : x2 = mJ z2) (ζ : ZS) (σ : HS), Rp ζ σ → Sm QI (r8 z1 z2 ζ) (f8 x1 x2 σ)) (r18 : Int → Int → ZS → Option (Int × ZS)) (f18 : Int32 → Int32 → HS → Option (Int32 × HS)) (h18 : ∀ (x1 : Int32) (z1 : Int) (p1 : x1 = mJ z1) (x3 : Int32) (z3 : Int) (p3 : x3 = mJ z3) (ζ : ZS) (σ : HS), Rp ζ σ → Sm QI (r18 z1 z3 ζ) (f18 x1 x3 σ)) (x1 : Int32) (z1 : Int) (p1 : x1 = mJ z1) (x2 : Int32) (z2 : Int) (p2 : x2 = mJ z2) (x3 : Int32) (z3 : Int) (p3 : x3 = mJ z3) (x4 : Int32) (z4 : Int) (p4 : x4 = mJ z4) (xs0 : Int32) (zs0 : Int) (ps0 : xs0 = mJ zs0) (ζ : ZS) (σ : HS) (hr : Rp ζ σ) : Sm QI (g_X4_partsMost_59 r8 r18 z1 z2 z3 z4 zs0 ζ) (f_X4_partsMost_59 f8 f18 125 x1 x2 x3 x4 xs0 σ) := by
    unfold g_X4_partsMost_59 f_X4_partsMost_59
    refine sm_ieq ps0 li_0 ?_ ?_
    · exact q_X4_partsMost_88 _ _ h8 _ _ h18 _ _ p1 _ _ p2 _ _ p3 _ _ hr
    · refine sm_ieq p1 li_m1 ?_ ?_
      · exact q_X4_partsMost_85 _ _ h8 _ _ h18 _ _ p2 _ _ p3 _ _ p4 _ _ hr
      · refine sm_bind (q_X4_greaterCount _ _ p4 _ _ hr) (fun q1 w1 e1 => ?_)
        refine sm_bind (q_X4_greaterCount _ _ p1 _ _ e1.2) (fun q2 w2 e2 => ?_)
        refine sm_ile e2.1 e1.1 ?_ ?_
        · exact q_X4_partsMost_88 _ _ h8 _ _ h18 _ _ p1 _ _ p2 _ _ p3 _ _ e2.2
        · exact q_X4_partsMost_85 _ _ h8 _ _ h18 _ _ p2 _ _ p3 _ _ p4 _ _ e2.2
set_option maxHeartbeats 4000000 in
set_option maxRecDepth 100000 in
theorem q_X4_partsMost_58 (r8 : Int → Int → ZS → Option (Int × ZS)) (f8 : Int32 → Int32 → HS → Option (Int32 × HS)) (h8 : ∀ (x1 : Int32) (z1 : Int) (p1 : x1 = mJ z1) (x2 : Int32) (z2 : Int) (p2 : x2 = mJ z2) (ζ : ZS) (σ : HS), Rp ζ σ → Sm QI (r8 z1 z2 ζ) (f8 x1 x2 σ)) (r18 : Int → Int → ZS → Option (Int × ZS)) (f18 : Int32 → Int32 → HS → Option (Int32 × HS)) (h18 : ∀ (x1 : Int32) (z1 : Int) (p1 : x1 = mJ z1) (x3 : Int32) (z3 : Int) (p3 : x3 = mJ z3) (ζ : ZS) (σ : HS), Rp ζ σ → Sm QI (r18 z1 z3 ζ) (f18 x1 x3 σ)) (x1 : Int32) (z1 : Int) (p1 : x1 = mJ z1) (x2 : Int32) (z2 : Int) (p2 : x2 = mJ z2) (x3 : Int32) (z3 : Int) (p3 : x3 = mJ z3) (x4 : Int32) (z4 : Int) (p4 : x4 = mJ z4) (ζ : ZS) (σ : HS) (hr : Rp ζ σ) : Sm QI (g_X4_partsMost_58 r8 r18 z1 z2 z3 z4 ζ) (f_X4_partsMost_58 f8 f18 125 x1 x2 x3 x4 σ) := by
    unfold g_X4_partsMost_58 f_X4_partsMost_58
    exact q_X4_partsMost_59 _ _ h8 _ _ h18 _ _ p1 _ _ p2 _ _ p3 _ _ p4 _ _ li_0 _ _ hr
set_option maxHeartbeats 4000000 in
set_option maxRecDepth 100000 in
theorem q_X4_partsMost_18 (x2 : Int32) (z2 : Int) (p2 : x2 = mJ z2) (r8 : Int → Int → ZS → Option (Int × ZS)) (f8 : Int32 → Int32 → HS → Option (Int32 × HS)) (h8 : ∀ (x1 : Int32) (z1 : Int) (p1 : x1 = mJ z1) (x2 : Int32) (z2 : Int) (p2 : x2 = mJ z2) (ζ : ZS) (σ : HS), Rp ζ σ → Sm QI (r8 z1 z2 ζ) (f8 x1 x2 σ)) : ∀ (n : Nat) (x1 : Int32) (z1 : Int) (p1 : x1 = mJ z1) (x3 : Int32) (z3 : Int) (p3 : x3 = mJ z3) (ζ : ZS) (σ : HS), Rp ζ σ → Sm QI (g_X4_partsMost_18 z2 r8 n z1 z3 ζ) (f_X4_partsMost_18 125 x2 f8 n x1 x3 σ) := by
  intro n
  induction n with
  | zero =>
    intro x1 z1 p1 x3 z3 p3 ζ σ hr
    exact sm_none
  | succ n ih =>
    intro x1 z1 p1 x3 z3 p3 ζ σ hr
    rw [g_X4_partsMost_18.eq_2, f_X4_partsMost_18.eq_2]
    refine sm_ile li_8 p3 ?_ ?_
    · exact h8 _ _ p1 _ _ (pa p2 li_1) _ _ hr
    · refine sm_rk (a := 30) (pts (rp_s hr) 125 0 30 rfl) kd_30 ?_
      refine sm_bind (q_X9_isIn _ _ p2 _ _ hr) (fun q1 w1 e1 => ?_)
      refine sm_ieq e1.1 li_0 ?_ ?_
      · exact q_X4_partsMost_58 _ _ h8 _ _ ih _ _ p1 _ _ p2 _ _ p3 _ _ (pa (pm p2 li_8) p3) _ _ e1.2
      · refine sm_rk (a := 30) (pts (rp_s e1.2) 125 0 30 rfl) kd_30 ?_
        refine sm_bind (q_X9_isIn _ _ p3 _ _ e1.2) (fun q2 w2 e2 => ?_)
        refine sm_ieq e2.1 li_0 ?_ ?_
        · exact q_X4_partsMost_58 _ _ h8 _ _ ih _ _ p1 _ _ p2 _ _ p3 _ _ (pa (pm p2 li_8) p3) _ _ e2.2
        · exact q_X4_partsMost_59 _ _ h8 _ _ ih _ _ p1 _ _ p2 _ _ p3 _ _ (pa (pm p2 li_8) p3) _ _ li_1 _ _ e2.2
set_option maxHeartbeats 4000000 in
set_option maxRecDepth 100000 in
theorem q_X4_partsMost_8  : ∀ (n : Nat) (x1 : Int32) (z1 : Int) (p1 : x1 = mJ z1) (x2 : Int32) (z2 : Int) (p2 : x2 = mJ z2) (ζ : ZS) (σ : HS), Rp ζ σ → Sm QI (g_X4_partsMost_8 n z1 z2 ζ) (f_X4_partsMost_8 125 n x1 x2 σ) := by
  intro n
  induction n with
  | zero =>
    intro x1 z1 p1 x2 z2 p2 ζ σ hr
    exact sm_none
  | succ n ih =>
    intro x1 z1 p1 x2 z2 p2 ζ σ hr
    rw [g_X4_partsMost_8.eq_2, f_X4_partsMost_8.eq_2]
    refine sm_ile li_8 p2 ?_ ?_
    · exact sm_ri p1 hr
    · exact q_X4_partsMost_18 _ _ p2 _ _ ih FU _ _ p1 _ _ (pa p2 li_1) _ _ hr
set_option maxHeartbeats 4000000 in
set_option maxRecDepth 100000 in
theorem q_X4_partsMost  (ζ : ZS) (σ : HS) (hr : Rp ζ σ) : Sm QI (g_X4_partsMost ζ) (f_X4_partsMost 125 σ) := by
    unfold g_X4_partsMost f_X4_partsMost
    refine sm_bind (q_X4_fillBehind _ _ hr) (fun q1 w1 e1 => ?_)
    exact q_X4_partsMost_8 FU _ _ li_m1 _ _ li_0 _ _ e1
set_option maxHeartbeats 4000000 in
set_option maxRecDepth 100000 in
theorem q_X4_haveAllCorners_2 (c1 : Nat) (k1 : kd c1 = 1) (x2 : Int32) (z2 : Int) (p2 : x2 = mJ z2) : ∀ (n : Nat) (x3 : Int32) (z3 : Int) (p3 : x3 = mJ z3) (ζ : ZS) (σ : HS), Rp ζ σ → Sm QI (g_X4_haveAllCorners_2 c1 z2 n z3 ζ) (f_X4_haveAllCorners_2 125 c1 x2 n x3 σ) := by
  intro n
  induction n with
  | zero =>
    intro x3 z3 p3 ζ σ hr
    exact sm_none
  | succ n ih =>
    intro x3 z3 p3 ζ σ hr
    rw [g_X4_haveAllCorners_2.eq_2, f_X4_haveAllCorners_2.eq_2]
    refine sm_ile (hr.1 c1 5) p3 ?_ ?_
    · exact sm_ri li_1 hr
    · refine sm_rk (a := 138) (pts (rp_s hr) 125 6 138 rfl) kd_138 ?_
      refine sm_ck p3 ln_138 (fun b101 => ?_)
      refine sm_ieq (pand (rdI (a := 138) hr p3 b101 (Nat.le_of_ble_eq_true rfl)) p2) li_0 ?_ ?_
      · exact sm_ri li_0 hr
      · exact ih _ _ (pa p3 li_1) _ _ hr
set_option maxHeartbeats 4000000 in
set_option maxRecDepth 100000 in
theorem q_X4_haveAllCorners (c1 : Nat) (k1 : kd c1 = 1) (x2 : Int32) (z2 : Int) (p2 : x2 = mJ z2) (ζ : ZS) (σ : HS) (hr : Rp ζ σ) : Sm QI (g_X4_haveAllCorners c1 z2 ζ) (f_X4_haveAllCorners 125 c1 x2 σ) := by
    unfold g_X4_haveAllCorners f_X4_haveAllCorners
    exact q_X4_haveAllCorners_2 _ k1 _ _ p2 FU _ _ li_0 _ _ hr
set_option maxHeartbeats 4000000 in
set_option maxRecDepth 100000 in
theorem q_X4_isBestAhead_78 (r16 : Int → ZS → Option (Int × ZS)) (f16 : Int32 → HS → Option (Int32 × HS)) (h16 : ∀ (x4 : Int32) (z4 : Int) (p4 : x4 = mJ z4) (ζ : ZS) (σ : HS), Rp ζ σ → Sm QI (r16 z4 ζ) (f16 x4 σ)) (c1 : Nat) (k1 : kd c1 = 1) (x2 : Int32) (z2 : Int) (p2 : x2 = mJ z2) (x3 : Int32) (z3 : Int) (p3 : x3 = mJ z3) (x4 : Int32) (z4 : Int) (p4 : x4 = mJ z4) (ζ : ZS) (σ : HS) (hr : Rp ζ σ) : Sm QI (g_X4_isBestAhead_78 r16 c1 z2 z3 z4 ζ) (f_X4_isBestAhead_78 f16 125 c1 x2 x3 x4 σ) := by
    unfold g_X4_isBestAhead_78 f_X4_isBestAhead_78
    exact h16 _ _ (pa p4 li_1) _ _ hr
set_option maxHeartbeats 4000000 in
set_option maxRecDepth 100000 in
theorem q_X4_isBestAhead_16 (c1 : Nat) (k1 : kd c1 = 1) (x2 : Int32) (z2 : Int) (p2 : x2 = mJ z2) (x3 : Int32) (z3 : Int) (p3 : x3 = mJ z3) : ∀ (n : Nat) (x4 : Int32) (z4 : Int) (p4 : x4 = mJ z4) (ζ : ZS) (σ : HS), Rp ζ σ → Sm QI (g_X4_isBestAhead_16 c1 z2 z3 n z4 ζ) (f_X4_isBestAhead_16 125 c1 x2 x3 n x4 σ) := by
  intro n
  induction n with
  | zero =>
    intro x4 z4 p4 ζ σ hr
    exact sm_none
  | succ n ih =>
    intro x4 z4 p4 ζ σ hr
    rw [g_X4_isBestAhead_16.eq_2, f_X4_isBestAhead_16.eq_2]
    refine sm_ile li_8 p4 ?_ ?_
    · exact sm_ri li_1 hr
    · refine sm_rk (a := 30) (pts (rp_s hr) 125 0 30 rfl) kd_30 ?_
      refine sm_bind (q_X9_isIn _ _ p4 _ _ hr) (fun q1 w1 e1 => ?_)
      refine sm_ieq e1.1 li_0 ?_ ?_
      · exact q_X4_isBestAhead_78 _ _ ih _ k1 _ _ p2 _ _ p3 _ _ p4 _ _ e1.2
      · refine sm_ieq p4 p2 ?_ ?_
        · exact q_X4_isBestAhead_78 _ _ ih _ k1 _ _ p2 _ _ p3 _ _ p4 _ _ e1.2
        · refine sm_ieq p4 p3 ?_ ?_
          · exact q_X4_isBestAhead_78 _ _ ih _ k1 _ _ p2 _ _ p3 _ _ p4 _ _ e1.2
          · refine sm_rk (a := 30) (pts (rp_s e1.2) 125 0 30 rfl) kd_30 ?_
            refine sm_rk (a := 136) (pts (rp_s e1.2) 125 4 136 rfl) kd_136 ?_
            refine sm_bind (q_X9_fillLead _ _ p2 _ _ p4 _ kd_136 _ _ e1.2) (fun q2 w2 e2 => ?_)
            refine sm_rk (a := 135) (pts (rp_s e2) 125 3 135 rfl) kd_135 ?_
            refine sm_rk (a := 136) (pts (rp_s e2) 125 4 136 rfl) kd_136 ?_
            refine sm_bind (q_X1_impliesWith _ k1 _ kd_135 _ kd_136 _ _ e2) (fun q3 w3 e3 => ?_)
            refine sm_ieq e3.1 li_0 ?_ ?_
            · exact sm_ri li_0 e3.2
            · exact q_X4_isBestAhead_78 _ _ ih _ k1 _ _ p2 _ _ p3 _ _ p4 _ _ e3.2
set_option maxHeartbeats 4000000 in
set_option maxRecDepth 100000 in
theorem q_X4_isBestAhead (c1 : Nat) (k1 : kd c1 = 1) (x2 : Int32) (z2 : Int) (p2 : x2 = mJ z2) (x3 : Int32) (z3 : Int) (p3 : x3 = mJ z3) (ζ : ZS) (σ : HS) (hr : Rp ζ σ) : Sm QI (g_X4_isBestAhead c1 z2 z3 ζ) (f_X4_isBestAhead 125 c1 x2 x3 σ) := by
    unfold g_X4_isBestAhead f_X4_isBestAhead
    refine sm_rk (a := 30) (pts (rp_s hr) 125 0 30 rfl) kd_30 ?_
    refine sm_rk (a := 135) (pts (rp_s hr) 125 3 135 rfl) kd_135 ?_
    refine sm_bind (q_X9_fillLead _ _ p2 _ _ p3 _ kd_135 _ _ hr) (fun q1 w1 e1 => ?_)
    exact q_X4_isBestAhead_16 _ k1 _ _ p2 _ _ p3 FU _ _ li_0 _ _ e1
set_option maxHeartbeats 4000000 in
set_option maxRecDepth 100000 in
theorem q_X4_oneQuestionDoes_117 (r30 : Int → ZS → Option (Int × ZS)) (f30 : Int32 → HS → Option (Int32 × HS)) (h30 : ∀ (x2 : Int32) (z2 : Int) (p2 : x2 = mJ z2) (ζ : ZS) (σ : HS), Rp ζ σ → Sm QI (r30 z2 ζ) (f30 x2 σ)) (r40 : Int → ZS → Option (Int × ZS)) (f40 : Int32 → HS → Option (Int32 × HS)) (h40 : ∀ (x3 : Int32) (z3 : Int) (p3 : x3 = mJ z3) (ζ : ZS) (σ : HS), Rp ζ σ → Sm QI (r40 z3 ζ) (f40 x3 σ)) (c1 : Nat) (k1 : kd c1 = 1) (x2 : Int32) (z2 : Int) (p2 : x2 = mJ z2) (x3 : Int32) (z3 : Int) (p3 : x3 = mJ z3) (ζ : ZS) (σ : HS) (hr : Rp ζ σ) : Sm QI (g_X4_oneQuestionDoes_117 r30 r40 c1 z2 z3 ζ) (f_X4_oneQuestionDoes_117 f30 f40 125 c1 x2 x3 σ) := by
    unfold g_X4_oneQuestionDoes_117 f_X4_oneQuestionDoes_117
    exact h40 _ _ (pa p3 li_1) _ _ hr
set_option maxHeartbeats 4000000 in
set_option maxRecDepth 100000 in
theorem q_X4_oneQuestionDoes_73 (r30 : Int → ZS → Option (Int × ZS)) (f30 : Int32 → HS → Option (Int32 × HS)) (h30 : ∀ (x2 : Int32) (z2 : Int) (p2 : x2 = mJ z2) (ζ : ZS) (σ : HS), Rp ζ σ → Sm QI (r30 z2 ζ) (f30 x2 σ)) (r40 : Int → ZS → Option (Int × ZS)) (f40 : Int32 → HS → Option (Int32 × HS)) (h40 : ∀ (x3 : Int32) (z3 : Int) (p3 : x3 = mJ z3) (ζ : ZS) (σ : HS), Rp ζ σ → Sm QI (r40 z3 ζ) (f40 x3 σ)) (c1 : Nat) (k1 : kd c1 = 1) (x2 : Int32) (z2 : Int) (p2 : x2 = mJ z2) (x3 : Int32) (z3 : Int) (p3 : x3 = mJ z3) (xs0 : Int32) (zs0 : Int) (ps0 : xs0 = mJ zs0) (ζ : ZS) (σ : HS) (hr : Rp ζ σ) : Sm QI (g_X4_oneQuestionDoes_73 r30 r40 c1 z2 z3 zs0 ζ) (f_X4_oneQuestionDoes_73 f30 f40 125 c1 x2 x3 xs0 σ) := by
    unfold g_X4_oneQuestionDoes_73 f_X4_oneQuestionDoes_73
    refine sm_ieq ps0 li_0 ?_ ?_
    · exact q_X4_oneQuestionDoes_117 _ _ h30 _ _ h40 _ k1 _ _ p2 _ _ p3 _ _ hr
    · refine sm_bind (q_X4_haveAllCorners _ k1 _ _ (por (pshl li_1 p2) (pshl li_1 p3)) _ _ hr) (fun q1 w1 e1 => ?_)
      refine sm_ieq e1.1 li_0 ?_ ?_
      · exact q_X4_oneQuestionDoes_117 _ _ h30 _ _ h40 _ k1 _ _ p2 _ _ p3 _ _ e1.2
      · refine sm_bind (q_X4_isBestAhead _ k1 _ _ p2 _ _ p3 _ _ e1.2) (fun q2 w2 e2 => ?_)
        refine sm_ieq e2.1 li_0 ?_ ?_
        · exact q_X4_oneQuestionDoes_117 _ _ h30 _ _ h40 _ k1 _ _ p2 _ _ p3 _ _ e2.2
        · refine sm_bind (q_X4_isBestAhead _ k1 _ _ p3 _ _ p2 _ _ e2.2) (fun q3 w3 e3 => ?_)
          refine sm_ieq e3.1 li_0 ?_ ?_
          · exact q_X4_oneQuestionDoes_117 _ _ h30 _ _ h40 _ k1 _ _ p2 _ _ p3 _ _ e3.2
          · exact sm_ri li_1 e3.2
set_option maxHeartbeats 4000000 in
set_option maxRecDepth 100000 in
theorem q_X4_oneQuestionDoes_72 (r30 : Int → ZS → Option (Int × ZS)) (f30 : Int32 → HS → Option (Int32 × HS)) (h30 : ∀ (x2 : Int32) (z2 : Int) (p2 : x2 = mJ z2) (ζ : ZS) (σ : HS), Rp ζ σ → Sm QI (r30 z2 ζ) (f30 x2 σ)) (r40 : Int → ZS → Option (Int × ZS)) (f40 : Int32 → HS → Option (Int32 × HS)) (h40 : ∀ (x3 : Int32) (z3 : Int) (p3 : x3 = mJ z3) (ζ : ZS) (σ : HS), Rp ζ σ → Sm QI (r40 z3 ζ) (f40 x3 σ)) (c1 : Nat) (k1 : kd c1 = 1) (x2 : Int32) (z2 : Int) (p2 : x2 = mJ z2) (x3 : Int32) (z3 : Int) (p3 : x3 = mJ z3) (ζ : ZS) (σ : HS) (hr : Rp ζ σ) : Sm QI (g_X4_oneQuestionDoes_72 r30 r40 c1 z2 z3 ζ) (f_X4_oneQuestionDoes_72 f30 f40 125 c1 x2 x3 σ) := by
    unfold g_X4_oneQuestionDoes_72 f_X4_oneQuestionDoes_72
    exact q_X4_oneQuestionDoes_73 _ _ h30 _ _ h40 _ k1 _ _ p2 _ _ p3 _ _ li_0 _ _ hr
set_option maxHeartbeats 4000000 in
set_option maxRecDepth 100000 in
theorem q_X4_oneQuestionDoes_40 (c1 : Nat) (k1 : kd c1 = 1) (x2 : Int32) (z2 : Int) (p2 : x2 = mJ z2) (r30 : Int → ZS → Option (Int × ZS)) (f30 : Int32 → HS → Option (Int32 × HS)) (h30 : ∀ (x2 : Int32) (z2 : Int) (p2 : x2 = mJ z2) (ζ : ZS) (σ : HS), Rp ζ σ → Sm QI (r30 z2 ζ) (f30 x2 σ)) : ∀ (n : Nat) (x3 : Int32) (z3 : Int) (p3 : x3 = mJ z3) (ζ : ZS) (σ : HS), Rp ζ σ → Sm QI (g_X4_oneQuestionDoes_40 c1 z2 r30 n z3 ζ) (f_X4_oneQuestionDoes_40 125 c1 x2 f30 n x3 σ) := by
  intro n
  induction n with
  | zero =>
    intro x3 z3 p3 ζ σ hr
    exact sm_none
  | succ n ih =>
    intro x3 z3 p3 ζ σ hr
    rw [g_X4_oneQuestionDoes_40.eq_2, f_X4_oneQuestionDoes_40.eq_2]
    refine sm_ile li_8 p3 ?_ ?_
    · exact h30 _ _ (pa p2 li_1) _ _ hr
    · refine sm_rk (a := 30) (pts (rp_s hr) 125 0 30 rfl) kd_30 ?_
      refine sm_bind (q_X9_isIn _ _ p2 _ _ hr) (fun q1 w1 e1 => ?_)
      refine sm_ieq e1.1 li_0 ?_ ?_
      · exact q_X4_oneQuestionDoes_72 _ _ h30 _ _ ih _ k1 _ _ p2 _ _ p3 _ _ e1.2
      · refine sm_rk (a := 30) (pts (rp_s e1.2) 125 0 30 rfl) kd_30 ?_
        refine sm_bind (q_X9_isIn _ _ p3 _ _ e1.2) (fun q2 w2 e2 => ?_)
        refine sm_ieq e2.1 li_0 ?_ ?_
        · exact q_X4_oneQuestionDoes_72 _ _ h30 _ _ ih _ k1 _ _ p2 _ _ p3 _ _ e2.2
        · exact q_X4_oneQuestionDoes_73 _ _ h30 _ _ ih _ k1 _ _ p2 _ _ p3 _ _ li_1 _ _ e2.2
set_option maxHeartbeats 4000000 in
set_option maxRecDepth 100000 in
theorem q_X4_oneQuestionDoes_30 (c1 : Nat) (k1 : kd c1 = 1) : ∀ (n : Nat) (x2 : Int32) (z2 : Int) (p2 : x2 = mJ z2) (ζ : ZS) (σ : HS), Rp ζ σ → Sm QI (g_X4_oneQuestionDoes_30 c1 n z2 ζ) (f_X4_oneQuestionDoes_30 125 c1 n x2 σ) := by
  intro n
  induction n with
  | zero =>
    intro x2 z2 p2 ζ σ hr
    exact sm_none
  | succ n ih =>
    intro x2 z2 p2 ζ σ hr
    rw [g_X4_oneQuestionDoes_30.eq_2, f_X4_oneQuestionDoes_30.eq_2]
    refine sm_ile li_8 p2 ?_ ?_
    · exact sm_ri li_0 hr
    · exact q_X4_oneQuestionDoes_40 _ k1 _ _ p2 _ _ ih FU _ _ (pa p2 li_1) _ _ hr
set_option maxHeartbeats 4000000 in
set_option maxRecDepth 100000 in
theorem q_X4_oneQuestionDoes_2 (c1 : Nat) (k1 : kd c1 = 1) : ∀ (n : Nat) (x2 : Int32) (z2 : Int) (p2 : x2 = mJ z2) (ζ : ZS) (σ : HS), Rp ζ σ → Sm QI (g_X4_oneQuestionDoes_2 c1 n z2 ζ) (f_X4_oneQuestionDoes_2 125 c1 n x2 σ) := by
  intro n
  induction n with
  | zero =>
    intro x2 z2 p2 ζ σ hr
    exact sm_none
  | succ n ih =>
    intro x2 z2 p2 ζ σ hr
    rw [g_X4_oneQuestionDoes_2.eq_2, f_X4_oneQuestionDoes_2.eq_2]
    refine sm_ile (hr.1 c1 5) p2 ?_ ?_
    · exact q_X4_oneQuestionDoes_30 _ k1 FU _ _ li_0 _ _ hr
    · refine sm_rk (a := 138) (pts (rp_s hr) 125 6 138 rfl) kd_138 ?_
      refine sm_bind (q_X4_bestByCorner _ k1 _ _ p2 _ _ hr) (fun q1 w1 e1 => ?_)
      refine sm_ck p2 ln_138 (fun b102 => ?_)
      have hr103 := raI (a := 138) e1.2 p2 b102 (Nat.le_of_ble_eq_true rfl) e1.1
      exact ih _ _ (pa p2 li_1) _ _ hr103
set_option maxHeartbeats 4000000 in
set_option maxRecDepth 100000 in
theorem q_X4_oneQuestionDoes (c1 : Nat) (k1 : kd c1 = 1) (ζ : ZS) (σ : HS) (hr : Rp ζ σ) : Sm QI (g_X4_oneQuestionDoes c1 ζ) (f_X4_oneQuestionDoes 125 c1 σ) := by
    unfold g_X4_oneQuestionDoes f_X4_oneQuestionDoes
    exact q_X4_oneQuestionDoes_2 _ k1 FU _ _ li_0 _ _ hr
set_option maxHeartbeats 4000000 in
set_option maxRecDepth 100000 in
theorem q_X4_oneMoreDoes (x1 : Int32) (z1 : Int) (p1 : x1 = mJ z1) (x2 : Int32) (z2 : Int) (p2 : x2 = mJ z2) (ζ : ZS) (σ : HS) (hr : Rp ζ σ) : Sm QI (g_X4_oneMoreDoes z1 z2 ζ) (f_X4_oneMoreDoes 125 x1 x2 σ) := by
    unfold g_X4_oneMoreDoes f_X4_oneMoreDoes
    refine sm_rk (a := 30) (pts (rp_s hr) 125 0 30 rfl) kd_30 ?_
    refine sm_rk (a := 135) (pts (rp_s hr) 125 3 135 rfl) kd_135 ?_
    refine sm_bind (q_X9_fillLead _ _ p1 _ _ p2 _ kd_135 _ _ hr) (fun q1 w1 e1 => ?_)
    refine sm_rk (a := 50) (pts (rp_s e1) 125 1 50 rfl) kd_50 ?_
    refine sm_rk (a := 72) (pts (rp_s e1) 50 3 72 rfl) kd_72 ?_
    refine sm_ck li_0 ln_72 (fun b102 => ?_)
    refine sm_rk (aa17 e1 li_0 b102) (ak17 b102) ?_
    refine sm_rk (a := 50) (pts (rp_s e1) 125 1 50 rfl) kd_50 ?_
    refine sm_rk (a := 68) (pts (rp_s e1) 50 2 68 rfl) kd_68 ?_
    refine sm_rk (a := 135) (pts (rp_s e1) 125 3 135 rfl) kd_135 ?_
    refine sm_bind (q_X1_becomeCut _ (ak17 b102) _ kd_68 _ kd_135 _ _ e1) (fun q3 w3 e3 => ?_)
    refine sm_rk (a := 50) (pts (rp_s e3) 125 1 50 rfl) kd_50 ?_
    refine sm_rk (a := 72) (pts (rp_s e3) 50 3 72 rfl) kd_72 ?_
    refine sm_ck li_0 ln_72 (fun b104 => ?_)
    refine sm_rk (aa17 e3 li_0 b104) (ak17 b104) ?_
    refine sm_bind (q_X4_oneQuestionDoes _ (ak17 b104) _ _ e3) (fun q5 w5 e5 => ?_)
    exact sm_zr e5.1 e5.2
set_option maxHeartbeats 4000000 in
set_option maxRecDepth 100000 in
theorem q_X4_fewQuestions_102 (r34 : Int → ZS → Option (Int × ZS)) (f34 : Int32 → HS → Option (Int32 × HS)) (h34 : ∀ (x1 : Int32) (z1 : Int) (p1 : x1 = mJ z1) (ζ : ZS) (σ : HS), Rp ζ σ → Sm QI (r34 z1 ζ) (f34 x1 σ)) (r44 : Int → ZS → Option (Int × ZS)) (f44 : Int32 → HS → Option (Int32 × HS)) (h44 : ∀ (x2 : Int32) (z2 : Int) (p2 : x2 = mJ z2) (ζ : ZS) (σ : HS), Rp ζ σ → Sm QI (r44 z2 ζ) (f44 x2 σ)) (x1 : Int32) (z1 : Int) (p1 : x1 = mJ z1) (x2 : Int32) (z2 : Int) (p2 : x2 = mJ z2) (ζ : ZS) (σ : HS) (hr : Rp ζ σ) : Sm QI (g_X4_fewQuestions_102 r34 r44 z1 z2 ζ) (f_X4_fewQuestions_102 f34 f44 125 x1 x2 σ) := by
    unfold g_X4_fewQuestions_102 f_X4_fewQuestions_102
    exact h44 _ _ (pa p2 li_1) _ _ hr
set_option maxHeartbeats 4000000 in
set_option maxRecDepth 100000 in
theorem q_X4_fewQuestions_77 (r34 : Int → ZS → Option (Int × ZS)) (f34 : Int32 → HS → Option (Int32 × HS)) (h34 : ∀ (x1 : Int32) (z1 : Int) (p1 : x1 = mJ z1) (ζ : ZS) (σ : HS), Rp ζ σ → Sm QI (r34 z1 ζ) (f34 x1 σ)) (r44 : Int → ZS → Option (Int × ZS)) (f44 : Int32 → HS → Option (Int32 × HS)) (h44 : ∀ (x2 : Int32) (z2 : Int) (p2 : x2 = mJ z2) (ζ : ZS) (σ : HS), Rp ζ σ → Sm QI (r44 z2 ζ) (f44 x2 σ)) (x1 : Int32) (z1 : Int) (p1 : x1 = mJ z1) (x2 : Int32) (z2 : Int) (p2 : x2 = mJ z2) (xs0 : Int32) (zs0 : Int) (ps0 : xs0 = mJ zs0) (ζ : ZS) (σ : HS) (hr : Rp ζ σ) : Sm QI (g_X4_fewQuestions_77 r34 r44 z1 z2 zs0 ζ) (f_X4_fewQuestions_77 f34 f44 125 x1 x2 xs0 σ) := by
    unfold g_X4_fewQuestions_77 f_X4_fewQuestions_77
    refine sm_ieq ps0 li_0 ?_ ?_
    · exact q_X4_fewQuestions_102 _ _ h34 _ _ h44 _ _ p1 _ _ p2 _ _ hr
    · refine sm_bind (q_X4_oneMoreDoes _ _ p1 _ _ p2 _ _ hr) (fun q1 w1 e1 => ?_)
      refine sm_ieq e1.1 li_0 ?_ ?_
      · exact q_X4_fewQuestions_102 _ _ h34 _ _ h44 _ _ p1 _ _ p2 _ _ e1.2
      · refine sm_bind (q_X4_oneMoreDoes _ _ p2 _ _ p1 _ _ e1.2) (fun q2 w2 e2 => ?_)
        refine sm_ieq e2.1 li_0 ?_ ?_
        · exact q_X4_fewQuestions_102 _ _ h34 _ _ h44 _ _ p1 _ _ p2 _ _ e2.2
        · exact sm_ri li_2 e2.2
set_option maxHeartbeats 4000000 in
set_option maxRecDepth 100000 in
theorem q_X4_fewQuestions_76 (r34 : Int → ZS → Option (Int × ZS)) (f34 : Int32 → HS → Option (Int32 × HS)) (h34 : ∀ (x1 : Int32) (z1 : Int) (p1 : x1 = mJ z1) (ζ : ZS) (σ : HS), Rp ζ σ → Sm QI (r34 z1 ζ) (f34 x1 σ)) (r44 : Int → ZS → Option (Int × ZS)) (f44 : Int32 → HS → Option (Int32 × HS)) (h44 : ∀ (x2 : Int32) (z2 : Int) (p2 : x2 = mJ z2) (ζ : ZS) (σ : HS), Rp ζ σ → Sm QI (r44 z2 ζ) (f44 x2 σ)) (x1 : Int32) (z1 : Int) (p1 : x1 = mJ z1) (x2 : Int32) (z2 : Int) (p2 : x2 = mJ z2) (ζ : ZS) (σ : HS) (hr : Rp ζ σ) : Sm QI (g_X4_fewQuestions_76 r34 r44 z1 z2 ζ) (f_X4_fewQuestions_76 f34 f44 125 x1 x2 σ) := by
    unfold g_X4_fewQuestions_76 f_X4_fewQuestions_76
    exact q_X4_fewQuestions_77 _ _ h34 _ _ h44 _ _ p1 _ _ p2 _ _ li_0 _ _ hr
set_option maxHeartbeats 4000000 in
set_option maxRecDepth 100000 in
theorem q_X4_fewQuestions_44 (x1 : Int32) (z1 : Int) (p1 : x1 = mJ z1) (r34 : Int → ZS → Option (Int × ZS)) (f34 : Int32 → HS → Option (Int32 × HS)) (h34 : ∀ (x1 : Int32) (z1 : Int) (p1 : x1 = mJ z1) (ζ : ZS) (σ : HS), Rp ζ σ → Sm QI (r34 z1 ζ) (f34 x1 σ)) : ∀ (n : Nat) (x2 : Int32) (z2 : Int) (p2 : x2 = mJ z2) (ζ : ZS) (σ : HS), Rp ζ σ → Sm QI (g_X4_fewQuestions_44 z1 r34 n z2 ζ) (f_X4_fewQuestions_44 125 x1 f34 n x2 σ) := by
  intro n
  induction n with
  | zero =>
    intro x2 z2 p2 ζ σ hr
    exact sm_none
  | succ n ih =>
    intro x2 z2 p2 ζ σ hr
    rw [g_X4_fewQuestions_44.eq_2, f_X4_fewQuestions_44.eq_2]
    refine sm_ile li_8 p2 ?_ ?_
    · exact h34 _ _ (pa p1 li_1) _ _ hr
    · refine sm_rk (a := 30) (pts (rp_s hr) 125 0 30 rfl) kd_30 ?_
      refine sm_bind (q_X9_isIn _ _ p1 _ _ hr) (fun q1 w1 e1 => ?_)
      refine sm_ieq e1.1 li_0 ?_ ?_
      · exact q_X4_fewQuestions_76 _ _ h34 _ _ ih _ _ p1 _ _ p2 _ _ e1.2
      · refine sm_rk (a := 30) (pts (rp_s e1.2) 125 0 30 rfl) kd_30 ?_
        refine sm_bind (q_X9_isIn _ _ p2 _ _ e1.2) (fun q2 w2 e2 => ?_)
        refine sm_ieq e2.1 li_0 ?_ ?_
        · exact q_X4_fewQuestions_76 _ _ h34 _ _ ih _ _ p1 _ _ p2 _ _ e2.2
        · exact q_X4_fewQuestions_77 _ _ h34 _ _ ih _ _ p1 _ _ p2 _ _ li_1 _ _ e2.2
set_option maxHeartbeats 4000000 in
set_option maxRecDepth 100000 in
theorem q_X4_fewQuestions_34  : ∀ (n : Nat) (x1 : Int32) (z1 : Int) (p1 : x1 = mJ z1) (ζ : ZS) (σ : HS), Rp ζ σ → Sm QI (g_X4_fewQuestions_34 n z1 ζ) (f_X4_fewQuestions_34 125 n x1 σ) := by
  intro n
  induction n with
  | zero =>
    intro x1 z1 p1 ζ σ hr
    exact sm_none
  | succ n ih =>
    intro x1 z1 p1 ζ σ hr
    rw [g_X4_fewQuestions_34.eq_2, f_X4_fewQuestions_34.eq_2]
    refine sm_ile li_8 p1 ?_ ?_
    · exact sm_ri li_m1 hr
    · exact q_X4_fewQuestions_44 _ _ p1 _ _ ih FU _ _ (pa p1 li_1) _ _ hr
set_option maxHeartbeats 4000000 in
set_option maxRecDepth 100000 in
theorem q_X4_fewQuestions  (ζ : ZS) (σ : HS) (hr : Rp ζ σ) : Sm QI (g_X4_fewQuestions ζ) (f_X4_fewQuestions 125 σ) := by
    unfold g_X4_fewQuestions f_X4_fewQuestions
    refine sm_rk (a := 50) (pts (rp_s hr) 125 1 50 rfl) kd_50 ?_
    refine sm_rk (a := 68) (pts (rp_s hr) 50 2 68 rfl) kd_68 ?_
    refine sm_bind (q_X4_surelyBest _ kd_68 _ _ hr) (fun q1 w1 e1 => ?_)
    refine sm_ieq e1.1 li_0 ?_ ?_
    · refine sm_rk (a := 50) (pts (rp_s e1.2) 125 1 50 rfl) kd_50 ?_
      refine sm_rk (a := 68) (pts (rp_s e1.2) 50 2 68 rfl) kd_68 ?_
      refine sm_bind (q_X4_oneQuestionDoes _ kd_68 _ _ e1.2) (fun q2 w2 e2 => ?_)
      refine sm_ieq e2.1 li_0 ?_ ?_
      · exact q_X4_fewQuestions_34 FU _ _ li_0 _ _ e2.2
      · exact sm_ri li_1 e2.2
    · exact sm_ri li_0 e1.2
set_option maxHeartbeats 4000000 in
set_option maxRecDepth 100000 in
theorem q_X4_needToBeSure_163 (xs0 : Int32) (zs0 : Int) (ps0 : xs0 = mJ zs0) (ζ : ZS) (σ : HS) (hr : Rp ζ σ) : Sm QI (g_X4_needToBeSure_163 zs0 ζ) (f_X4_needToBeSure_163 xs0 σ) := by
    unfold g_X4_needToBeSure_163 f_X4_needToBeSure_163
    exact sm_ri ps0 hr
set_option maxHeartbeats 4000000 in
set_option maxRecDepth 100000 in
theorem q_X4_needToBeSure_131 (r5 : Int → Int → ZS → Option (Int × ZS)) (f5 : Int64 → Int32 → HS → Option (Int32 × HS)) (h5 : ∀ (x3 : Int64) (z3 : Int) (p3 : x3 = mL z3) (x5 : Int32) (z5 : Int) (p5 : x5 = mJ z5) (ζ : ZS) (σ : HS), Rp ζ σ → Sm QI (r5 z3 z5 ζ) (f5 x3 x5 σ)) (x1 : Int32) (z1 : Int) (p1 : x1 = mJ z1) (x2 : Int32) (z2 : Int) (p2 : x2 = mJ z2) (x3 : Int64) (z3 : Int) (p3 : x3 = mL z3) (x5 : Int32) (z5 : Int) (p5 : x5 = mJ z5) (ζ : ZS) (σ : HS) (hr : Rp ζ σ) : Sm QI (g_X4_needToBeSure_131 r5 z1 z2 z3 z5 ζ) (f_X4_needToBeSure_131 f5 125 x1 x2 x3 x5 σ) := by
    unfold g_X4_needToBeSure_131 f_X4_needToBeSure_131
    exact h5 _ _ p3 _ _ (pa p5 li_1) _ _ hr
set_option maxHeartbeats 4000000 in
set_option maxRecDepth 100000 in
theorem q_X4_needToBeSure_125 (r5 : Int → Int → ZS → Option (Int × ZS)) (f5 : Int64 → Int32 → HS → Option (Int32 × HS)) (h5 : ∀ (x3 : Int64) (z3 : Int) (p3 : x3 = mL z3) (x5 : Int32) (z5 : Int) (p5 : x5 = mJ z5) (ζ : ZS) (σ : HS), Rp ζ σ → Sm QI (r5 z3 z5 ζ) (f5 x3 x5 σ)) (r41 : Int → Int → ZS → Option (Int × ZS)) (f41 : Int64 → Int32 → HS → Option (Int32 × HS)) (h41 : ∀ (x3 : Int64) (z3 : Int) (p3 : x3 = mL z3) (x6 : Int32) (z6 : Int) (p6 : x6 = mJ z6) (ζ : ZS) (σ : HS), Rp ζ σ → Sm QI (r41 z3 z6 ζ) (f41 x3 x6 σ)) (x1 : Int32) (z1 : Int) (p1 : x1 = mJ z1) (x2 : Int32) (z2 : Int) (p2 : x2 = mJ z2) (x3 : Int64) (z3 : Int) (p3 : x3 = mL z3) (x5 : Int32) (z5 : Int) (p5 : x5 = mJ z5) (x6 : Int32) (z6 : Int) (p6 : x6 = mJ z6) (ζ : ZS) (σ : HS) (hr : Rp ζ σ) : Sm QI (g_X4_needToBeSure_125 r5 r41 z1 z2 z3 z5 z6 ζ) (f_X4_needToBeSure_125 f5 f41 125 x1 x2 x3 x5 x6 σ) := by
    unfold g_X4_needToBeSure_125 f_X4_needToBeSure_125
    exact h41 _ _ p3 _ _ (pa p6 li_1) _ _ hr
set_option maxHeartbeats 4000000 in
set_option maxRecDepth 100000 in
theorem q_X4_needToBeSure_105 (r5 : Int → Int → ZS → Option (Int × ZS)) (f5 : Int64 → Int32 → HS → Option (Int32 × HS)) (h5 : ∀ (x3 : Int64) (z3 : Int) (p3 : x3 = mL z3) (x5 : Int32) (z5 : Int) (p5 : x5 = mJ z5) (ζ : ZS) (σ : HS), Rp ζ σ → Sm QI (r5 z3 z5 ζ) (f5 x3 x5 σ)) (r41 : Int → Int → ZS → Option (Int × ZS)) (f41 : Int64 → Int32 → HS → Option (Int32 × HS)) (h41 : ∀ (x3 : Int64) (z3 : Int) (p3 : x3 = mL z3) (x6 : Int32) (z6 : Int) (p6 : x6 = mJ z6) (ζ : ZS) (σ : HS), Rp ζ σ → Sm QI (r41 z3 z6 ζ) (f41 x3 x6 σ)) (x1 : Int32) (z1 : Int) (p1 : x1 = mJ z1) (x2 : Int32) (z2 : Int) (p2 : x2 = mJ z2) (x3 : Int64) (z3 : Int) (p3 : x3 = mL z3) (x5 : Int32) (z5 : Int) (p5 : x5 = mJ z5) (x6 : Int32) (z6 : Int) (p6 : x6 = mJ z6) (x7 : Int64) (z7 : Int) (p7 : x7 = mL z7) (x9 : Int64) (z9 : Int) (p9 : x9 = mL z9) (ζ : ZS) (σ : HS) (hr : Rp ζ σ) : Sm QI (g_X4_needToBeSure_105 r5 r41 z1 z2 z3 z5 z6 z7 z9 ζ) (f_X4_needToBeSure_105 f5 f41 125 x1 x2 x3 x5 x6 x7 x9 σ) := by
    unfold g_X4_needToBeSure_105 f_X4_needToBeSure_105
    refine sm_jle lj_0 p7 ?_ ?_
    · exact q_X4_needToBeSure_125 _ _ h5 _ _ h41 _ _ p1 _ _ p2 _ _ p3 _ _ p5 _ _ p6 _ _ hr
    · refine sm_bind (q_J9_floorDiv_f86c9 _ _ p7 _ _ p9 _ _ hr) (fun q1 w1 e1 => ?_)
      refine sm_bind (q_J9_max_f86c9 _ _ p3 _ _ (pnJ e1.1) _ _ e1.2) (fun q2 w2 e2 => ?_)
      exact q_X4_needToBeSure_125 _ _ h5 _ _ h41 _ _ p1 _ _ p2 _ _ e2.1 _ _ p5 _ _ p6 _ _ e2.2
set_option maxHeartbeats 4000000 in
set_option maxRecDepth 100000 in
theorem q_X4_needToBeSure_41 (x1 : Int32) (z1 : Int) (p1 : x1 = mJ z1) (x2 : Int32) (z2 : Int) (p2 : x2 = mJ z2) (x5 : Int32) (z5 : Int) (p5 : x5 = mJ z5) (r5 : Int → Int → ZS → Option (Int × ZS)) (f5 : Int64 → Int32 → HS → Option (Int32 × HS)) (h5 : ∀ (x3 : Int64) (z3 : Int) (p3 : x3 = mL z3) (x5 : Int32) (z5 : Int) (p5 : x5 = mJ z5) (ζ : ZS) (σ : HS), Rp ζ σ → Sm QI (r5 z3 z5 ζ) (f5 x3 x5 σ)) : ∀ (n : Nat) (x3 : Int64) (z3 : Int) (p3 : x3 = mL z3) (x6 : Int32) (z6 : Int) (p6 : x6 = mJ z6) (ζ : ZS) (σ : HS), Rp ζ σ → Sm QI (g_X4_needToBeSure_41 z1 z2 z5 r5 n z3 z6 ζ) (f_X4_needToBeSure_41 125 x1 x2 x5 f5 n x3 x6 σ) := by
  intro n
  induction n with
  | zero =>
    intro x3 z3 p3 x6 z6 p6 ζ σ hr
    exact sm_none
  | succ n ih =>
    intro x3 z3 p3 x6 z6 p6 ζ σ hr
    rw [g_X4_needToBeSure_41.eq_2, f_X4_needToBeSure_41.eq_2]
    refine sm_rk (a := 50) (pts (rp_s hr) 125 1 50 rfl) kd_50 ?_
    refine sm_rk (a := 68) (pts (rp_s hr) 50 2 68 rfl) kd_68 ?_
    refine sm_ile (hr.1 68 5) p6 ?_ ?_
    · exact q_X4_needToBeSure_131 _ _ h5 _ _ p1 _ _ p2 _ _ p3 _ _ p5 _ _ hr
    · refine sm_rk (a := 50) (pts (rp_s hr) 125 1 50 rfl) kd_50 ?_
      refine sm_rk (a := 68) (pts (rp_s hr) 50 2 68 rfl) kd_68 ?_
      refine sm_rk (a := 135) (pts (rp_s hr) 125 3 135 rfl) kd_135 ?_
      refine sm_bind (q_X1_product _ kd_68 _ _ p6 _ kd_135 _ _ hr) (fun q1 w1 e1 => ?_)
      refine sm_rk (a := 50) (pts (rp_s e1.2) 125 1 50 rfl) kd_50 ?_
      refine sm_rk (a := 68) (pts (rp_s e1.2) 50 2 68 rfl) kd_68 ?_
      refine sm_bind (q_X1_weight _ kd_68 _ _ p6 _ _ p2 _ _ e1.2) (fun q2 w2 e2 => ?_)
      refine sm_jle lj_0 e1.1 ?_ ?_
      · exact q_X4_needToBeSure_105 _ _ h5 _ _ ih _ _ p1 _ _ p2 _ _ p3 _ _ p5 _ _ p6 _ _ e1.1 _ _ e2.1 _ _ e2.2
      · refine sm_jlt lj_0 e2.1 ?_ ?_
        · exact q_X4_needToBeSure_105 _ _ h5 _ _ ih _ _ p1 _ _ p2 _ _ p3 _ _ p5 _ _ p6 _ _ e1.1 _ _ e2.1 _ _ e2.2
        · exact sm_ri li_m1 e2.2
set_option maxHeartbeats 4000000 in
set_option maxRecDepth 100000 in
theorem q_X4_needToBeSure_5 (x1 : Int32) (z1 : Int) (p1 : x1 = mJ z1) (x2 : Int32) (z2 : Int) (p2 : x2 = mJ z2) : ∀ (n : Nat) (x3 : Int64) (z3 : Int) (p3 : x3 = mL z3) (x5 : Int32) (z5 : Int) (p5 : x5 = mJ z5) (ζ : ZS) (σ : HS), Rp ζ σ → Sm QI (g_X4_needToBeSure_5 z1 z2 n z3 z5 ζ) (f_X4_needToBeSure_5 125 x1 x2 n x3 x5 σ) := by
  intro n
  induction n with
  | zero =>
    intro x3 z3 p3 x5 z5 p5 ζ σ hr
    exact sm_none
  | succ n ih =>
    intro x3 z3 p3 x5 z5 p5 ζ σ hr
    rw [g_X4_needToBeSure_5.eq_2, f_X4_needToBeSure_5.eq_2]
    refine sm_ile li_8 p5 ?_ ?_
    · refine sm_rk (a := 30) (pts (rp_s hr) 125 0 30 rfl) kd_30 ?_
      refine sm_rk (a := 40) (pts (rp_s hr) 30 1 40 rfl) kd_40 ?_
      refine sm_ck p1 ln_40 (fun b101 => ?_)
      refine sm_rk (aa18 hr kd_40 ln_40 p1 b101) (ak18 kd_40 ln_40 b101) ?_
      refine sm_ck p2 (al18 kd_40 ln_40 b101) (fun b102 => ?_)
      refine sm_gw (fun b103 => ?_)
      refine sm_jlt (pi2l (ps li_100 (rdI (a := 40 + 1 + Int.toNat z1) hr p2 b102 (Nat.le_of_ble_eq_true rfl))) b103) p3 ?_ ?_
      · exact q_X4_needToBeSure_163 _ _ li_m1 _ _ hr
      · exact q_X4_needToBeSure_163 _ _ (pl2i p3) _ _ hr
    · refine sm_rk (a := 30) (pts (rp_s hr) 125 0 30 rfl) kd_30 ?_
      refine sm_bind (q_X9_isIn _ _ p5 _ _ hr) (fun q4 w4 e4 => ?_)
      refine sm_ieq e4.1 li_0 ?_ ?_
      · exact q_X4_needToBeSure_131 _ _ ih _ _ p1 _ _ p2 _ _ p3 _ _ p5 _ _ e4.2
      · refine sm_rk (a := 30) (pts (rp_s e4.2) 125 0 30 rfl) kd_30 ?_
        refine sm_rk (a := 135) (pts (rp_s e4.2) 125 3 135 rfl) kd_135 ?_
        refine sm_bind (q_X9_fillLead _ _ p1 _ _ p5 _ kd_135 _ _ e4.2) (fun q5 w5 e5 => ?_)
        exact q_X4_needToBeSure_41 _ _ p1 _ _ p2 _ _ p5 _ _ ih FU _ _ p3 _ _ li_0 _ _ e5
set_option maxHeartbeats 4000000 in
set_option maxRecDepth 100000 in
theorem q_X4_needToBeSure (x1 : Int32) (z1 : Int) (p1 : x1 = mJ z1) (x2 : Int32) (z2 : Int) (p2 : x2 = mJ z2) (ζ : ZS) (σ : HS) (hr : Rp ζ σ) : Sm QI (g_X4_needToBeSure z1 z2 ζ) (f_X4_needToBeSure 125 x1 x2 σ) := by
    unfold g_X4_needToBeSure f_X4_needToBeSure
    exact q_X4_needToBeSure_5 _ _ p1 _ _ p2 FU _ _ lj_0 _ _ li_0 _ _ hr
set_option maxHeartbeats 4000000 in
set_option maxRecDepth 100000 in
theorem q_X4_needToMaybe_89 (x3 : Int32) (z3 : Int) (p3 : x3 = mJ z3) (ζ : ZS) (σ : HS) (hr : Rp ζ σ) : Sm QI (g_X4_needToMaybe_89 z3 ζ) (f_X4_needToMaybe_89 x3 σ) := by
    unfold g_X4_needToMaybe_89 f_X4_needToMaybe_89
    exact sm_ri p3 hr
set_option maxHeartbeats 4000000 in
set_option maxRecDepth 100000 in
theorem q_X4_needToMaybe_83 (r36 : Int → Int → Int → ZS → Option (Int × ZS)) (f36 : Int32 → Int32 → Int32 → HS → Option (Int32 × HS)) (h36 : ∀ (x3 : Int32) (z3 : Int) (p3 : x3 = mJ z3) (x4 : Int32) (z4 : Int) (p4 : x4 = mJ z4) (x5 : Int32) (z5 : Int) (p5 : x5 = mJ z5) (ζ : ZS) (σ : HS), Rp ζ σ → Sm QI (r36 z3 z4 z5 ζ) (f36 x3 x4 x5 σ)) (x1 : Int32) (z1 : Int) (p1 : x1 = mJ z1) (x2 : Int32) (z2 : Int) (p2 : x2 = mJ z2) (x3 : Int32) (z3 : Int) (p3 : x3 = mJ z3) (x4 : Int32) (z4 : Int) (p4 : x4 = mJ z4) (x5 : Int32) (z5 : Int) (p5 : x5 = mJ z5) (ζ : ZS) (σ : HS) (hr : Rp ζ σ) : Sm QI (g_X4_needToMaybe_83 r36 z1 z2 z3 z4 z5 ζ) (f_X4_needToMaybe_83 f36 125 x1 x2 x3 x4 x5 σ) := by
    unfold g_X4_needToMaybe_83 f_X4_needToMaybe_83
    exact h36 _ _ p3 _ _ p4 _ _ (pa p5 li_1) _ _ hr
set_option maxHeartbeats 4000000 in
set_option maxRecDepth 100000 in
theorem q_X4_needToMaybe_36 (x1 : Int32) (z1 : Int) (p1 : x1 = mJ z1) (x2 : Int32) (z2 : Int) (p2 : x2 = mJ z2) : ∀ (n : Nat) (x3 : Int32) (z3 : Int) (p3 : x3 = mJ z3) (x4 : Int32) (z4 : Int) (p4 : x4 = mJ z4) (x5 : Int32) (z5 : Int) (p5 : x5 = mJ z5) (ζ : ZS) (σ : HS), Rp ζ σ → Sm QI (g_X4_needToMaybe_36 z1 z2 n z3 z4 z5 ζ) (f_X4_needToMaybe_36 125 x1 x2 n x3 x4 x5 σ) := by
  intro n
  induction n with
  | zero =>
    intro x3 z3 p3 x4 z4 p4 x5 z5 p5 ζ σ hr
    exact sm_none
  | succ n ih =>
    intro x3 z3 p3 x4 z4 p4 x5 z5 p5 ζ σ hr
    rw [g_X4_needToMaybe_36.eq_2, f_X4_needToMaybe_36.eq_2]
    refine sm_ilt li_100 p5 ?_ ?_
    · exact q_X4_needToMaybe_89 _ _ p3 _ _ hr
    · refine sm_ile p3 p4 ?_ ?_
      · exact q_X4_needToMaybe_89 _ _ p3 _ _ hr
      · refine sm_gd (fun b101 => ?_)
        refine sm_bind (q_X4_whereBest _ _ p1 _ _ p2 _ _ (pdiv (pa p4 p3) li_2 b101) _ _ hr) (fun q2 w2 e2 => ?_)
        refine sm_rkd (congrArg some e2.1) (fun c103 kc103 => ?_)
        refine sm_ile (e2.2.1 c103 5) li_0 ?_ ?_
        · exact q_X4_needToMaybe_83 _ _ ih _ _ p1 _ _ p2 _ _ p3 _ _ (pa (pdiv (pa p4 p3) li_2 b101) li_1) _ _ p5 _ _ e2.2
        · exact q_X4_needToMaybe_83 _ _ ih _ _ p1 _ _ p2 _ _ (pdiv (pa p4 p3) li_2 b101) _ _ p4 _ _ p5 _ _ e2.2
set_option maxHeartbeats 4000000 in
set_option maxRecDepth 100000 in
theorem q_X4_needToMaybe (x1 : Int32) (z1 : Int) (p1 : x1 = mJ z1) (x2 : Int32) (z2 : Int) (p2 : x2 = mJ z2) (ζ : ZS) (σ : HS) (hr : Rp ζ σ) : Sm QI (g_X4_needToMaybe z1 z2 ζ) (f_X4_needToMaybe 125 x1 x2 σ) := by
    unfold g_X4_needToMaybe f_X4_needToMaybe
    refine sm_rk (a := 30) (pts (rp_s hr) 125 0 30 rfl) kd_30 ?_
    refine sm_rk (a := 40) (pts (rp_s hr) 30 1 40 rfl) kd_40 ?_
    refine sm_ck p1 ln_40 (fun b101 => ?_)
    refine sm_rk (aa18 hr kd_40 ln_40 p1 b101) (ak18 kd_40 ln_40 b101) ?_
    refine sm_ck p2 (al18 kd_40 ln_40 b101) (fun b102 => ?_)
    refine sm_bind (q_X4_whereBest _ _ p1 _ _ p2 _ _ (ps li_100 (rdI (a := 40 + 1 + Int.toNat z1) hr p2 b102 (Nat.le_of_ble_eq_true rfl))) _ _ hr) (fun q3 w3 e3 => ?_)
    refine sm_rkd (congrArg some e3.1) (fun c104 kc104 => ?_)
    refine sm_ieq (e3.2.1 c104 5) li_0 ?_ ?_
    · exact sm_ri li_m1 e3.2
    · exact q_X4_needToMaybe_36 _ _ p1 _ _ p2 FU _ _ (ps li_100 (rdI (a := 40 + 1 + Int.toNat z1) hr p2 b102 (Nat.le_of_ble_eq_true rfl))) _ _ li_0 _ _ li_0 _ _ e3.2
set_option maxHeartbeats 4000000 in
set_option maxRecDepth 100000 in
theorem q_X4_leastStillBetter_101 (r19 : Int → Int → ZS → Option (Int × ZS)) (f19 : Int64 → Int32 → HS → Option (Int32 × HS)) (h19 : ∀ (x4 : Int64) (z4 : Int) (p4 : x4 = mL z4) (x6 : Int32) (z6 : Int) (p6 : x6 = mJ z6) (ζ : ZS) (σ : HS), Rp ζ σ → Sm QI (r19 z4 z6 ζ) (f19 x4 x6 σ)) (x1 : Int32) (z1 : Int) (p1 : x1 = mJ z1) (x3 : Int32) (z3 : Int) (p3 : x3 = mJ z3) (x4 : Int64) (z4 : Int) (p4 : x4 = mL z4) (x6 : Int32) (z6 : Int) (p6 : x6 = mJ z6) (ζ : ZS) (σ : HS) (hr : Rp ζ σ) : Sm QI (g_X4_leastStillBetter_101 r19 z1 z3 z4 z6 ζ) (f_X4_leastStillBetter_101 f19 125 x1 x3 x4 x6 σ) := by
    unfold g_X4_leastStillBetter_101 f_X4_leastStillBetter_101
    exact h19 _ _ p4 _ _ (pa p6 li_1) _ _ hr
set_option maxHeartbeats 4000000 in
set_option maxRecDepth 100000 in
theorem q_X4_leastStillBetter_19 (x1 : Int32) (z1 : Int) (p1 : x1 = mJ z1) (x3 : Int32) (z3 : Int) (p3 : x3 = mJ z3) : ∀ (n : Nat) (x4 : Int64) (z4 : Int) (p4 : x4 = mL z4) (x6 : Int32) (z6 : Int) (p6 : x6 = mJ z6) (ζ : ZS) (σ : HS), Rp ζ σ → Sm QI (g_X4_leastStillBetter_19 z1 z3 n z4 z6 ζ) (f_X4_leastStillBetter_19 125 x1 x3 n x4 x6 σ) := by
  intro n
  induction n with
  | zero =>
    intro x4 z4 p4 x6 z6 p6 ζ σ hr
    exact sm_none
  | succ n ih =>
    intro x4 z4 p4 x6 z6 p6 ζ σ hr
    rw [g_X4_leastStillBetter_19.eq_2, f_X4_leastStillBetter_19.eq_2]
    refine sm_rk (a := 50) (pts (rp_s hr) 125 1 50 rfl) kd_50 ?_
    refine sm_rk (a := 68) (pts (rp_s hr) 50 2 68 rfl) kd_68 ?_
    refine sm_ile (hr.1 68 5) p6 ?_ ?_
    · exact sm_ri (pl2i p4) hr
    · refine sm_rk (a := 50) (pts (rp_s hr) 125 1 50 rfl) kd_50 ?_
      refine sm_rk (a := 68) (pts (rp_s hr) 50 2 68 rfl) kd_68 ?_
      refine sm_bind (q_X1_weight _ kd_68 _ _ p6 _ _ p3 _ _ hr) (fun q1 w1 e1 => ?_)
      refine sm_jle e1.1 lj_0 ?_ ?_
      · exact q_X4_leastStillBetter_101 _ _ ih _ _ p1 _ _ p3 _ _ p4 _ _ p6 _ _ e1.2
      · refine sm_rk (a := 50) (pts (rp_s e1.2) 125 1 50 rfl) kd_50 ?_
        refine sm_rk (a := 68) (pts (rp_s e1.2) 50 2 68 rfl) kd_68 ?_
        refine sm_rk (a := 135) (pts (rp_s e1.2) 125 3 135 rfl) kd_135 ?_
        refine sm_bind (q_X1_product _ kd_68 _ _ p6 _ kd_135 _ _ e1.2) (fun q2 w2 e2 => ?_)
        refine sm_bind (q_J9_floorDiv_f86c9 _ _ e2.1 _ _ e1.1 _ _ e2.2) (fun q3 w3 e3 => ?_)
        refine sm_rk (a := 30) (pts (rp_s e3.2) 125 0 30 rfl) kd_30 ?_
        refine sm_rk (a := 40) (pts (rp_s e3.2) 30 1 40 rfl) kd_40 ?_
        refine sm_ck p1 ln_40 (fun b104 => ?_)
        refine sm_rk (aa18 e3.2 kd_40 ln_40 p1 b104) (ak18 kd_40 ln_40 b104) ?_
        refine sm_ck p3 (al18 kd_40 ln_40 b104) (fun b105 => ?_)
        refine sm_gw (fun b106 => ?_)
        refine sm_bind (q_J9_max_f86c9 _ _ p4 _ _ (psJ (pi2l (rdI (a := 40 + 1 + Int.toNat z1) e3.2 p3 b105 (Nat.le_of_ble_eq_true rfl)) b106) e3.1) _ _ e3.2) (fun q7 w7 e7 => ?_)
        exact q_X4_leastStillBetter_101 _ _ ih _ _ p1 _ _ p3 _ _ e7.1 _ _ p6 _ _ e7.2
set_option maxHeartbeats 4000000 in
set_option maxRecDepth 100000 in
theorem q_X4_leastStillBetter (x1 : Int32) (z1 : Int) (p1 : x1 = mJ z1) (x2 : Int32) (z2 : Int) (p2 : x2 = mJ z2) (x3 : Int32) (z3 : Int) (p3 : x3 = mJ z3) (ζ : ZS) (σ : HS) (hr : Rp ζ σ) : Sm QI (g_X4_leastStillBetter z1 z2 z3 ζ) (f_X4_leastStillBetter 125 x1 x2 x3 σ) := by
    unfold g_X4_leastStillBetter f_X4_leastStillBetter
    refine sm_rk (a := 30) (pts (rp_s hr) 125 0 30 rfl) kd_30 ?_
    refine sm_rk (a := 135) (pts (rp_s hr) 125 3 135 rfl) kd_135 ?_
    refine sm_bind (q_X9_fillLead _ _ p1 _ _ p2 _ kd_135 _ _ hr) (fun q1 w1 e1 => ?_)
    exact q_X4_leastStillBetter_19 _ _ p1 _ _ p3 FU _ _ lj_0 _ _ li_0 _ _ e1
