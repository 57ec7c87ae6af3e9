set_option maxHeartbeats 4000000 in
set_option maxRecDepth 100000 in
theorem q_X12_least_81 (r24 : Int → Int → Int → Int → ZS → Option (Int × ZS)) (f24 : Int32 → Int64 → Int64 → Int32 → HS → Option (Int32 × HS)) (h24 : ∀ (x1 : Int32) (z1 : Int) (p1 : x1 = mJ z1) (x2 : Int64) (z2 : Int) (p2 : x2 = mL z2) (x4 : Int64) (z4 : Int) (p4 : x4 = mL z4) (x6 : Int32) (z6 : Int) (p6 : x6 = mJ z6) (ζ : ZS) (σ : HS), Rp ζ σ → Sm QI (r24 z1 z2 z4 z6 ζ) (f24 x1 x2 x4 x6 σ)) (x1 : Int32) (z1 : Int) (p1 : x1 = mJ z1) (x2 : Int64) (z2 : Int) (p2 : x2 = mL z2) (x4 : Int64) (z4 : Int) (p4 : x4 = mL z4) (x6 : Int32) (z6 : Int) (p6 : x6 = mJ z6) (ζ : ZS) (σ : HS) (hr : Rp ζ σ) : Sm QI (g_X12_least_81 r24 z1 z2 z4 z6 ζ) (f_X12_least_81 f24 0 x1 x2 x4 x6 σ) := by
    unfold g_X12_least_81 f_X12_least_81
    exact h24 _ _ p1 _ _ p2 _ _ p4 _ _ (pa p6 li_1) _ _ hr
set_option maxHeartbeats 4000000 in
set_option maxRecDepth 100000 in
theorem q_X12_least_67 (r24 : Int → Int → Int → Int → ZS → Option (Int × ZS)) (f24 : Int32 → Int64 → Int64 → Int32 → HS → Option (Int32 × HS)) (h24 : ∀ (x1 : Int32) (z1 : Int) (p1 : x1 = mJ z1) (x2 : Int64) (z2 : Int) (p2 : x2 = mL z2) (x4 : Int64) (z4 : Int) (p4 : x4 = mL z4) (x6 : Int32) (z6 : Int) (p6 : x6 = mJ z6) (ζ : ZS) (σ : HS), Rp ζ σ → Sm QI (r24 z1 z2 z4 z6 ζ) (f24 x1 x2 x4 x6 σ)) (x6 : Int32) (z6 : Int) (p6 : x6 = mJ z6) (ζ : ZS) (σ : HS) (hr : Rp ζ σ) : Sm QI (g_X12_least_67 r24 z6 ζ) (f_X12_least_67 f24 0 x6 σ) := by
    unfold g_X12_least_67 f_X12_least_67
    exact q_X12_least_81 _ _ h24 _ _ p6 _ _ (hr.2.1 0 37) _ _ (hr.2.1 0 38) _ _ p6 _ _ hr
set_option maxHeartbeats 4000000 in
set_option maxRecDepth 100000 in
theorem q_X12_least_24  : ∀ (n : Nat) (x1 : Int32) (z1 : Int) (p1 : x1 = mJ z1) (x2 : Int64) (z2 : Int) (p2 : x2 = mL z2) (x4 : Int64) (z4 : Int) (p4 : x4 = mL z4) (x6 : Int32) (z6 : Int) (p6 : x6 = mJ z6) (ζ : ZS) (σ : HS), Rp ζ σ → Sm QI (g_X12_least_24 n z1 z2 z4 z6 ζ) (f_X12_least_24 0 n x1 x2 x4 x6 σ) := by
  intro n
  induction n with
  | zero =>
    intro x1 z1 p1 x2 z2 p2 x4 z4 p4 x6 z6 p6 ζ σ hr
    exact sm_none
  | succ n ih =>
    intro x1 z1 p1 x2 z2 p2 x4 z4 p4 x6 z6 p6 ζ σ hr
    rw [g_X12_least_24.eq_2, f_X12_least_24.eq_2]
    refine sm_ile li_8 p6 ?_ ?_
    · exact sm_ri p1 hr
    · refine sm_bind (q_X12_isIn _ _ p6 _ _ hr) (fun q1 w1 e1 => ?_)
      refine sm_ieq e1.1 li_0 ?_ ?_
      · exact q_X12_least_81 _ _ ih _ _ p1 _ _ p2 _ _ p4 _ _ p6 _ _ e1.2
      · refine sm_bind (q_X12_findRegret _ _ p6 _ _ e1.2) (fun q2 w2 e2 => ?_)
        refine sm_ilt p1 li_0 ?_ ?_
        · exact q_X12_least_67 _ _ ih _ _ p6 _ _ e2
        · refine sm_jle (pmJ p2 (e2.2.1 0 38)) (pmJ (e2.2.1 0 37) p4) ?_ ?_
          · exact q_X12_least_81 _ _ ih _ _ p1 _ _ p2 _ _ p4 _ _ p6 _ _ e2
          · exact q_X12_least_67 _ _ ih _ _ p6 _ _ e2
set_option maxHeartbeats 4000000 in
set_option maxRecDepth 100000 in
theorem q_X12_least  (ζ : ZS) (σ : HS) (hr : Rp ζ σ) : Sm QI (g_X12_least ζ) (f_X12_least 0 σ) := by
    unfold g_X12_least f_X12_least
    have hr101 := rwI (a := 0) (k := 0) hr li_0
    refine sm_bind (q_X12_findNow _ _ hr101) (fun q2 w2 e2 => ?_)
    refine sm_ieq e2.1 li_0 ?_ ?_
    · exact sm_ri li_m1 e2.2
    · exact q_X12_least_24 FU _ _ li_m1 _ _ lj_0 _ _ lj_1 _ _ li_0 _ _ e2.2
set_option maxHeartbeats 4000000 in
set_option maxRecDepth 100000 in
theorem q_X12_best_21  (ζ : ZS) (σ : HS) (hr : Rp ζ σ) : Sm QI (g_X12_best_21 ζ) (f_X12_best_21 σ) := by
    unfold g_X12_best_21 f_X12_best_21
    exact sm_ri li_m1 hr
set_option maxHeartbeats 4000000 in
set_option maxRecDepth 100000 in
theorem q_X12_best_40 (xs0 : Int32) (zs0 : Int) (ps0 : xs0 = mJ zs0) (ζ : ZS) (σ : HS) (hr : Rp ζ σ) : Sm QI (g_X12_best_40 zs0 ζ) (f_X12_best_40 xs0 σ) := by
    unfold g_X12_best_40 f_X12_best_40
    exact sm_ri ps0 hr
set_option maxHeartbeats 4000000 in
set_option maxRecDepth 100000 in
theorem q_X12_best (x1 : Int32) (z1 : Int) (p1 : x1 = mJ z1) (ζ : ZS) (σ : HS) (hr : Rp ζ σ) : Sm QI (g_X12_best z1 ζ) (f_X12_best 0 x1 σ) := by
    unfold g_X12_best f_X12_best
    have hr101 := rwI (a := 0) (k := 0) hr li_0
    refine sm_bind (q_X12_within _ _ p1 _ _ li_0 _ _ li_1 _ _ hr101) (fun q2 w2 e2 => ?_)
    refine sm_ieq e2.1 li_0 ?_ ?_
    · exact q_X12_best_21 _ _ e2.2
    · refine sm_bind (q_X12_findNow _ _ e2.2) (fun q3 w3 e3 => ?_)
      refine sm_ieq e3.1 li_0 ?_ ?_
      · exact q_X12_best_21 _ _ e3.2
      · refine sm_ieq p1 li_0 ?_ ?_
        · refine sm_bind (q_X12_mayBest _ _ li_0 _ _ e3.2) (fun q5 w5 e5 => ?_)
          exact q_X12_best_40 _ _ e5.1 _ _ e5.2
        · refine sm_bind (q_X12_sureBest _ _ li_0 _ _ e3.2) (fun q4 w4 e4 => ?_)
          exact q_X12_best_40 _ _ e4.1 _ _ e4.2
set_option maxHeartbeats 4000000 in
set_option maxRecDepth 100000 in
theorem q_X12_behind_32 (xs0 : Int32) (zs0 : Int) (ps0 : xs0 = mJ zs0) (ζ : ZS) (σ : HS) (hr : Rp ζ σ) : Sm QI (g_X12_behind_32 zs0 ζ) (f_X12_behind_32 0 xs0 σ) := by
    unfold g_X12_behind_32 f_X12_behind_32
    refine sm_bind (q_X12_backTo _ _ li_0 _ _ hr) (fun q1 w1 e1 => ?_)
    exact sm_ri ps0 e1
set_option maxHeartbeats 4000000 in
set_option maxRecDepth 100000 in
theorem q_X12_behind (x1 : Int32) (z1 : Int) (p1 : x1 = mJ z1) (x2 : Int32) (z2 : Int) (p2 : x2 = mJ z2) (ζ : ZS) (σ : HS) (hr : Rp ζ σ) : Sm QI (g_X12_behind z1 z2 ζ) (f_X12_behind 0 x1 x2 σ) := by
    unfold g_X12_behind f_X12_behind
    refine sm_bind (q_X12_addsAbove _ _ p1 _ _ p2 _ _ hr) (fun q1 w1 e1 => ?_)
    refine sm_bind (q_X12_findMore _ _ li_1 _ _ e1) (fun q2 w2 e2 => ?_)
    refine sm_rk (a := 20) (pts (rp_s e2) 0 28 20 rfl) kd_20 ?_
    refine sm_ck li_1 ln_20 (fun b103 => ?_)
    refine sm_ieq (rdI (a := 20) e2 li_1 b103 (Nat.le_of_ble_eq_true rfl)) li_0 ?_ ?_
    · exact q_X12_behind_32 _ _ li_0 _ _ e2
    · refine sm_bind (q_X12_mayBest _ _ li_1 _ _ e2) (fun q4 w4 e4 => ?_)
      refine sm_bind (q_X12_bits _ _ e4.1 _ _ e4.2) (fun q5 w5 e5 => ?_)
      exact q_X12_behind_32 _ _ e5.1 _ _ e5.2
set_option maxHeartbeats 4000000 in
set_option maxRecDepth 100000 in
theorem q_X12_next_21  (ζ : ZS) (σ : HS) (hr : Rp ζ σ) : Sm QI (g_X12_next_21 ζ) (f_X12_next_21 σ) := by
    unfold g_X12_next_21 f_X12_next_21
    exact sm_ri li_m1 hr
set_option maxHeartbeats 4000000 in
set_option maxRecDepth 100000 in
theorem q_X12_next_163 (xs0 : Int32) (zs0 : Int) (ps0 : xs0 = mJ zs0) (ζ : ZS) (σ : HS) (hr : Rp ζ σ) : Sm QI (g_X12_next_163 zs0 ζ) (f_X12_next_163 xs0 σ) := by
    unfold g_X12_next_163 f_X12_next_163
    exact sm_ri ps0 hr
set_option maxHeartbeats 4000000 in
set_option maxRecDepth 100000 in
theorem q_X12_next_124 (r34 : Int → Int → Int → Int → ZS → Option (Int × ZS)) (f34 : Int32 → Int32 → Int32 → Int32 → HS → Option (Int32 × HS)) (h34 : ∀ (x2 : Int32) (z2 : Int) (p2 : x2 = mJ z2) (x3 : Int32) (z3 : Int) (p3 : x3 = mJ z3) (x4 : Int32) (z4 : Int) (p4 : x4 = mJ z4) (x5 : Int32) (z5 : Int) (p5 : x5 = mJ z5) (ζ : ZS) (σ : HS), Rp ζ σ → Sm QI (r34 z2 z3 z4 z5 ζ) (f34 x2 x3 x4 x5 σ)) (r47 : Int → Int → Int → Int → ZS → Option (Int × ZS)) (f47 : Int32 → Int32 → Int32 → Int32 → HS → Option (Int32 × HS)) (h47 : ∀ (x2 : Int32) (z2 : Int) (p2 : x2 = mJ z2) (x3 : Int32) (z3 : Int) (p3 : x3 = mJ z3) (x4 : Int32) (z4 : Int) (p4 : x4 = mJ z4) (x6 : Int32) (z6 : Int) (p6 : x6 = mJ z6) (ζ : ZS) (σ : HS), Rp ζ σ → Sm QI (r47 z2 z3 z4 z6 ζ) (f47 x2 x3 x4 x6 σ)) (x1 : Int32) (z1 : Int) (p1 : x1 = mJ z1) (x2 : Int32) (z2 : Int) (p2 : x2 = mJ z2) (x3 : Int32) (z3 : Int) (p3 : x3 = mJ z3) (x4 : Int32) (z4 : Int) (p4 : x4 = mJ z4) (x5 : Int32) (z5 : Int) (p5 : x5 = mJ z5) (x6 : Int32) (z6 : Int) (p6 : x6 = mJ z6) (ζ : ZS) (σ : HS) (hr : Rp ζ σ) : Sm QI (g_X12_next_124 r34 r47 z1 z2 z3 z4 z5 z6 ζ) (f_X12_next_124 f34 f47 0 x1 x2 x3 x4 x5 x6 σ) := by
    unfold g_X12_next_124 f_X12_next_124
    exact h47 _ _ p2 _ _ p3 _ _ p4 _ _ (pa p6 li_1) _ _ hr
set_option maxHeartbeats 4000000 in
set_option maxRecDepth 100000 in
theorem q_X12_next_106 (r34 : Int → Int → Int → Int → ZS → Option (Int × ZS)) (f34 : Int32 → Int32 → Int32 → Int32 → HS → Option (Int32 × HS)) (h34 : ∀ (x2 : Int32) (z2 : Int) (p2 : x2 = mJ z2) (x3 : Int32) (z3 : Int) (p3 : x3 = mJ z3) (x4 : Int32) (z4 : Int) (p4 : x4 = mJ z4) (x5 : Int32) (z5 : Int) (p5 : x5 = mJ z5) (ζ : ZS) (σ : HS), Rp ζ σ → Sm QI (r34 z2 z3 z4 z5 ζ) (f34 x2 x3 x4 x5 σ)) (r47 : Int → Int → Int → Int → ZS → Option (Int × ZS)) (f47 : Int32 → Int32 → Int32 → Int32 → HS → Option (Int32 × HS)) (h47 : ∀ (x2 : Int32) (z2 : Int) (p2 : x2 = mJ z2) (x3 : Int32) (z3 : Int) (p3 : x3 = mJ z3) (x4 : Int32) (z4 : Int) (p4 : x4 = mJ z4) (x6 : Int32) (z6 : Int) (p6 : x6 = mJ z6) (ζ : ZS) (σ : HS), Rp ζ σ → Sm QI (r47 z2 z3 z4 z6 ζ) (f47 x2 x3 x4 x6 σ)) (x1 : Int32) (z1 : Int) (p1 : x1 = mJ z1) (x2 : Int32) (z2 : Int) (p2 : x2 = mJ z2) (x3 : Int32) (z3 : Int) (p3 : x3 = mJ z3) (x4 : Int32) (z4 : Int) (p4 : x4 = mJ z4) (x5 : Int32) (z5 : Int) (p5 : x5 = mJ z5) (x6 : Int32) (z6 : Int) (p6 : x6 = mJ z6) (xs0 : Int32) (zs0 : Int) (ps0 : xs0 = mJ zs0) (ζ : ZS) (σ : HS) (hr : Rp ζ σ) : Sm QI (g_X12_next_106 r34 r47 z1 z2 z3 z4 z5 z6 zs0 ζ) (f_X12_next_106 f34 f47 0 x1 x2 x3 x4 x5 x6 xs0 σ) := by
    unfold g_X12_next_106 f_X12_next_106
    refine sm_ile p2 ps0 ?_ ?_
    · exact q_X12_next_124 _ _ h34 _ _ h47 _ _ p1 _ _ p2 _ _ p3 _ _ p4 _ _ p5 _ _ p6 _ _ hr
    · exact q_X12_next_124 _ _ h34 _ _ h47 _ _ p1 _ _ ps0 _ _ p5 _ _ p6 _ _ p5 _ _ p6 _ _ hr
set_option maxHeartbeats 4000000 in
set_option maxRecDepth 100000 in
theorem q_X12_next_47 (x1 : Int32) (z1 : Int) (p1 : x1 = mJ z1) (x5 : Int32) (z5 : Int) (p5 : x5 = mJ z5) (r34 : Int → Int → Int → Int → ZS → Option (Int × ZS)) (f34 : Int32 → Int32 → Int32 → Int32 → HS → Option (Int32 × HS)) (h34 : ∀ (x2 : Int32) (z2 : Int) (p2 : x2 = mJ z2) (x3 : Int32) (z3 : Int) (p3 : x3 = mJ z3) (x4 : Int32) (z4 : Int) (p4 : x4 = mJ z4) (x5 : Int32) (z5 : Int) (p5 : x5 = mJ z5) (ζ : ZS) (σ : HS), Rp ζ σ → Sm QI (r34 z2 z3 z4 z5 ζ) (f34 x2 x3 x4 x5 σ)) : ∀ (n : Nat) (x2 : Int32) (z2 : Int) (p2 : x2 = mJ z2) (x3 : Int32) (z3 : Int) (p3 : x3 = mJ z3) (x4 : Int32) (z4 : Int) (p4 : x4 = mJ z4) (x6 : Int32) (z6 : Int) (p6 : x6 = mJ z6) (ζ : ZS) (σ : HS), Rp ζ σ → Sm QI (g_X12_next_47 z1 z5 r34 n z2 z3 z4 z6 ζ) (f_X12_next_47 0 x1 x5 f34 n x2 x3 x4 x6 σ) := by
  intro n
  induction n with
  | zero =>
    intro x2 z2 p2 x3 z3 p3 x4 z4 p4 x6 z6 p6 ζ σ hr
    exact sm_none
  | succ n ih =>
    intro x2 z2 p2 x3 z3 p3 x4 z4 p4 x6 z6 p6 ζ σ hr
    rw [g_X12_next_47.eq_2, f_X12_next_47.eq_2]
    refine sm_ile li_8 p6 ?_ ?_
    · exact h34 _ _ p2 _ _ p3 _ _ p4 _ _ (pa p5 li_1) _ _ hr
    · refine sm_bind (q_X12_isIn _ _ p5 _ _ hr) (fun q1 w1 e1 => ?_)
      refine sm_ieq e1.1 li_0 ?_ ?_
      · exact q_X12_next_124 _ _ h34 _ _ ih _ _ p1 _ _ p2 _ _ p3 _ _ p4 _ _ p5 _ _ p6 _ _ e1.2
      · refine sm_bind (q_X12_isIn _ _ p6 _ _ e1.2) (fun q2 w2 e2 => ?_)
        refine sm_ieq e2.1 li_0 ?_ ?_
        · exact q_X12_next_124 _ _ h34 _ _ ih _ _ p1 _ _ p2 _ _ p3 _ _ p4 _ _ p5 _ _ p6 _ _ e2.2
        · refine sm_bind (q_X12_behind _ _ p5 _ _ p6 _ _ e2.2) (fun q3 w3 e3 => ?_)
          refine sm_bind (q_X12_behind _ _ p6 _ _ p5 _ _ e3.2) (fun q4 w4 e4 => ?_)
          refine sm_ile e3.1 e4.1 ?_ ?_
          · exact q_X12_next_106 _ _ h34 _ _ ih _ _ p1 _ _ p2 _ _ p3 _ _ p4 _ _ p5 _ _ p6 _ _ e4.1 _ _ e4.2
          · exact q_X12_next_106 _ _ h34 _ _ ih _ _ p1 _ _ p2 _ _ p3 _ _ p4 _ _ p5 _ _ p6 _ _ e3.1 _ _ e4.2
set_option maxHeartbeats 4000000 in
set_option maxRecDepth 100000 in
theorem q_X12_next_34 (x1 : Int32) (z1 : Int) (p1 : x1 = mJ z1) : ∀ (n : Nat) (x2 : Int32) (z2 : Int) (p2 : x2 = mJ z2) (x3 : Int32) (z3 : Int) (p3 : x3 = mJ z3) (x4 : Int32) (z4 : Int) (p4 : x4 = mJ z4) (x5 : Int32) (z5 : Int) (p5 : x5 = mJ z5) (ζ : ZS) (σ : HS), Rp ζ σ → Sm QI (g_X12_next_34 z1 n z2 z3 z4 z5 ζ) (f_X12_next_34 0 x1 n x2 x3 x4 x5 σ) := by
  intro n
  induction n with
  | zero =>
    intro x2 z2 p2 x3 z3 p3 x4 z4 p4 x5 z5 p5 ζ σ hr
    exact sm_none
  | succ n ih =>
    intro x2 z2 p2 x3 z3 p3 x4 z4 p4 x5 z5 p5 ζ σ hr
    rw [g_X12_next_34.eq_2, f_X12_next_34.eq_2]
    refine sm_ile li_8 p5 ?_ ?_
    · refine sm_ile li_0 p3 ?_ ?_
      · refine sm_ieq p1 li_0 ?_ ?_
        · exact q_X12_next_163 _ _ p3 _ _ hr
        · refine sm_ieq p1 li_1 ?_ ?_
          · exact q_X12_next_163 _ _ p4 _ _ hr
          · exact q_X12_next_163 _ _ p2 _ _ hr
      · exact q_X12_next_163 _ _ li_m1 _ _ hr
    · exact q_X12_next_47 _ _ p1 _ _ p5 _ _ ih FU _ _ p2 _ _ p3 _ _ p4 _ _ (pa p5 li_1) _ _ hr
set_option maxHeartbeats 4000000 in
set_option maxRecDepth 100000 in
theorem q_X12_next (x1 : Int32) (z1 : Int) (p1 : x1 = mJ z1) (ζ : ZS) (σ : HS) (hr : Rp ζ σ) : Sm QI (g_X12_next z1 ζ) (f_X12_next 0 x1 σ) := by
    unfold g_X12_next f_X12_next
    have hr101 := rwI (a := 0) (k := 0) hr li_0
    refine sm_bind (q_X12_within _ _ p1 _ _ li_0 _ _ li_2 _ _ hr101) (fun q2 w2 e2 => ?_)
    refine sm_ieq e2.1 li_0 ?_ ?_
    · exact q_X12_next_21 _ _ e2.2
    · refine sm_bind (q_X12_findNow _ _ e2.2) (fun q3 w3 e3 => ?_)
      refine sm_ieq e3.1 li_0 ?_ ?_
      · exact q_X12_next_21 _ _ e3.2
      · exact q_X12_next_34 _ _ p1 FU _ _ li_9 _ _ li_m1 _ _ li_m1 _ _ li_0 _ _ e3.2
set_option maxHeartbeats 4000000 in
set_option maxRecDepth 100000 in
theorem q_X12_fewBehind_39 (rc : Int → Int → ZS → Option (Int × ZS)) (frc : Nat → Int32 → Int32 → HS → Option (Int32 × HS)) (hrc : ∀ (x1 : Int32) (z1 : Int) (p1 : x1 = mJ z1) (x2 : Int32) (z2 : Int) (p2 : x2 = mJ z2) (ζ : ZS) (σ : HS), Rp ζ σ → Sm QI (rc z1 z2 ζ) (frc 0 x1 x2 σ)) (x3 : Int32) (z3 : Int) (p3 : x3 = mJ z3) (xs0 : Int32) (zs0 : Int) (ps0 : xs0 = mJ zs0) (ζ : ZS) (σ : HS) (hr : Rp ζ σ) : Sm QI (g_X12_fewBehind_39 rc z3 zs0 ζ) (f_X12_fewBehind_39 frc 0 x3 xs0 σ) := by
    unfold g_X12_fewBehind_39 f_X12_fewBehind_39
    refine sm_bind (q_X12_backTo _ _ p3 _ _ hr) (fun q1 w1 e1 => ?_)
    exact sm_ri ps0 e1
set_option maxHeartbeats 4000000 in
set_option maxRecDepth 100000 in
theorem q_X12_fewBehind (rc : Int → Int → ZS → Option (Int × ZS)) (frc : Nat → Int32 → Int32 → HS → Option (Int32 × HS)) (hrc : ∀ (x1 : Int32) (z1 : Int) (p1 : x1 = mJ z1) (x2 : Int32) (z2 : Int) (p2 : x2 = mJ z2) (ζ : ZS) (σ : HS), Rp ζ σ → Sm QI (rc z1 z2 ζ) (frc 0 x1 x2 σ)) (x1 : Int32) (z1 : Int) (p1 : x1 = mJ z1) (x2 : Int32) (z2 : Int) (p2 : x2 = mJ z2) (x3 : Int32) (z3 : Int) (p3 : x3 = mJ z3) (x4 : Int32) (z4 : Int) (p4 : x4 = mJ z4) (ζ : ZS) (σ : HS) (hr : Rp ζ σ) : Sm QI (g_X12_fewBehind rc z1 z2 z3 z4 ζ) (f_X12_fewBehind frc 0 x1 x2 x3 x4 σ) := by
    unfold g_X12_fewBehind f_X12_fewBehind
    refine sm_bind (q_X12_addsAbove _ _ p1 _ _ p2 _ _ hr) (fun q1 w1 e1 => ?_)
    refine sm_bind (q_X12_findMore _ _ (pa p3 li_1) _ _ e1) (fun q2 w2 e2 => ?_)
    refine sm_rk (a := 20) (pts (rp_s e2) 0 28 20 rfl) kd_20 ?_
    refine sm_ck (pa p3 li_1) ln_20 (fun b103 => ?_)
    refine sm_ieq (rdI (a := 20) e2 (pa p3 li_1) b103 (Nat.le_of_ble_eq_true rfl)) li_0 ?_ ?_
    · exact q_X12_fewBehind_39 _ _ hrc _ _ p3 _ _ li_0 _ _ e2
    · refine sm_bind (hrc _ _ (pa p3 li_1) _ _ (ps p4 li_1) _ _ e2) (fun q4 w4 e4 => ?_)
      exact q_X12_fewBehind_39 _ _ hrc _ _ p3 _ _ e4.1 _ _ e4.2
set_option maxHeartbeats 4000000 in
set_option maxRecDepth 100000 in
theorem q_X12_fewFrom_143 (rc : Int → Int → ZS → Option (Int × ZS)) (frc : Nat → Int32 → Int32 → HS → Option (Int32 × HS)) (hrc : ∀ (x1 : Int32) (z1 : Int) (p1 : x1 = mJ z1) (x2 : Int32) (z2 : Int) (p2 : x2 = mJ z2) (ζ : ZS) (σ : HS), Rp ζ σ → Sm QI (rc z1 z2 ζ) (frc 0 x1 x2 σ)) (x3 : Int32) (z3 : Int) (p3 : x3 = mJ z3) (ζ : ZS) (σ : HS) (hr : Rp ζ σ) : Sm QI (g_X12_fewFrom_143 rc z3 ζ) (f_X12_fewFrom_143 frc x3 σ) := by
    unfold g_X12_fewFrom_143 f_X12_fewFrom_143
    exact sm_ri p3 hr
set_option maxHeartbeats 4000000 in
set_option maxRecDepth 100000 in
theorem q_X12_fewFrom_131 (rc : Int → Int → ZS → Option (Int × ZS)) (frc : Nat → Int32 → Int32 → HS → Option (Int32 × HS)) (hrc : ∀ (x1 : Int32) (z1 : Int) (p1 : x1 = mJ z1) (x2 : Int32) (z2 : Int) (p2 : x2 = mJ z2) (ζ : ZS) (σ : HS), Rp ζ σ → Sm QI (rc z1 z2 ζ) (frc 0 x1 x2 σ)) (r16 : Int → Int → ZS → Option (Int × ZS)) (f16 : Int32 → Int32 → HS → Option (Int32 × HS)) (h16 : ∀ (x3 : Int32) (z3 : Int) (p3 : x3 = mJ z3) (x4 : Int32) (z4 : Int) (p4 : x4 = mJ z4) (ζ : ZS) (σ : HS), Rp ζ σ → Sm QI (r16 z3 z4 ζ) (f16 x3 x4 σ)) (r33 : Int → Int → ZS → Option (Int × ZS)) (f33 : Int32 → Int32 → HS → Option (Int32 × HS)) (h33 : ∀ (x3 : Int32) (z3 : Int) (p3 : x3 = mJ z3) (x5 : Int32) (z5 : Int) (p5 : x5 = mJ z5) (ζ : ZS) (σ : HS), Rp ζ σ → Sm QI (r33 z3 z5 ζ) (f33 x3 x5 σ)) (x1 : Int32) (z1 : Int) (p1 : x1 = mJ z1) (x2 : Int32) (z2 : Int) (p2 : x2 = mJ z2) (x3 : Int32) (z3 : Int) (p3 : x3 = mJ z3) (x4 : Int32) (z4 : Int) (p4 : x4 = mJ z4) (x5 : Int32) (z5 : Int) (p5 : x5 = mJ z5) (ζ : ZS) (σ : HS) (hr : Rp ζ σ) : Sm QI (g_X12_fewFrom_131 rc r16 r33 z1 z2 z3 z4 z5 ζ) (f_X12_fewFrom_131 frc f16 f33 0 x1 x2 x3 x4 x5 σ) := by
    unfold g_X12_fewFrom_131 f_X12_fewFrom_131
    exact h33 _ _ p3 _ _ (pa p5 li_1) _ _ hr
set_option maxHeartbeats 4000000 in
set_option maxRecDepth 100000 in
theorem q_X12_fewFrom_130 (rc : Int → Int → ZS → Option (Int × ZS)) (frc : Nat → Int32 → Int32 → HS → Option (Int32 × HS)) (hrc : ∀ (x1 : Int32) (z1 : Int) (p1 : x1 = mJ z1) (x2 : Int32) (z2 : Int) (p2 : x2 = mJ z2) (ζ : ZS) (σ : HS), Rp ζ σ → Sm QI (rc z1 z2 ζ) (frc 0 x1 x2 σ)) (r16 : Int → Int → ZS → Option (Int × ZS)) (f16 : Int32 → Int32 → HS → Option (Int32 × HS)) (h16 : ∀ (x3 : Int32) (z3 : Int) (p3 : x3 = mJ z3) (x4 : Int32) (z4 : Int) (p4 : x4 = mJ z4) (ζ : ZS) (σ : HS), Rp ζ σ → Sm QI (r16 z3 z4 ζ) (f16 x3 x4 σ)) (r33 : Int → Int → ZS → Option (Int × ZS)) (f33 : Int32 → Int32 → HS → Option (Int32 × HS)) (h33 : ∀ (x3 : Int32) (z3 : Int) (p3 : x3 = mJ z3) (x5 : Int32) (z5 : Int) (p5 : x5 = mJ z5) (ζ : ZS) (σ : HS), Rp ζ σ → Sm QI (r33 z3 z5 ζ) (f33 x3 x5 σ)) (x1 : Int32) (z1 : Int) (p1 : x1 = mJ z1) (x2 : Int32) (z2 : Int) (p2 : x2 = mJ z2) (x4 : Int32) (z4 : Int) (p4 : x4 = mJ z4) (x5 : Int32) (z5 : Int) (p5 : x5 = mJ z5) (xs0 : Int32) (zs0 : Int) (ps0 : xs0 = mJ zs0) (ζ : ZS) (σ : HS) (hr : Rp ζ σ) : Sm QI (g_X12_fewFrom_130 rc r16 r33 z1 z2 z4 z5 zs0 ζ) (f_X12_fewFrom_130 frc f16 f33 0 x1 x2 x4 x5 xs0 σ) := by
    unfold g_X12_fewFrom_130 f_X12_fewFrom_130
    exact q_X12_fewFrom_131 _ _ hrc _ _ h16 _ _ h33 _ _ p1 _ _ p2 _ _ ps0 _ _ p4 _ _ p5 _ _ hr
set_option maxHeartbeats 4000000 in
set_option maxRecDepth 100000 in
theorem q_X12_fewFrom_115 (rc : Int → Int → ZS → Option (Int × ZS)) (frc : Nat → Int32 → Int32 → HS → Option (Int32 × HS)) (hrc : ∀ (x1 : Int32) (z1 : Int) (p1 : x1 = mJ z1) (x2 : Int32) (z2 : Int) (p2 : x2 = mJ z2) (ζ : ZS) (σ : HS), Rp ζ σ → Sm QI (rc z1 z2 ζ) (frc 0 x1 x2 σ)) (r16 : Int → Int → ZS → Option (Int × ZS)) (f16 : Int32 → Int32 → HS → Option (Int32 × HS)) (h16 : ∀ (x3 : Int32) (z3 : Int) (p3 : x3 = mJ z3) (x4 : Int32) (z4 : Int) (p4 : x4 = mJ z4) (ζ : ZS) (σ : HS), Rp ζ σ → Sm QI (r16 z3 z4 ζ) (f16 x3 x4 σ)) (r33 : Int → Int → ZS → Option (Int × ZS)) (f33 : Int32 → Int32 → HS → Option (Int32 × HS)) (h33 : ∀ (x3 : Int32) (z3 : Int) (p3 : x3 = mJ z3) (x5 : Int32) (z5 : Int) (p5 : x5 = mJ z5) (ζ : ZS) (σ : HS), Rp ζ σ → Sm QI (r33 z3 z5 ζ) (f33 x3 x5 σ)) (x1 : Int32) (z1 : Int) (p1 : x1 = mJ z1) (x2 : Int32) (z2 : Int) (p2 : x2 = mJ z2) (x3 : Int32) (z3 : Int) (p3 : x3 = mJ z3) (x4 : Int32) (z4 : Int) (p4 : x4 = mJ z4) (x5 : Int32) (z5 : Int) (p5 : x5 = mJ z5) (xs0 : Int32) (zs0 : Int) (ps0 : xs0 = mJ zs0) (xs1 : Int32) (zs1 : Int) (ps1 : xs1 = mJ zs1) (ζ : ZS) (σ : HS) (hr : Rp ζ σ) : Sm QI (g_X12_fewFrom_115 rc r16 r33 z1 z2 z3 z4 z5 zs0 zs1 ζ) (f_X12_fewFrom_115 frc f16 f33 0 x1 x2 x3 x4 x5 xs0 xs1 σ) := by
    unfold g_X12_fewFrom_115 f_X12_fewFrom_115
    refine sm_ile p3 (pa ps1 ps0) ?_ ?_
    · exact q_X12_fewFrom_130 _ _ hrc _ _ h16 _ _ h33 _ _ p1 _ _ p2 _ _ p4 _ _ p5 _ _ p3 _ _ hr
    · exact q_X12_fewFrom_130 _ _ hrc _ _ h16 _ _ h33 _ _ p1 _ _ p2 _ _ p4 _ _ p5 _ _ (pa ps1 ps0) _ _ hr
set_option maxHeartbeats 4000000 in
set_option maxRecDepth 100000 in
theorem q_X12_fewFrom_98 (rc : Int → Int → ZS → Option (Int × ZS)) (frc : Nat → Int32 → Int32 → HS → Option (Int32 × HS)) (hrc : ∀ (x1 : Int32) (z1 : Int) (p1 : x1 = mJ z1) (x2 : Int32) (z2 : Int) (p2 : x2 = mJ z2) (ζ : ZS) (σ : HS), Rp ζ σ → Sm QI (rc z1 z2 ζ) (frc 0 x1 x2 σ)) (r16 : Int → Int → ZS → Option (Int × ZS)) (f16 : Int32 → Int32 → HS → Option (Int32 × HS)) (h16 : ∀ (x3 : Int32) (z3 : Int) (p3 : x3 = mJ z3) (x4 : Int32) (z4 : Int) (p4 : x4 = mJ z4) (ζ : ZS) (σ : HS), Rp ζ σ → Sm QI (r16 z3 z4 ζ) (f16 x3 x4 σ)) (r33 : Int → Int → ZS → Option (Int × ZS)) (f33 : Int32 → Int32 → HS → Option (Int32 × HS)) (h33 : ∀ (x3 : Int32) (z3 : Int) (p3 : x3 = mJ z3) (x5 : Int32) (z5 : Int) (p5 : x5 = mJ z5) (ζ : ZS) (σ : HS), Rp ζ σ → Sm QI (r33 z3 z5 ζ) (f33 x3 x5 σ)) (x1 : Int32) (z1 : Int) (p1 : x1 = mJ z1) (x2 : Int32) (z2 : Int) (p2 : x2 = mJ z2) (x3 : Int32) (z3 : Int) (p3 : x3 = mJ z3) (x4 : Int32) (z4 : Int) (p4 : x4 = mJ z4) (x5 : Int32) (z5 : Int) (p5 : x5 = mJ z5) (x6 : Int32) (z6 : Int) (p6 : x6 = mJ z6) (xs0 : Int32) (zs0 : Int) (ps0 : xs0 = mJ zs0) (ζ : ZS) (σ : HS) (hr : Rp ζ σ) : Sm QI (g_X12_fewFrom_98 rc r16 r33 z1 z2 z3 z4 z5 z6 zs0 ζ) (f_X12_fewFrom_98 frc f16 f33 0 x1 x2 x3 x4 x5 x6 xs0 σ) := by
    unfold g_X12_fewFrom_98 f_X12_fewFrom_98
    refine sm_ile p6 ps0 ?_ ?_
    · exact q_X12_fewFrom_115 _ _ hrc _ _ h16 _ _ h33 _ _ p1 _ _ p2 _ _ p3 _ _ p4 _ _ p5 _ _ ps0 _ _ li_1 _ _ hr
    · exact q_X12_fewFrom_115 _ _ hrc _ _ h16 _ _ h33 _ _ p1 _ _ p2 _ _ p3 _ _ p4 _ _ p5 _ _ p6 _ _ li_1 _ _ hr
set_option maxHeartbeats 4000000 in
set_option maxRecDepth 100000 in
theorem q_X12_fewFrom_33 (rc : Int → Int → ZS → Option (Int × ZS)) (frc : Nat → Int32 → Int32 → HS → Option (Int32 × HS)) (hrc : ∀ (x1 : Int32) (z1 : Int) (p1 : x1 = mJ z1) (x2 : Int32) (z2 : Int) (p2 : x2 = mJ z2) (ζ : ZS) (σ : HS), Rp ζ σ → Sm QI (rc z1 z2 ζ) (frc 0 x1 x2 σ)) (x1 : Int32) (z1 : Int) (p1 : x1 = mJ z1) (x2 : Int32) (z2 : Int) (p2 : x2 = mJ z2) (x4 : Int32) (z4 : Int) (p4 : x4 = mJ z4) (r16 : Int → Int → ZS → Option (Int × ZS)) (f16 : Int32 → Int32 → HS → Option (Int32 × HS)) (h16 : ∀ (x3 : Int32) (z3 : Int) (p3 : x3 = mJ z3) (x4 : Int32) (z4 : Int) (p4 : x4 = mJ z4) (ζ : ZS) (σ : HS), Rp ζ σ → Sm QI (r16 z3 z4 ζ) (f16 x3 x4 σ)) : ∀ (n : Nat) (x3 : Int32) (z3 : Int) (p3 : x3 = mJ z3) (x5 : Int32) (z5 : Int) (p5 : x5 = mJ z5) (ζ : ZS) (σ : HS), Rp ζ σ → Sm QI (g_X12_fewFrom_33 rc z1 z2 z4 r16 n z3 z5 ζ) (f_X12_fewFrom_33 frc 0 x1 x2 x4 f16 n x3 x5 σ) := by
  intro n
  induction n with
  | zero =>
    intro x3 z3 p3 x5 z5 p5 ζ σ hr
    exact sm_none
  | succ n ih =>
    intro x3 z3 p3 x5 z5 p5 ζ σ hr
    rw [g_X12_fewFrom_33.eq_2, f_X12_fewFrom_33.eq_2]
    refine sm_ile li_8 p5 ?_ ?_
    · exact h16 _ _ p3 _ _ (pa p4 li_1) _ _ hr
    · refine sm_bind (q_X12_isIn _ _ p4 _ _ hr) (fun q1 w1 e1 => ?_)
      refine sm_ieq e1.1 li_0 ?_ ?_
      · exact q_X12_fewFrom_131 _ _ hrc _ _ h16 _ _ ih _ _ p1 _ _ p2 _ _ p3 _ _ p4 _ _ p5 _ _ e1.2
      · refine sm_bind (q_X12_isIn _ _ p5 _ _ e1.2) (fun q2 w2 e2 => ?_)
        refine sm_ieq e2.1 li_0 ?_ ?_
        · exact q_X12_fewFrom_131 _ _ hrc _ _ h16 _ _ ih _ _ p1 _ _ p2 _ _ p3 _ _ p4 _ _ p5 _ _ e2.2
        · refine sm_ile p3 li_1 ?_ ?_
          · exact q_X12_fewFrom_131 _ _ hrc _ _ h16 _ _ ih _ _ p1 _ _ p2 _ _ p3 _ _ p4 _ _ p5 _ _ e2.2
          · refine sm_bind (q_X12_fewBehind _ _ hrc _ _ p4 _ _ p5 _ _ p1 _ _ p2 _ _ e2.2) (fun q3 w3 e3 => ?_)
            refine sm_ilt (pa e3.1 li_1) p3 ?_ ?_
            · refine sm_bind (q_X12_fewBehind _ _ hrc _ _ p5 _ _ p4 _ _ p1 _ _ p2 _ _ e3.2) (fun q4 w4 e4 => ?_)
              exact q_X12_fewFrom_98 _ _ hrc _ _ h16 _ _ ih _ _ p1 _ _ p2 _ _ p3 _ _ p4 _ _ p5 _ _ e3.1 _ _ e4.1 _ _ e4.2
            · exact q_X12_fewFrom_98 _ _ hrc _ _ h16 _ _ ih _ _ p1 _ _ p2 _ _ p3 _ _ p4 _ _ p5 _ _ e3.1 _ _ e3.1 _ _ e3.2
set_option maxHeartbeats 4000000 in
set_option maxRecDepth 100000 in
theorem q_X12_fewFrom_16 (rc : Int → Int → ZS → Option (Int × ZS)) (frc : Nat → Int32 → Int32 → HS → Option (Int32 × HS)) (hrc : ∀ (x1 : Int32) (z1 : Int) (p1 : x1 = mJ z1) (x2 : Int32) (z2 : Int) (p2 : x2 = mJ z2) (ζ : ZS) (σ : HS), Rp ζ σ → Sm QI (rc z1 z2 ζ) (frc 0 x1 x2 σ)) (x1 : Int32) (z1 : Int) (p1 : x1 = mJ z1) (x2 : Int32) (z2 : Int) (p2 : x2 = mJ z2) : ∀ (n : Nat) (x3 : Int32) (z3 : Int) (p3 : x3 = mJ z3) (x4 : Int32) (z4 : Int) (p4 : x4 = mJ z4) (ζ : ZS) (σ : HS), Rp ζ σ → Sm QI (g_X12_fewFrom_16 rc z1 z2 n z3 z4 ζ) (f_X12_fewFrom_16 frc 0 x1 x2 n x3 x4 σ) := by
  intro n
  induction n with
  | zero =>
    intro x3 z3 p3 x4 z4 p4 ζ σ hr
    exact sm_none
  | succ n ih =>
    intro x3 z3 p3 x4 z4 p4 ζ σ hr
    rw [g_X12_fewFrom_16.eq_2, f_X12_fewFrom_16.eq_2]
    refine sm_ile li_8 p4 ?_ ?_
    · exact q_X12_fewFrom_143 _ _ hrc _ _ p3 _ _ hr
    · refine sm_ile p2 li_0 ?_ ?_
      · exact q_X12_fewFrom_143 _ _ hrc _ _ p3 _ _ hr
      · exact q_X12_fewFrom_33 _ _ hrc _ _ p1 _ _ p2 _ _ p4 _ _ ih FU _ _ p3 _ _ (pa p4 li_1) _ _ hr
set_option maxHeartbeats 4000000 in
set_option maxRecDepth 100000 in
theorem q_X12_fewFrom_0 (rc : Int → Int → ZS → Option (Int × ZS)) (frc : Nat → Int32 → Int32 → HS → Option (Int32 × HS)) (hrc : ∀ (x1 : Int32) (z1 : Int) (p1 : x1 = mJ z1) (x2 : Int32) (z2 : Int) (p2 : x2 = mJ z2) (ζ : ZS) (σ : HS), Rp ζ σ → Sm QI (rc z1 z2 ζ) (frc 0 x1 x2 σ)) (x1 : Int32) (z1 : Int) (p1 : x1 = mJ z1) (x2 : Int32) (z2 : Int) (p2 : x2 = mJ z2) (ζ : ZS) (σ : HS) (hr : Rp ζ σ) : Sm QI (g_X12_fewFrom_0 rc z1 z2 ζ) (f_X12_fewFrom_0 frc 0 x1 x2 σ) := by
    unfold g_X12_fewFrom_0 f_X12_fewFrom_0
    refine sm_bind (q_X12_sureBest _ _ p1 _ _ hr) (fun q1 w1 e1 => ?_)
    refine sm_ieq e1.1 li_0 ?_ ?_
    · exact q_X12_fewFrom_16 _ _ hrc _ _ p1 _ _ p2 FU _ _ li_9 _ _ li_0 _ _ e1.2
    · exact sm_ri li_0 e1.2
theorem q_X12_fewFrom : ∀ (d : Nat) (x1 : Int32) (z1 : Int) (p1 : x1 = mJ z1) (x2 : Int32) (z2 : Int) (p2 : x2 = mJ z2) (ζ : ZS) (σ : HS), Rp ζ σ → Sm QI (g_X12_fewFrom d z1 z2 ζ) (f_X12_fewFrom d 0 x1 x2 σ) := by
  intro d
  induction d with
  | zero => intro x1 z1 p1 x2 z2 p2 ζ σ hr; exact sm_none
  | succ d ih =>
    intro x1 z1 p1 x2 z2 p2 ζ σ hr
    exact q_X12_fewFrom_0 _ _ ih x1 z1 p1 x2 z2 p2 _ _ hr
set_option maxHeartbeats 4000000 in
set_option maxRecDepth 100000 in
theorem q_X12_few_19  (ζ : ZS) (σ : HS) (hr : Rp ζ σ) : Sm QI (g_X12_few_19 ζ) (f_X12_few_19 σ) := by
    unfold g_X12_few_19 f_X12_few_19
    exact sm_ri li_m1 hr
set_option maxHeartbeats 4000000 in
set_option maxRecDepth 100000 in
theorem q_X12_few_23  : ∀ (n : Nat) (x1 : Int32) (z1 : Int) (p1 : x1 = mJ z1) (ζ : ZS) (σ : HS), Rp ζ σ → Sm QI (g_X12_few_23 n z1 ζ) (f_X12_few_23 0 n x1 σ) := by
  intro n
  induction n with
  | zero =>
    intro x1 z1 p1 ζ σ hr
    exact sm_none
  | succ n ih =>
    intro x1 z1 p1 ζ σ hr
    rw [g_X12_few_23.eq_2, f_X12_few_23.eq_2]
    refine sm_ilt li_2 p1 ?_ ?_
    · exact sm_ri li_m1 hr
    · refine sm_bind (q_X12_fewFrom DEP _ _ li_0 _ _ p1 _ _ hr) (fun q1 w1 e1 => ?_)
      refine sm_ilt p1 e1.1 ?_ ?_
      · exact ih _ _ (pa p1 li_1) _ _ e1.2
      · exact sm_ri p1 e1.2
set_option maxHeartbeats 4000000 in
set_option maxRecDepth 100000 in
theorem q_X12_few  (ζ : ZS) (σ : HS) (hr : Rp ζ σ) : Sm QI (g_X12_few ζ) (f_X12_few 0 σ) := by
    unfold g_X12_few f_X12_few
    have hr101 := rwI (a := 0) (k := 0) hr li_0
    refine sm_bind (q_X12_inMany _ _ hr101) (fun q2 w2 e2 => ?_)
    refine sm_ieq e2.1 li_0 ?_ ?_
    · exact q_X12_few_19 _ _ e2.2
    · refine sm_bind (q_X12_findNow _ _ e2.2) (fun q3 w3 e3 => ?_)
      refine sm_ieq e3.1 li_0 ?_ ?_
      · exact q_X12_few_19 _ _ e3.2
      · exact q_X12_few_23 FU _ _ li_0 _ _ e3.2
set_option maxHeartbeats 4000000 in
set_option maxRecDepth 100000 in
theorem q_X12_doesWith_35 (xs0 : Int32) (zs0 : Int) (ps0 : xs0 = mJ zs0) (ζ : ZS) (σ : HS) (hr : Rp ζ σ) : Sm QI (g_X12_doesWith_35 zs0 ζ) (f_X12_doesWith_35 0 xs0 σ) := by
    unfold g_X12_doesWith_35 f_X12_doesWith_35
    have hr101 := rwI (a := 0) (k := 32) hr li_m1
    exact sm_zr ps0 hr101
set_option maxHeartbeats 4000000 in
set_option maxRecDepth 100000 in
theorem q_X12_doesWith (x1 : Int32) (z1 : Int) (p1 : x1 = mJ z1) (x2 : Int32) (z2 : Int) (p2 : x2 = mJ z2) (x3 : Int32) (z3 : Int) (p3 : x3 = mJ z3) (x4 : Int32) (z4 : Int) (p4 : x4 = mJ z4) (ζ : ZS) (σ : HS) (hr : Rp ζ σ) : Sm QI (g_X12_doesWith z1 z2 z3 z4 ζ) (f_X12_doesWith 0 x1 x2 x3 x4 σ) := by
    unfold g_X12_doesWith f_X12_doesWith
    have hr101 := rwI (a := 0) (k := 32) hr p1
    have hr102 := rwI (a := 0) (k := 33) hr101 p2
    have hr103 := rwI (a := 0) (k := 34) hr102 p3
    refine sm_ieq p4 li_0 ?_ ?_
    · refine sm_bind (q_X12_mayBe _ _ p1 _ _ li_0 _ _ hr103) (fun q4 w4 e4 => ?_)
      exact q_X12_doesWith_35 _ _ e4.1 _ _ e4.2
    · refine sm_bind (q_X12_isSure _ _ p1 _ _ li_0 _ _ hr103) (fun q5 w5 e5 => ?_)
      exact q_X12_doesWith_35 _ _ e5.1 _ _ e5.2
set_option maxHeartbeats 4000000 in
set_option maxRecDepth 100000 in
theorem q_X12_need_34  (ζ : ZS) (σ : HS) (hr : Rp ζ σ) : Sm QI (g_X12_need_34 ζ) (f_X12_need_34 σ) := by
    unfold g_X12_need_34 f_X12_need_34
    exact sm_ri li_m1 hr
set_option maxHeartbeats 4000000 in
set_option maxRecDepth 100000 in
theorem q_X12_need_109 (r68 : Int → Int → ZS → Option (Int × ZS)) (f68 : Int32 → Int32 → HS → Option (Int32 × HS)) (h68 : ∀ (x5 : Int32) (z5 : Int) (p5 : x5 = mJ z5) (x6 : Int32) (z6 : Int) (p6 : x6 = mJ z6) (ζ : ZS) (σ : HS), Rp ζ σ → Sm QI (r68 z5 z6 ζ) (f68 x5 x6 σ)) (x1 : Int32) (z1 : Int) (p1 : x1 = mJ z1) (x2 : Int32) (z2 : Int) (p2 : x2 = mJ z2) (x3 : Int32) (z3 : Int) (p3 : x3 = mJ z3) (x4 : Int32) (z4 : Int) (p4 : x4 = mJ z4) (x5 : Int32) (z5 : Int) (p5 : x5 = mJ z5) (x6 : Int32) (z6 : Int) (p6 : x6 = mJ z6) (ζ : ZS) (σ : HS) (hr : Rp ζ σ) : Sm QI (g_X12_need_109 r68 z1 z2 z3 z4 z5 z6 ζ) (f_X12_need_109 f68 0 x1 x2 x3 x4 x5 x6 σ) := by
    unfold g_X12_need_109 f_X12_need_109
    exact h68 _ _ p5 _ _ p6 _ _ hr
set_option maxHeartbeats 4000000 in
set_option maxRecDepth 100000 in
theorem q_X12_need_68 (x1 : Int32) (z1 : Int) (p1 : x1 = mJ z1) (x2 : Int32) (z2 : Int) (p2 : x2 = mJ z2) (x3 : Int32) (z3 : Int) (p3 : x3 = mJ z3) (x4 : Int32) (z4 : Int) (p4 : x4 = mJ z4) : ∀ (n : Nat) (x5 : Int32) (z5 : Int) (p5 : x5 = mJ z5) (x6 : Int32) (z6 : Int) (p6 : x6 = mJ z6) (ζ : ZS) (σ : HS), Rp ζ σ → Sm QI (g_X12_need_68 z1 z2 z3 z4 n z5 z6 ζ) (f_X12_need_68 0 x1 x2 x3 x4 n x5 x6 σ) := by
  intro n
  induction n with
  | zero =>
    intro x5 z5 p5 x6 z6 p6 ζ σ hr
    exact sm_none
  | succ n ih =>
    intro x5 z5 p5 x6 z6 p6 ζ σ hr
    rw [g_X12_need_68.eq_2, f_X12_need_68.eq_2]
    refine sm_ile (ps p6 p5) li_1 ?_ ?_
    · exact sm_ri (ps p6 p4) hr
    · refine sm_gd (fun b101 => ?_)
      refine sm_bind (q_X12_doesWith _ _ p1 _ _ p2 _ _ (pdiv (pa p5 p6) li_2 b101) _ _ p3 _ _ hr) (fun q2 w2 e2 => ?_)
      refine sm_ieq e2.1 li_0 ?_ ?_
      · exact q_X12_need_109 _ _ ih _ _ p1 _ _ p2 _ _ p3 _ _ p4 _ _ (pdiv (pa p5 p6) li_2 b101) _ _ p6 _ _ e2.2
      · exact q_X12_need_109 _ _ ih _ _ p1 _ _ p2 _ _ p3 _ _ p4 _ _ p5 _ _ (pdiv (pa p5 p6) li_2 b101) _ _ e2.2
set_option maxHeartbeats 4000000 in
set_option maxRecDepth 100000 in
theorem q_X12_need (x1 : Int32) (z1 : Int) (p1 : x1 = mJ z1) (x2 : Int32) (z2 : Int) (p2 : x2 = mJ z2) (x3 : Int32) (z3 : Int) (p3 : x3 = mJ z3) (ζ : ZS) (σ : HS) (hr : Rp ζ σ) : Sm QI (g_X12_need z1 z2 z3 ζ) (f_X12_need 0 x1 x2 x3 σ) := by
    unfold g_X12_need f_X12_need
    have hr101 := rwI (a := 0) (k := 0) hr li_0
    refine sm_bind (q_X12_isThingIn _ _ p1 _ _ hr101) (fun q2 w2 e2 => ?_)
    refine sm_ieq e2.1 li_0 ?_ ?_
    · exact q_X12_need_34 _ _ e2.2
    · refine sm_bind (q_X12_within _ _ p2 _ _ li_0 _ _ (ps (e2.2.1 0 20) li_1) _ _ e2.2) (fun q3 w3 e3 => ?_)
      refine sm_ieq e3.1 li_0 ?_ ?_
      · exact q_X12_need_34 _ _ e3.2
      · refine sm_bind (q_X12_findNow _ _ e3.2) (fun q4 w4 e4 => ?_)
        refine sm_ieq e4.1 li_0 ?_ ?_
        · exact q_X12_need_34 _ _ e4.2
        · refine sm_bind (q_X12_valueOf _ _ p1 _ _ p2 _ _ e4.2) (fun q5 w5 e5 => ?_)
          refine sm_bind (q_X12_doesWith _ _ p1 _ _ p2 _ _ li_100 _ _ p3 _ _ e5.2) (fun q6 w6 e6 => ?_)
          refine sm_ieq e6.1 li_0 ?_ ?_
          · exact sm_ri li_m1 e6.2
          · exact q_X12_need_68 _ _ p1 _ _ p2 _ _ p3 _ _ e5.1 FU _ _ (ps e5.1 li_1) _ _ li_100 _ _ e6.2
set_option maxHeartbeats 4000000 in
set_option maxRecDepth 100000 in
theorem q_X12_edge_45  (ζ : ZS) (σ : HS) (hr : Rp ζ σ) : Sm QI (g_X12_edge_45 ζ) (f_X12_edge_45 σ) := by
    unfold g_X12_edge_45 f_X12_edge_45
    exact sm_ri li_m1 hr
set_option maxHeartbeats 4000000 in
set_option maxRecDepth 100000 in
theorem q_X12_edge_105 (x4 : Int32) (z4 : Int) (p4 : x4 = mJ z4) (ζ : ZS) (σ : HS) (hr : Rp ζ σ) : Sm QI (g_X12_edge_105 z4 ζ) (f_X12_edge_105 0 x4 σ) := by
    unfold g_X12_edge_105 f_X12_edge_105
    have hr101 := rwI (a := 0) (k := 32) hr li_m1
    exact sm_ri p4 hr101
set_option maxHeartbeats 4000000 in
set_option maxRecDepth 100000 in
theorem q_X12_edge_97 (r53 : Int → Int → ZS → Option (Int × ZS)) (f53 : Int32 → Int32 → HS → Option (Int32 × HS)) (h53 : ∀ (x4 : Int32) (z4 : Int) (p4 : x4 = mJ z4) (x5 : Int32) (z5 : Int) (p5 : x5 = mJ z5) (ζ : ZS) (σ : HS), Rp ζ σ → Sm QI (r53 z4 z5 ζ) (f53 x4 x5 σ)) (x1 : Int32) (z1 : Int) (p1 : x1 = mJ z1) (x2 : Int32) (z2 : Int) (p2 : x2 = mJ z2) (x3 : Int32) (z3 : Int) (p3 : x3 = mJ z3) (x5 : Int32) (z5 : Int) (p5 : x5 = mJ z5) (xs0 : Int32) (zs0 : Int) (ps0 : xs0 = mJ zs0) (ζ : ZS) (σ : HS) (hr : Rp ζ σ) : Sm QI (g_X12_edge_97 r53 z1 z2 z3 z5 zs0 ζ) (f_X12_edge_97 f53 0 x1 x2 x3 x5 xs0 σ) := by
    unfold g_X12_edge_97 f_X12_edge_97
    exact h53 _ _ ps0 _ _ (pa p5 li_1) _ _ hr
set_option maxHeartbeats 4000000 in
set_option maxRecDepth 100000 in
theorem q_X12_edge_53 (x1 : Int32) (z1 : Int) (p1 : x1 = mJ z1) (x2 : Int32) (z2 : Int) (p2 : x2 = mJ z2) (x3 : Int32) (z3 : Int) (p3 : x3 = mJ z3) : ∀ (n : Nat) (x4 : Int32) (z4 : Int) (p4 : x4 = mJ z4) (x5 : Int32) (z5 : Int) (p5 : x5 = mJ z5) (ζ : ZS) (σ : HS), Rp ζ σ → Sm QI (g_X12_edge_53 z1 z2 z3 n z4 z5 ζ) (f_X12_edge_53 0 x1 x2 x3 n x4 x5 σ) := by
  intro n
  induction n with
  | zero =>
    intro x4 z4 p4 x5 z5 p5 ζ σ hr
    exact sm_none
  | succ n ih =>
    intro x4 z4 p4 x5 z5 p5 ζ σ hr
    rw [g_X12_edge_53.eq_2, f_X12_edge_53.eq_2]
    refine sm_ilt li_100 p5 ?_ ?_
    · exact q_X12_edge_105 _ _ p4 _ _ hr
    · refine sm_ile li_0 p4 ?_ ?_
      · exact q_X12_edge_105 _ _ p4 _ _ hr
      · have hr101 := rwI (a := 0) (k := 32) hr p1
        have hr102 := rwI (a := 0) (k := 33) hr101 p3
        have hr103 := rwI (a := 0) (k := 34) hr102 p5
        refine sm_bind (q_X12_isBetter _ _ p1 _ _ p2 _ _ li_0 _ _ hr103) (fun q4 w4 e4 => ?_)
        refine sm_ieq e4.1 li_0 ?_ ?_
        · exact q_X12_edge_97 _ _ ih _ _ p1 _ _ p2 _ _ p3 _ _ p5 _ _ li_m1 _ _ e4.2
        · exact q_X12_edge_97 _ _ ih _ _ p1 _ _ p2 _ _ p3 _ _ p5 _ _ p5 _ _ e4.2
set_option maxHeartbeats 4000000 in
set_option maxRecDepth 100000 in
theorem q_X12_edge (x1 : Int32) (z1 : Int) (p1 : x1 = mJ z1) (x2 : Int32) (z2 : Int) (p2 : x2 = mJ z2) (x3 : Int32) (z3 : Int) (p3 : x3 = mJ z3) (ζ : ZS) (σ : HS) (hr : Rp ζ σ) : Sm QI (g_X12_edge z1 z2 z3 ζ) (f_X12_edge 0 x1 x2 x3 σ) := by
    unfold g_X12_edge f_X12_edge
    have hr101 := rwI (a := 0) (k := 0) hr li_0
    refine sm_bind (q_X12_areTwo _ _ p1 _ _ p2 _ _ hr101) (fun q2 w2 e2 => ?_)
    refine sm_ieq e2.1 li_0 ?_ ?_
    · exact q_X12_edge_45 _ _ e2.2
    · refine sm_bind (q_X12_within _ _ p3 _ _ li_0 _ _ (ps (e2.2.1 0 20) li_1) _ _ e2.2) (fun q3 w3 e3 => ?_)
      refine sm_ieq e3.1 li_0 ?_ ?_
      · exact q_X12_edge_45 _ _ e3.2
      · refine sm_bind (q_X12_findNow _ _ e3.2) (fun q4 w4 e4 => ?_)
        refine sm_ieq e4.1 li_0 ?_ ?_
        · exact q_X12_edge_45 _ _ e4.2
        · refine sm_bind (q_X12_isBetter _ _ p1 _ _ p2 _ _ li_0 _ _ e4.2) (fun q5 w5 e5 => ?_)
          refine sm_ieq e5.1 li_0 ?_ ?_
          · exact q_X12_edge_45 _ _ e5.2
          · exact q_X12_edge_53 _ _ p1 _ _ p2 _ _ p3 FU _ _ li_m1 _ _ li_0 _ _ e5.2
set_option maxHeartbeats 4000000 in
set_option maxRecDepth 100000 in
theorem q_X12_isBestBy_41 (r4 : Int → Int → ZS → Option (Int × ZS)) (f4 : Int32 → Int32 → HS → Option (Int32 × HS)) (h4 : ∀ (x2 : Int32) (z2 : Int) (p2 : x2 = mJ z2) (x3 : Int32) (z3 : Int) (p3 : x3 = mJ z3) (ζ : ZS) (σ : HS), Rp ζ σ → Sm QI (r4 z2 z3 ζ) (f4 x2 x3 σ)) (x1 : Int32) (z1 : Int) (p1 : x1 = mJ z1) (x3 : Int32) (z3 : Int) (p3 : x3 = mJ z3) (xs0 : Int32) (zs0 : Int) (ps0 : xs0 = mJ zs0) (ζ : ZS) (σ : HS) (hr : Rp ζ σ) : Sm QI (g_X12_isBestBy_41 r4 z1 z3 zs0 ζ) (f_X12_isBestBy_41 f4 0 x1 x3 xs0 σ) := by
    unfold g_X12_isBestBy_41 f_X12_isBestBy_41
    exact h4 _ _ ps0 _ _ (pa p3 li_1) _ _ hr
set_option maxHeartbeats 4000000 in
set_option maxRecDepth 100000 in
theorem q_X12_isBestBy_40 (r4 : Int → Int → ZS → Option (Int × ZS)) (f4 : Int32 → Int32 → HS → Option (Int32 × HS)) (h4 : ∀ (x2 : Int32) (z2 : Int) (p2 : x2 = mJ z2) (x3 : Int32) (z3 : Int) (p3 : x3 = mJ z3) (ζ : ZS) (σ : HS), Rp ζ σ → Sm QI (r4 z2 z3 ζ) (f4 x2 x3 σ)) (x1 : Int32) (z1 : Int) (p1 : x1 = mJ z1) (x3 : Int32) (z3 : Int) (p3 : x3 = mJ z3) (ζ : ZS) (σ : HS) (hr : Rp ζ σ) : Sm QI (g_X12_isBestBy_40 r4 z1 z3 ζ) (f_X12_isBestBy_40 f4 0 x1 x3 σ) := by
    unfold g_X12_isBestBy_40 f_X12_isBestBy_40
    exact q_X12_isBestBy_41 _ _ h4 _ _ p1 _ _ p3 _ _ li_0 _ _ hr
set_option maxHeartbeats 4000000 in
set_option maxRecDepth 100000 in
theorem q_X12_isBestBy_36 (r4 : Int → Int → ZS → Option (Int × ZS)) (f4 : Int32 → Int32 → HS → Option (Int32 × HS)) (h4 : ∀ (x2 : Int32) (z2 : Int) (p2 : x2 = mJ z2) (x3 : Int32) (z3 : Int) (p3 : x3 = mJ z3) (ζ : ZS) (σ : HS), Rp ζ σ → Sm QI (r4 z2 z3 ζ) (f4 x2 x3 σ)) (x1 : Int32) (z1 : Int) (p1 : x1 = mJ z1) (x3 : Int32) (z3 : Int) (p3 : x3 = mJ z3) (ζ : ZS) (σ : HS) (hr : Rp ζ σ) : Sm QI (g_X12_isBestBy_36 r4 z1 z3 ζ) (f_X12_isBestBy_36 f4 0 x1 x3 σ) := by
    unfold g_X12_isBestBy_36 f_X12_isBestBy_36
    exact q_X12_isBestBy_41 _ _ h4 _ _ p1 _ _ p3 _ _ li_1 _ _ hr
set_option maxHeartbeats 4000000 in
set_option maxRecDepth 100000 in
theorem q_X12_isBestBy_4 (x1 : Int32) (z1 : Int) (p1 : x1 = mJ z1) : ∀ (n : Nat) (x2 : Int32) (z2 : Int) (p2 : x2 = mJ z2) (x3 : Int32) (z3 : Int) (p3 : x3 = mJ z3) (ζ : ZS) (σ : HS), Rp ζ σ → Sm QI (g_X12_isBestBy_4 z1 n z2 z3 ζ) (f_X12_isBestBy_4 0 x1 n x2 x3 σ) := by
  intro n
  induction n with
  | zero =>
    intro x2 z2 p2 x3 z3 p3 ζ σ hr
    exact sm_none
  | succ n ih =>
    intro x2 z2 p2 x3 z3 p3 ζ σ hr
    rw [g_X12_isBestBy_4.eq_2, f_X12_isBestBy_4.eq_2]
    refine sm_ile li_8 p3 ?_ ?_
    · exact sm_zr p2 hr
    · refine sm_ieq p2 li_0 ?_ ?_
      · exact q_X12_isBestBy_40 _ _ ih _ _ p1 _ _ p3 _ _ hr
      · refine sm_bind (q_X12_isIn _ _ p3 _ _ hr) (fun q1 w1 e1 => ?_)
        refine sm_ieq e1.1 li_0 ?_ ?_
        · exact q_X12_isBestBy_36 _ _ ih _ _ p1 _ _ p3 _ _ e1.2
        · refine sm_bind (q_X12_goodBy _ _ p1 _ _ e1.2) (fun q2 w2 e2 => ?_)
          refine sm_bind (q_X12_goodBy _ _ p3 _ _ e2.2) (fun q3 w3 e3 => ?_)
          refine sm_jlt e2.1 e3.1 ?_ ?_
          · exact q_X12_isBestBy_40 _ _ ih _ _ p1 _ _ p3 _ _ e3.2
          · exact q_X12_isBestBy_36 _ _ ih _ _ p1 _ _ p3 _ _ e3.2
set_option maxHeartbeats 4000000 in
set_option maxRecDepth 100000 in
theorem q_X12_isBestBy (x1 : Int32) (z1 : Int) (p1 : x1 = mJ z1) (ζ : ZS) (σ : HS) (hr : Rp ζ σ) : Sm QI (g_X12_isBestBy z1 ζ) (f_X12_isBestBy 0 x1 σ) := by
    unfold g_X12_isBestBy f_X12_isBestBy
    exact q_X12_isBestBy_4 _ _ p1 FU _ _ li_1 _ _ li_0 _ _ hr
set_option maxHeartbeats 4000000 in
set_option maxRecDepth 100000 in
theorem q_X12_shareFrom_49 (rc : Int → Int → Int → ZS → Option (Int × ZS)) (frc : Nat → Int32 → Int32 → Int32 → HS → Option (Int32 × HS)) (hrc : ∀ (x1 : Int32) (z1 : Int) (p1 : x1 = mJ z1) (x2 : Int32) (z2 : Int) (p2 : x2 = mJ z2) (x3 : Int32) (z3 : Int) (p3 : x3 = mJ z3) (ζ : ZS) (σ : HS), Rp ζ σ → Sm QI (rc z1 z2 z3 ζ) (frc 0 x1 x2 x3 σ)) (x1 : Int32) (z1 : Int) (p1 : x1 = mJ z1) (x2 : Int32) (z2 : Int) (p2 : x2 = mJ z2) (x3 : Int32) (z3 : Int) (p3 : x3 = mJ z3) : ∀ (n : Nat) (x4 : Int32) (z4 : Int) (p4 : x4 = mJ z4) (x5 : Int32) (z5 : Int) (p5 : x5 = mJ z5) (ζ : ZS) (σ : HS), Rp ζ σ → Sm QI (g_X12_shareFrom_49 rc z1 z2 z3 n z4 z5 ζ) (f_X12_shareFrom_49 frc 0 x1 x2 x3 n x4 x5 σ) := by
  intro n
  induction n with
  | zero =>
    intro x4 z4 p4 x5 z5 p5 ζ σ hr
    exact sm_none
  | succ n ih =>
    intro x4 z4 p4 x5 z5 p5 ζ σ hr
    rw [g_X12_shareFrom_49.eq_2, f_X12_shareFrom_49.eq_2]
    refine sm_ilt p3 p5 ?_ ?_
    · exact sm_ri p4 hr
    · refine sm_rk (a := 24) (pts (rp_s hr) 0 35 24 rfl) kd_24 ?_
      refine sm_gw (fun b101 => ?_)
      refine sm_ck p2 ln_24 (fun b102 => ?_)
      have hr103 := raJ (a := 24) hr p2 b102 (Nat.le_of_ble_eq_true rfl) (pi2l p5 b101)
      refine sm_bind (hrc _ _ p1 _ _ (pa p2 li_1) _ _ (ps p3 p5) _ _ hr103) (fun q4 w4 e4 => ?_)
      exact ih _ _ (pa p4 e4.1) _ _ (pa p5 li_1) _ _ e4.2
set_option maxHeartbeats 4000000 in
set_option maxRecDepth 100000 in
theorem q_X12_shareFrom_42 (rc : Int → Int → Int → ZS → Option (Int × ZS)) (frc : Nat → Int32 → Int32 → Int32 → HS → Option (Int32 × HS)) (hrc : ∀ (x1 : Int32) (z1 : Int) (p1 : x1 = mJ z1) (x2 : Int32) (z2 : Int) (p2 : x2 = mJ z2) (x3 : Int32) (z3 : Int) (p3 : x3 = mJ z3) (ζ : ZS) (σ : HS), Rp ζ σ → Sm QI (rc z1 z2 z3 ζ) (frc 0 x1 x2 x3 σ)) (xs0 : Int32) (zs0 : Int) (ps0 : xs0 = mJ zs0) (ζ : ZS) (σ : HS) (hr : Rp ζ σ) : Sm QI (g_X12_shareFrom_42 rc zs0 ζ) (f_X12_shareFrom_42 frc xs0 σ) := by
    unfold g_X12_shareFrom_42 f_X12_shareFrom_42
    exact sm_ri ps0 hr
set_option maxHeartbeats 4000000 in
set_option maxRecDepth 100000 in
theorem q_X12_shareFrom_41 (rc : Int → Int → Int → ZS → Option (Int × ZS)) (frc : Nat → Int32 → Int32 → Int32 → HS → Option (Int32 × HS)) (hrc : ∀ (x1 : Int32) (z1 : Int) (p1 : x1 = mJ z1) (x2 : Int32) (z2 : Int) (p2 : x2 = mJ z2) (x3 : Int32) (z3 : Int) (p3 : x3 = mJ z3) (ζ : ZS) (σ : HS), Rp ζ σ → Sm QI (rc z1 z2 z3 ζ) (frc 0 x1 x2 x3 σ))  (ζ : ZS) (σ : HS) (hr : Rp ζ σ) : Sm QI (g_X12_shareFrom_41 rc ζ) (f_X12_shareFrom_41 frc σ) := by
    unfold g_X12_shareFrom_41 f_X12_shareFrom_41
    exact q_X12_shareFrom_42 _ _ hrc _ _ li_0 _ _ hr
set_option maxHeartbeats 4000000 in
set_option maxRecDepth 100000 in
theorem q_X12_shareFrom_37 (rc : Int → Int → Int → ZS → Option (Int × ZS)) (frc : Nat → Int32 → Int32 → Int32 → HS → Option (Int32 × HS)) (hrc : ∀ (x1 : Int32) (z1 : Int) (p1 : x1 = mJ z1) (x2 : Int32) (z2 : Int) (p2 : x2 = mJ z2) (x3 : Int32) (z3 : Int) (p3 : x3 = mJ z3) (ζ : ZS) (σ : HS), Rp ζ σ → Sm QI (rc z1 z2 z3 ζ) (frc 0 x1 x2 x3 σ))  (ζ : ZS) (σ : HS) (hr : Rp ζ σ) : Sm QI (g_X12_shareFrom_37 rc ζ) (f_X12_shareFrom_37 frc σ) := by
    unfold g_X12_shareFrom_37 f_X12_shareFrom_37
    exact q_X12_shareFrom_42 _ _ hrc _ _ li_1 _ _ hr
set_option maxHeartbeats 4000000 in
set_option maxRecDepth 100000 in
theorem q_X12_shareFrom_0 (rc : Int → Int → Int → ZS → Option (Int × ZS)) (frc : Nat → Int32 → Int32 → Int32 → HS → Option (Int32 × HS)) (hrc : ∀ (x1 : Int32) (z1 : Int) (p1 : x1 = mJ z1) (x2 : Int32) (z2 : Int) (p2 : x2 = mJ z2) (x3 : Int32) (z3 : Int) (p3 : x3 = mJ z3) (ζ : ZS) (σ : HS), Rp ζ σ → Sm QI (rc z1 z2 z3 ζ) (frc 0 x1 x2 x3 σ)) (x1 : Int32) (z1 : Int) (p1 : x1 = mJ z1) (x2 : Int32) (z2 : Int) (p2 : x2 = mJ z2) (x3 : Int32) (z3 : Int) (p3 : x3 = mJ z3) (ζ : ZS) (σ : HS) (hr : Rp ζ σ) : Sm QI (g_X12_shareFrom_0 rc z1 z2 z3 ζ) (f_X12_shareFrom_0 frc 0 x1 x2 x3 σ) := by
    unfold g_X12_shareFrom_0 f_X12_shareFrom_0
    refine sm_ieq p2 (ps (hr.1 0 20) li_1) ?_ ?_
    · refine sm_rk (a := 24) (pts (rp_s hr) 0 35 24 rfl) kd_24 ?_
      refine sm_gw (fun b101 => ?_)
      refine sm_ck p2 ln_24 (fun b102 => ?_)
      have hr103 := raJ (a := 24) hr p2 b102 (Nat.le_of_ble_eq_true rfl) (pi2l p3 b101)
      refine sm_bind (q_X12_doesFit _ _ hr103) (fun q4 w4 e4 => ?_)
      refine sm_ieq e4.1 li_0 ?_ ?_
      · exact q_X12_shareFrom_41 _ _ hrc _ _ e4.2
      · refine sm_ilt p1 li_0 ?_ ?_
        · exact q_X12_shareFrom_37 _ _ hrc _ _ e4.2
        · refine sm_bind (q_X12_isBestBy _ _ p1 _ _ e4.2) (fun q5 w5 e5 => ?_)
          refine sm_ieq e5.1 li_0 ?_ ?_
          · exact q_X12_shareFrom_41 _ _ hrc _ _ e5.2
          · exact q_X12_shareFrom_37 _ _ hrc _ _ e5.2
    · exact q_X12_shareFrom_49 _ _ hrc _ _ p1 _ _ p2 _ _ p3 FU _ _ li_0 _ _ li_0 _ _ hr
theorem q_X12_shareFrom : ∀ (d : Nat) (x1 : Int32) (z1 : Int) (p1 : x1 = mJ z1) (x2 : Int32) (z2 : Int) (p2 : x2 = mJ z2) (x3 : Int32) (z3 : Int) (p3 : x3 = mJ z3) (ζ : ZS) (σ : HS), Rp ζ σ → Sm QI (g_X12_shareFrom d z1 z2 z3 ζ) (f_X12_shareFrom d 0 x1 x2 x3 σ) := by
  intro d
  induction d with
  | zero => intro x1 z1 p1 x2 z2 p2 x3 z3 p3 ζ σ hr; exact sm_none
  | succ d ih =>
    intro x1 z1 p1 x2 z2 p2 x3 z3 p3 ζ σ hr
    exact q_X12_shareFrom_0 _ _ ih x1 z1 p1 x2 z2 p2 x3 z3 p3 _ _ hr
set_option maxHeartbeats 4000000 in
set_option maxRecDepth 100000 in
theorem q_X12_share_28  (ζ : ZS) (σ : HS) (hr : Rp ζ σ) : Sm QI (g_X12_share_28 ζ) (f_X12_share_28 σ) := by
    unfold g_X12_share_28 f_X12_share_28
    exact sm_ri li_m1 hr
set_option maxHeartbeats 4000000 in
set_option maxRecDepth 100000 in
theorem q_X12_share_18 (x1 : Int32) (z1 : Int) (p1 : x1 = mJ z1) (x2 : Int32) (z2 : Int) (p2 : x2 = mJ z2) (ζ : ZS) (σ : HS) (hr : Rp ζ σ) : Sm QI (g_X12_share_18 z1 z2 ζ) (f_X12_share_18 0 x1 x2 σ) := by
    unfold g_X12_share_18 f_X12_share_18
    refine sm_bind (q_X12_within _ _ p2 _ _ li_1 _ _ li_20 _ _ hr) (fun q1 w1 e1 => ?_)
    refine sm_ieq e1.1 li_0 ?_ ?_
    · exact q_X12_share_28 _ _ e1.2
    · refine sm_bind (q_X12_heard _ _ e1.2) (fun q2 w2 e2 => ?_)
      refine sm_bind (q_X12_laysRows _ _ e2.1 _ _ e2.2) (fun q3 w3 e3 => ?_)
      refine sm_bind (q_X12_givesWeights _ _ li_0 _ _ li_0 _ _ li_0 _ _ li_0 _ _ e3) (fun q4 w4 e4 => ?_)
      refine sm_bind (q_X12_shareFrom DEP _ _ p1 _ _ li_0 _ _ p2 _ _ e4) (fun q5 w5 e5 => ?_)
      exact sm_ri e5.1 e5.2
set_option maxHeartbeats 4000000 in
set_option maxRecDepth 100000 in
theorem q_X12_share (x1 : Int32) (z1 : Int) (p1 : x1 = mJ z1) (x2 : Int32) (z2 : Int) (p2 : x2 = mJ z2) (ζ : ZS) (σ : HS) (hr : Rp ζ σ) : Sm QI (g_X12_share z1 z2 ζ) (f_X12_share 0 x1 x2 σ) := by
    unfold g_X12_share f_X12_share
    have hr101 := rwI (a := 0) (k := 0) hr li_0
    refine sm_ieq p1 li_m1 ?_ ?_
    · exact q_X12_share_18 _ _ p1 _ _ p2 _ _ hr101
    · refine sm_bind (q_X12_isThingIn _ _ p1 _ _ hr101) (fun q2 w2 e2 => ?_)
      refine sm_ieq e2.1 li_0 ?_ ?_
      · exact q_X12_share_28 _ _ e2.2
      · exact q_X12_share_18 _ _ p1 _ _ p2 _ _ e2.2
set_option maxHeartbeats 4000000 in
set_option maxRecDepth 100000 in
theorem q_X12_sayingsOf_36 (r4 : Int → Int → ZS → Option (Int × ZS)) (f4 : Int32 → Int32 → HS → Option (Int32 × HS)) (h4 : ∀ (x2 : Int32) (z2 : Int) (p2 : x2 = mJ z2) (x3 : Int32) (z3 : Int) (p3 : x3 = mJ z3) (ζ : ZS) (σ : HS), Rp ζ σ → Sm QI (r4 z2 z3 ζ) (f4 x2 x3 σ)) (x1 : Int32) (z1 : Int) (p1 : x1 = mJ z1) (x3 : Int32) (z3 : Int) (p3 : x3 = mJ z3) (xs0 : Int32) (zs0 : Int) (ps0 : xs0 = mJ zs0) (xs1 : Int32) (zs1 : Int) (ps1 : xs1 = mJ zs1) (ζ : ZS) (σ : HS) (hr : Rp ζ σ) : Sm QI (g_X12_sayingsOf_36 r4 z1 z3 zs0 zs1 ζ) (f_X12_sayingsOf_36 f4 0 x1 x3 xs0 xs1 σ) := by
    unfold g_X12_sayingsOf_36 f_X12_sayingsOf_36
    exact h4 _ _ (por ps1 ps0) _ _ (pa p3 li_1) _ _ hr
set_option maxHeartbeats 4000000 in
set_option maxRecDepth 100000 in
theorem q_X12_sayingsOf_4 (x1 : Int32) (z1 : Int) (p1 : x1 = mJ z1) : ∀ (n : Nat) (x2 : Int32) (z2 : Int) (p2 : x2 = mJ z2) (x3 : Int32) (z3 : Int) (p3 : x3 = mJ z3) (ζ : ZS) (σ : HS), Rp ζ σ → Sm QI (g_X12_sayingsOf_4 z1 n z2 z3 ζ) (f_X12_sayingsOf_4 0 x1 n x2 x3 σ) := by
  intro n
  induction n with
  | zero =>
    intro x2 z2 p2 x3 z3 p3 ζ σ hr
    exact sm_none
  | succ n ih =>
    intro x2 z2 p2 x3 z3 p3 ζ σ hr
    rw [g_X12_sayingsOf_4.eq_2, f_X12_sayingsOf_4.eq_2]
    refine sm_rk (a := 9) (pts (rp_s hr) 0 13 9 rfl) kd_9 ?_
    refine sm_ck li_0 ln_9 (fun b101 => ?_)
    refine sm_ile (rdI (a := 9) hr li_0 b101 (Nat.le_of_ble_eq_true rfl)) p3 ?_ ?_
    · exact sm_ri p2 hr
    · refine sm_rk (a := 10) (pts (rp_s hr) 0 14 10 rfl) kd_10 ?_
      refine sm_ck p3 ln_10 (fun b102 => ?_)
      refine sm_ieq (pand (pshr p1 (rdI (a := 10) hr p3 b102 (Nat.le_of_ble_eq_true rfl))) li_1) li_1 ?_ ?_
      · exact q_X12_sayingsOf_36 _ _ ih _ _ p1 _ _ p3 _ _ (pshl li_1 p3) _ _ p2 _ _ hr
      · exact q_X12_sayingsOf_36 _ _ ih _ _ p1 _ _ p3 _ _ li_0 _ _ p2 _ _ hr
set_option maxHeartbeats 4000000 in
set_option maxRecDepth 100000 in
theorem q_X12_sayingsOf (x1 : Int32) (z1 : Int) (p1 : x1 = mJ z1) (ζ : ZS) (σ : HS) (hr : Rp ζ σ) : Sm QI (g_X12_sayingsOf z1 ζ) (f_X12_sayingsOf 0 x1 σ) := by
    unfold g_X12_sayingsOf f_X12_sayingsOf
    exact q_X12_sayingsOf_4 _ _ p1 FU _ _ li_0 _ _ li_0 _ _ hr
set_option maxHeartbeats 4000000 in
set_option maxRecDepth 100000 in
theorem q_X12_agree_84 (xs0 : Int32) (zs0 : Int) (ps0 : xs0 = mJ zs0) (ζ : ZS) (σ : HS) (hr : Rp ζ σ) : Sm QI (g_X12_agree_84 zs0 ζ) (f_X12_agree_84 xs0 σ) := by
    unfold g_X12_agree_84 f_X12_agree_84
    exact sm_ri ps0 hr
set_option maxHeartbeats 4000000 in
set_option maxRecDepth 100000 in
theorem q_X12_agree_66 (r20 : Int → Int → ZS → Option (Int × ZS)) (f20 : Int32 → Int32 → HS → Option (Int32 × HS)) (h20 : ∀ (x2 : Int32) (z2 : Int) (p2 : x2 = mJ z2) (x3 : Int32) (z3 : Int) (p3 : x3 = mJ z3) (ζ : ZS) (σ : HS), Rp ζ σ → Sm QI (r20 z2 z3 ζ) (f20 x2 x3 σ)) (x1 : Int32) (z1 : Int) (p1 : x1 = mJ z1) (x2 : Int32) (z2 : Int) (p2 : x2 = mJ z2) (x3 : Int32) (z3 : Int) (p3 : x3 = mJ z3) (ζ : ZS) (σ : HS) (hr : Rp ζ σ) : Sm QI (g_X12_agree_66 r20 z1 z2 z3 ζ) (f_X12_agree_66 f20 0 x1 x2 x3 σ) := by
    unfold g_X12_agree_66 f_X12_agree_66
    exact h20 _ _ p2 _ _ (pa p3 li_1) _ _ hr
set_option maxHeartbeats 4000000 in
set_option maxRecDepth 100000 in
theorem q_X12_agree_65 (r20 : Int → Int → ZS → Option (Int × ZS)) (f20 : Int32 → Int32 → HS → Option (Int32 × HS)) (h20 : ∀ (x2 : Int32) (z2 : Int) (p2 : x2 = mJ z2) (x3 : Int32) (z3 : Int) (p3 : x3 = mJ z3) (ζ : ZS) (σ : HS), Rp ζ σ → Sm QI (r20 z2 z3 ζ) (f20 x2 x3 σ)) (x1 : Int32) (z1 : Int) (p1 : x1 = mJ z1) (x3 : Int32) (z3 : Int) (p3 : x3 = mJ z3) (xs0 : Int32) (zs0 : Int) (ps0 : xs0 = mJ zs0) (ζ : ZS) (σ : HS) (hr : Rp ζ σ) : Sm QI (g_X12_agree_65 r20 z1 z3 zs0 ζ) (f_X12_agree_65 f20 0 x1 x3 xs0 σ) := by
    unfold g_X12_agree_65 f_X12_agree_65
    exact q_X12_agree_66 _ _ h20 _ _ p1 _ _ ps0 _ _ p3 _ _ hr
set_option maxHeartbeats 4000000 in
set_option maxRecDepth 100000 in
theorem q_X12_agree_20 (x1 : Int32) (z1 : Int) (p1 : x1 = mJ z1) : ∀ (n : Nat) (x2 : Int32) (z2 : Int) (p2 : x2 = mJ z2) (x3 : Int32) (z3 : Int) (p3 : x3 = mJ z3) (ζ : ZS) (σ : HS), Rp ζ σ → Sm QI (g_X12_agree_20 z1 n z2 z3 ζ) (f_X12_agree_20 0 x1 n x2 x3 σ) := by
  intro n
  induction n with
  | zero =>
    intro x2 z2 p2 x3 z3 p3 ζ σ hr
    exact sm_none
  | succ n ih =>
    intro x2 z2 p2 x3 z3 p3 ζ σ hr
    rw [g_X12_agree_20.eq_2, f_X12_agree_20.eq_2]
    refine sm_ile li_256 p3 ?_ ?_
    · refine sm_ieq p1 li_0 ?_ ?_
      · refine sm_bind (q_X12_bits _ _ p2 _ _ hr) (fun q1 w1 e1 => ?_)
        exact q_X12_agree_84 _ _ e1.1 _ _ e1.2
      · exact q_X12_agree_84 _ _ p2 _ _ hr
    · refine sm_bind (q_X12_bits _ _ p3 _ _ hr) (fun q2 w2 e2 => ?_)
      refine sm_bind (q_X12_bits _ _ p2 _ _ e2.2) (fun q3 w3 e3 => ?_)
      refine sm_ile e2.1 e3.1 ?_ ?_
      · exact q_X12_agree_66 _ _ ih _ _ p1 _ _ p2 _ _ p3 _ _ e3.2
      · refine sm_bind (q_X12_sayingsOf _ _ p3 _ _ e3.2) (fun q4 w4 e4 => ?_)
        refine sm_bind (q_X12_laysRows _ _ e4.1 _ _ e4.2) (fun q5 w5 e5 => ?_)
        refine sm_bind (q_X12_findCorners _ _ e5) (fun q6 w6 e6 => ?_)
        refine sm_rk (a := 20) (pts (rp_s e6) 0 28 20 rfl) kd_20 ?_
        refine sm_ck li_0 ln_20 (fun b107 => ?_)
        refine sm_ile (rdI (a := 20) e6 li_0 b107 (Nat.le_of_ble_eq_true rfl)) li_0 ?_ ?_
        · exact q_X12_agree_65 _ _ ih _ _ p1 _ _ p3 _ _ p2 _ _ e6
        · exact q_X12_agree_65 _ _ ih _ _ p1 _ _ p3 _ _ p3 _ _ e6
set_option maxHeartbeats 4000000 in
set_option maxRecDepth 100000 in
theorem q_X12_agree (x1 : Int32) (z1 : Int) (p1 : x1 = mJ z1) (ζ : ZS) (σ : HS) (hr : Rp ζ σ) : Sm QI (g_X12_agree z1 ζ) (f_X12_agree 0 x1 σ) := by
    unfold g_X12_agree f_X12_agree
    have hr101 := rwI (a := 0) (k := 0) hr li_0
    refine sm_bind (q_X12_within _ _ p1 _ _ li_0 _ _ li_1 _ _ hr101) (fun q2 w2 e2 => ?_)
    refine sm_ieq e2.1 li_0 ?_ ?_
    · exact sm_ri li_m1 e2.2
    · exact q_X12_agree_20 _ _ p1 FU _ _ li_0 _ _ li_0 _ _ e2.2
set_option maxHeartbeats 4000000 in
set_option maxRecDepth 100000 in
theorem q_X12_yields_122 (xs0 : Int32) (zs0 : Int) (ps0 : xs0 = mJ zs0) (ζ : ZS) (σ : HS) (hr : Rp ζ σ) : Sm QI (g_X12_yields_122 zs0 ζ) (f_X12_yields_122 xs0 σ) := by
    unfold g_X12_yields_122 f_X12_yields_122
    exact sm_ri ps0 hr
set_option maxHeartbeats 4000000 in
set_option maxRecDepth 100000 in
theorem q_X12_yields_96 (r20 : Int → Int → ZS → Option (Int × ZS)) (f20 : Int32 → Int32 → HS → Option (Int32 × HS)) (h20 : ∀ (x2 : Int32) (z2 : Int) (p2 : x2 = mJ z2) (x3 : Int32) (z3 : Int) (p3 : x3 = mJ z3) (ζ : ZS) (σ : HS), Rp ζ σ → Sm QI (r20 z2 z3 ζ) (f20 x2 x3 σ)) (x1 : Int32) (z1 : Int) (p1 : x1 = mJ z1) (x2 : Int32) (z2 : Int) (p2 : x2 = mJ z2) (x3 : Int32) (z3 : Int) (p3 : x3 = mJ z3) (ζ : ZS) (σ : HS) (hr : Rp ζ σ) : Sm QI (g_X12_yields_96 r20 z1 z2 z3 ζ) (f_X12_yields_96 f20 0 x1 x2 x3 σ) := by
    unfold g_X12_yields_96 f_X12_yields_96
    exact h20 _ _ p2 _ _ (pa p3 li_1) _ _ hr
set_option maxHeartbeats 4000000 in
set_option maxRecDepth 100000 in
theorem q_X12_yields_95 (r20 : Int → Int → ZS → Option (Int × ZS)) (f20 : Int32 → Int32 → HS → Option (Int32 × HS)) (h20 : ∀ (x2 : Int32) (z2 : Int) (p2 : x2 = mJ z2) (x3 : Int32) (z3 : Int) (p3 : x3 = mJ z3) (ζ : ZS) (σ : HS), Rp ζ σ → Sm QI (r20 z2 z3 ζ) (f20 x2 x3 σ)) (x1 : Int32) (z1 : Int) (p1 : x1 = mJ z1) (x3 : Int32) (z3 : Int) (p3 : x3 = mJ z3) (xs0 : Int32) (zs0 : Int) (ps0 : xs0 = mJ zs0) (ζ : ZS) (σ : HS) (hr : Rp ζ σ) : Sm QI (g_X12_yields_95 r20 z1 z3 zs0 ζ) (f_X12_yields_95 f20 0 x1 x3 xs0 σ) := by
    unfold g_X12_yields_95 f_X12_yields_95
    exact q_X12_yields_96 _ _ h20 _ _ p1 _ _ ps0 _ _ p3 _ _ hr
set_option maxHeartbeats 4000000 in
set_option maxRecDepth 100000 in
theorem q_X12_yields_94 (r20 : Int → Int → ZS → Option (Int × ZS)) (f20 : Int32 → Int32 → HS → Option (Int32 × HS)) (h20 : ∀ (x2 : Int32) (z2 : Int) (p2 : x2 = mJ z2) (x3 : Int32) (z3 : Int) (p3 : x3 = mJ z3) (ζ : ZS) (σ : HS), Rp ζ σ → Sm QI (r20 z2 z3 ζ) (f20 x2 x3 σ)) (x1 : Int32) (z1 : Int) (p1 : x1 = mJ z1) (x2 : Int32) (z2 : Int) (p2 : x2 = mJ z2) (x3 : Int32) (z3 : Int) (p3 : x3 = mJ z3) (ζ : ZS) (σ : HS) (hr : Rp ζ σ) : Sm QI (g_X12_yields_94 r20 z1 z2 z3 ζ) (f_X12_yields_94 f20 0 x1 x2 x3 σ) := by
    unfold g_X12_yields_94 f_X12_yields_94
    exact q_X12_yields_95 _ _ h20 _ _ p1 _ _ p3 _ _ p2 _ _ hr
set_option maxHeartbeats 4000000 in
set_option maxRecDepth 100000 in
theorem q_X12_yields_53 (r20 : Int → Int → ZS → Option (Int × ZS)) (f20 : Int32 → Int32 → HS → Option (Int32 × HS)) (h20 : ∀ (x2 : Int32) (z2 : Int) (p2 : x2 = mJ z2) (x3 : Int32) (z3 : Int) (p3 : x3 = mJ z3) (ζ : ZS) (σ : HS), Rp ζ σ → Sm QI (r20 z2 z3 ζ) (f20 x2 x3 σ)) (x1 : Int32) (z1 : Int) (p1 : x1 = mJ z1) (x2 : Int32) (z2 : Int) (p2 : x2 = mJ z2) (x3 : Int32) (z3 : Int) (p3 : x3 = mJ z3) (ζ : ZS) (σ : HS) (hr : Rp ζ σ) : Sm QI (g_X12_yields_53 r20 z1 z2 z3 ζ) (f_X12_yields_53 f20 0 x1 x2 x3 σ) := by
    unfold g_X12_yields_53 f_X12_yields_53
    refine sm_bind (q_X12_sayingsOf _ _ (pand (hr.1 0 23) (pxor p3 li_m1)) _ _ hr) (fun q1 w1 e1 => ?_)
    refine sm_bind (q_X12_laysRows _ _ e1.1 _ _ e1.2) (fun q2 w2 e2 => ?_)
    refine sm_bind (q_X12_findCorners _ _ e2) (fun q3 w3 e3 => ?_)
    refine sm_rk (a := 20) (pts (rp_s e3) 0 28 20 rfl) kd_20 ?_
    refine sm_ck li_0 ln_20 (fun b104 => ?_)
    refine sm_ile (rdI (a := 20) e3 li_0 b104 (Nat.le_of_ble_eq_true rfl)) li_0 ?_ ?_
    · exact q_X12_yields_94 _ _ h20 _ _ p1 _ _ p2 _ _ p3 _ _ e3
    · refine sm_bind (q_X12_sureBest _ _ li_0 _ _ e3) (fun q5 w5 e5 => ?_)
      refine sm_ieq e5.1 li_0 ?_ ?_
      · exact q_X12_yields_94 _ _ h20 _ _ p1 _ _ p2 _ _ p3 _ _ e5.2
      · exact q_X12_yields_95 _ _ h20 _ _ p1 _ _ p3 _ _ p3 _ _ e5.2
set_option maxHeartbeats 4000000 in
set_option maxRecDepth 100000 in
theorem q_X12_yields_20 (x1 : Int32) (z1 : Int) (p1 : x1 = mJ z1) : ∀ (n : Nat) (x2 : Int32) (z2 : Int) (p2 : x2 = mJ z2) (x3 : Int32) (z3 : Int) (p3 : x3 = mJ z3) (ζ : ZS) (σ : HS), Rp ζ σ → Sm QI (g_X12_yields_20 z1 n z2 z3 ζ) (f_X12_yields_20 0 x1 n x2 x3 σ) := by
  intro n
  induction n with
  | zero =>
    intro x2 z2 p2 x3 z3 p3 ζ σ hr
    exact sm_none
  | succ n ih =>
    intro x2 z2 p2 x3 z3 p3 ζ σ hr
    rw [g_X12_yields_20.eq_2, f_X12_yields_20.eq_2]
    refine sm_ile li_256 p3 ?_ ?_
    · refine sm_ile li_0 p2 ?_ ?_
      · refine sm_ieq p1 li_0 ?_ ?_
        · refine sm_bind (q_X12_bits _ _ p2 _ _ hr) (fun q1 w1 e1 => ?_)
          exact q_X12_yields_122 _ _ e1.1 _ _ e1.2
        · exact q_X12_yields_122 _ _ p2 _ _ hr
      · exact q_X12_yields_122 _ _ li_m1 _ _ hr
    · refine sm_ieq (pand p3 (pxor (hr.1 0 23) li_m1)) li_0 ?_ ?_
      · refine sm_ilt p2 li_0 ?_ ?_
        · exact q_X12_yields_53 _ _ ih _ _ p1 _ _ p2 _ _ p3 _ _ hr
        · refine sm_bind (q_X12_bits _ _ p3 _ _ hr) (fun q2 w2 e2 => ?_)
          refine sm_bind (q_X12_bits _ _ p2 _ _ e2.2) (fun q3 w3 e3 => ?_)
          refine sm_ile e3.1 e2.1 ?_ ?_
          · exact q_X12_yields_96 _ _ ih _ _ p1 _ _ p2 _ _ p3 _ _ e3.2
          · exact q_X12_yields_53 _ _ ih _ _ p1 _ _ p2 _ _ p3 _ _ e3.2
      · exact q_X12_yields_96 _ _ ih _ _ p1 _ _ p2 _ _ p3 _ _ hr
set_option maxHeartbeats 4000000 in
set_option maxRecDepth 100000 in
theorem q_X12_yields (x1 : Int32) (z1 : Int) (p1 : x1 = mJ z1) (ζ : ZS) (σ : HS) (hr : Rp ζ σ) : Sm QI (g_X12_yields z1 ζ) (f_X12_yields 0 x1 σ) := by
    unfold g_X12_yields f_X12_yields
    have hr101 := rwI (a := 0) (k := 0) hr li_0
    refine sm_bind (q_X12_within _ _ p1 _ _ li_0 _ _ li_1 _ _ hr101) (fun q2 w2 e2 => ?_)
    refine sm_ieq e2.1 li_0 ?_ ?_
    · exact sm_ri li_m1 e2.2
    · exact q_X12_yields_20 _ _ p1 FU _ _ li_m1 _ _ li_0 _ _ e2.2
set_option maxHeartbeats 4000000 in
set_option maxRecDepth 100000 in
theorem q_X12_row_85 (x2 : Int32) (z2 : Int) (p2 : x2 = mJ z2) (ζ : ZS) (σ : HS) (hr : Rp ζ σ) : Sm QI (g_X12_row_85 z2 ζ) (f_X12_row_85 x2 σ) := by
    unfold g_X12_row_85 f_X12_row_85
    exact sm_zr p2 hr
set_option maxHeartbeats 4000000 in
set_option maxRecDepth 100000 in
theorem q_X12_row_54 (r27 : Int → Int → ZS → Option (Int × ZS)) (f27 : Int32 → Int32 → HS → Option (Int32 × HS)) (h27 : ∀ (x2 : Int32) (z2 : Int) (p2 : x2 = mJ z2) (x3 : Int32) (z3 : Int) (p3 : x3 = mJ z3) (ζ : ZS) (σ : HS), Rp ζ σ → Sm QI (r27 z2 z3 ζ) (f27 x2 x3 σ)) (x1 : Int32) (z1 : Int) (p1 : x1 = mJ z1) (x3 : Int32) (z3 : Int) (p3 : x3 = mJ z3) (xs0 : Int32) (zs0 : Int) (ps0 : xs0 = mJ zs0) (ζ : ZS) (σ : HS) (hr : Rp ζ σ) : Sm QI (g_X12_row_54 r27 z1 z3 zs0 ζ) (f_X12_row_54 f27 0 x1 x3 xs0 σ) := by
    unfold g_X12_row_54 f_X12_row_54
    exact h27 _ _ ps0 _ _ (pa p3 li_1) _ _ hr
set_option maxHeartbeats 4000000 in
set_option maxRecDepth 100000 in
theorem q_X12_row_53 (r27 : Int → Int → ZS → Option (Int × ZS)) (f27 : Int32 → Int32 → HS → Option (Int32 × HS)) (h27 : ∀ (x2 : Int32) (z2 : Int) (p2 : x2 = mJ z2) (x3 : Int32) (z3 : Int) (p3 : x3 = mJ z3) (ζ : ZS) (σ : HS), Rp ζ σ → Sm QI (r27 z2 z3 ζ) (f27 x2 x3 σ)) (x1 : Int32) (z1 : Int) (p1 : x1 = mJ z1) (x3 : Int32) (z3 : Int) (p3 : x3 = mJ z3) (ζ : ZS) (σ : HS) (hr : Rp ζ σ) : Sm QI (g_X12_row_53 r27 z1 z3 ζ) (f_X12_row_53 f27 0 x1 x3 σ) := by
    unfold g_X12_row_53 f_X12_row_53
    exact q_X12_row_54 _ _ h27 _ _ p1 _ _ p3 _ _ li_0 _ _ hr
set_option maxHeartbeats 4000000 in
set_option maxRecDepth 100000 in
theorem q_X12_row_27 (x1 : Int32) (z1 : Int) (p1 : x1 = mJ z1) : ∀ (n : Nat) (x2 : Int32) (z2 : Int) (p2 : x2 = mJ z2) (x3 : Int32) (z3 : Int) (p3 : x3 = mJ z3) (ζ : ZS) (σ : HS), Rp ζ σ → Sm QI (g_X12_row_27 z1 n z2 z3 ζ) (f_X12_row_27 0 x1 n x2 x3 σ) := by
  intro n
  induction n with
  | zero =>
    intro x2 z2 p2 x3 z3 p3 ζ σ hr
    exact sm_none
  | succ n ih =>
    intro x2 z2 p2 x3 z3 p3 ζ σ hr
    rw [g_X12_row_27.eq_2, f_X12_row_27.eq_2]
    refine sm_ile (hr.1 0 24) p3 ?_ ?_
    · refine sm_ieq p2 li_0 ?_ ?_
      · exact q_X12_row_85 _ _ p2 _ _ hr
      · refine sm_rk (a := 18) (pts (rp_s hr) 0 25 18 rfl) kd_18 ?_
        refine sm_ck (hr.1 0 24) ln_18 (fun b101 => ?_)
        have hr102 := raI (a := 18) hr (hr.1 0 24) b101 (Nat.le_of_ble_eq_true rfl) p1
        have hr103 := rwI (a := 0) (k := 24) hr102 (pa (hr102.1 0 24) li_1)
        exact q_X12_row_85 _ _ p2 _ _ hr103
    · refine sm_ieq p2 li_0 ?_ ?_
      · exact q_X12_row_53 _ _ ih _ _ p1 _ _ p3 _ _ hr
      · refine sm_rk (a := 18) (pts (rp_s hr) 0 25 18 rfl) kd_18 ?_
        refine sm_ck p3 ln_18 (fun b104 => ?_)
        refine sm_ieq (rdI (a := 18) hr p3 b104 (Nat.le_of_ble_eq_true rfl)) p1 ?_ ?_
        · exact q_X12_row_53 _ _ ih _ _ p1 _ _ p3 _ _ hr
        · exact q_X12_row_54 _ _ ih _ _ p1 _ _ p3 _ _ li_1 _ _ hr
set_option maxHeartbeats 4000000 in
set_option maxRecDepth 100000 in
theorem q_X12_row (x1 : Int32) (z1 : Int) (p1 : x1 = mJ z1) (ζ : ZS) (σ : HS) (hr : Rp ζ σ) : Sm QI (g_X12_row z1 ζ) (f_X12_row 0 x1 σ) := by
    unfold g_X12_row f_X12_row
    have hr101 := rwI (a := 0) (k := 0) hr li_0
    refine sm_ieq p1 li_m1 ?_ ?_
    · have hr103 := rwI (a := 0) (k := 24) hr101 li_0
      exact sm_ri li_1 hr103
    · refine sm_bind (q_X12_within _ _ p1 _ _ li_0 _ _ li_7 _ _ hr101) (fun q2 w2 e2 => ?_)
      exact q_X12_row_27 _ _ p1 FU _ _ e2.1 _ _ li_0 _ _ e2.2
set_option maxHeartbeats 4000000 in
set_option maxRecDepth 100000 in
theorem q_X12_judged_21  (ζ : ZS) (σ : HS) (hr : Rp ζ σ) : Sm QI (g_X12_judged_21 ζ) (f_X12_judged_21 σ) := by
    unfold g_X12_judged_21 f_X12_judged_21
    exact sm_ri li_m1 hr
set_option maxHeartbeats 4000000 in
set_option maxRecDepth 100000 in
theorem q_X12_judged_121 (xs0 : Int32) (zs0 : Int) (ps0 : xs0 = mJ zs0) (ζ : ZS) (σ : HS) (hr : Rp ζ σ) : Sm QI (g_X12_judged_121 zs0 ζ) (f_X12_judged_121 xs0 σ) := by
    unfold g_X12_judged_121 f_X12_judged_121
    exact sm_ri ps0 hr
set_option maxHeartbeats 4000000 in
set_option maxRecDepth 100000 in
theorem q_X12_judged_105 (xs0 : Int32) (zs0 : Int) (ps0 : xs0 = mJ zs0) (ζ : ZS) (σ : HS) (hr : Rp ζ σ) : Sm QI (g_X12_judged_105 zs0 ζ) (f_X12_judged_105 xs0 σ) := by
    unfold g_X12_judged_105 f_X12_judged_105
    exact sm_ri ps0 hr
set_option maxHeartbeats 4000000 in
set_option maxRecDepth 100000 in
theorem q_X12_judged_56 (x1 : Int32) (z1 : Int) (p1 : x1 = mJ z1) : ∀ (n : Nat) (x2 : Int32) (z2 : Int) (p2 : x2 = mJ z2) (ζ : ZS) (σ : HS), Rp ζ σ → Sm QI (g_X12_judged_56 z1 n z2 ζ) (f_X12_judged_56 0 x1 n x2 σ) := by
  intro n
  induction n with
  | zero =>
    intro x2 z2 p2 ζ σ hr
    exact sm_none
  | succ n ih =>
    intro x2 z2 p2 ζ σ hr
    rw [g_X12_judged_56.eq_2, f_X12_judged_56.eq_2]
    refine sm_ile (hr.1 0 24) p2 ?_ ?_
    · refine sm_ieq p1 li_0 ?_ ?_
      · exact q_X12_judged_121 _ _ li_1 _ _ hr
      · exact q_X12_judged_121 _ _ li_m1 _ _ hr
    · refine sm_rk (a := 18) (pts (rp_s hr) 0 25 18 rfl) kd_18 ?_
      refine sm_ck (ps p2 li_1) ln_18 (fun b101 => ?_)
      refine sm_rk (a := 18) (pts (rp_s hr) 0 25 18 rfl) kd_18 ?_
      refine sm_ck p2 ln_18 (fun b102 => ?_)
      refine sm_bind (q_X12_addsAbove _ _ (rdI (a := 18) hr (ps p2 li_1) b101 (Nat.le_of_ble_eq_true rfl)) _ _ (rdI (a := 18) hr p2 b102 (Nat.le_of_ble_eq_true rfl)) _ _ hr) (fun q3 w3 e3 => ?_)
      refine sm_bind (q_X12_findMore _ _ p2 _ _ e3) (fun q4 w4 e4 => ?_)
      refine sm_rk (a := 20) (pts (rp_s e4) 0 28 20 rfl) kd_20 ?_
      refine sm_ck p2 ln_20 (fun b105 => ?_)
      refine sm_ieq (rdI (a := 20) e4 p2 b105 (Nat.le_of_ble_eq_true rfl)) li_0 ?_ ?_
      · refine sm_ieq p1 li_0 ?_ ?_
        · exact q_X12_judged_105 _ _ li_0 _ _ e4
        · exact q_X12_judged_105 _ _ p2 _ _ e4
      · exact ih _ _ (pa p2 li_1) _ _ e4
set_option maxHeartbeats 4000000 in
set_option maxRecDepth 100000 in
theorem q_X12_judged_25 (x1 : Int32) (z1 : Int) (p1 : x1 = mJ z1) : ∀ (n : Nat) (x2 : Int32) (z2 : Int) (p2 : x2 = mJ z2) (ζ : ZS) (σ : HS), Rp ζ σ → Sm QI (g_X12_judged_25 z1 n z2 ζ) (f_X12_judged_25 0 x1 n x2 σ) := by
  intro n
  induction n with
  | zero =>
    intro x2 z2 p2 ζ σ hr
    exact sm_none
  | succ n ih =>
    intro x2 z2 p2 ζ σ hr
    rw [g_X12_judged_25.eq_2, f_X12_judged_25.eq_2]
    refine sm_ile (hr.1 0 24) p2 ?_ ?_
    · exact q_X12_judged_56 _ _ p1 FU _ _ li_1 _ _ hr
    · refine sm_rk (a := 18) (pts (rp_s hr) 0 25 18 rfl) kd_18 ?_
      refine sm_ck p2 ln_18 (fun b101 => ?_)
      refine sm_bind (q_X12_isIn _ _ (rdI (a := 18) hr p2 b101 (Nat.le_of_ble_eq_true rfl)) _ _ hr) (fun q2 w2 e2 => ?_)
      refine sm_ieq e2.1 li_0 ?_ ?_
      · exact sm_ri li_m1 e2.2
      · exact ih _ _ (pa p2 li_1) _ _ e2.2
set_option maxHeartbeats 4000000 in
set_option maxRecDepth 100000 in
theorem q_X12_judged (x1 : Int32) (z1 : Int) (p1 : x1 = mJ z1) (ζ : ZS) (σ : HS) (hr : Rp ζ σ) : Sm QI (g_X12_judged z1 ζ) (f_X12_judged 0 x1 σ) := by
    unfold g_X12_judged f_X12_judged
    have hr101 := rwI (a := 0) (k := 0) hr li_0
    refine sm_bind (q_X12_within _ _ p1 _ _ li_0 _ _ li_1 _ _ hr101) (fun q2 w2 e2 => ?_)
    refine sm_ieq e2.1 li_0 ?_ ?_
    · exact q_X12_judged_21 _ _ e2.2
    · refine sm_bind (q_X12_findNow _ _ e2.2) (fun q3 w3 e3 => ?_)
      refine sm_ieq e3.1 li_0 ?_ ?_
      · exact q_X12_judged_21 _ _ e3.2
      · exact q_X12_judged_25 _ _ p1 FU _ _ li_0 _ _ e3.2
set_option maxHeartbeats 4000000 in
set_option maxRecDepth 100000 in
theorem q_X12_worst_114 (r11 : Int → Int → Int → ZS → Option (Int × ZS)) (f11 : Int32 → Int32 → Int32 → HS → Option (Int32 × HS)) (h11 : ∀ (x1 : Int32) (z1 : Int) (p1 : x1 = mJ z1) (x2 : Int32) (z2 : Int) (p2 : x2 = mJ z2) (x3 : Int32) (z3 : Int) (p3 : x3 = mJ z3) (ζ : ZS) (σ : HS), Rp ζ σ → Sm QI (r11 z1 z2 z3 ζ) (f11 x1 x2 x3 σ)) (x1 : Int32) (z1 : Int) (p1 : x1 = mJ z1) (x2 : Int32) (z2 : Int) (p2 : x2 = mJ z2) (x3 : Int32) (z3 : Int) (p3 : x3 = mJ z3) (ζ : ZS) (σ : HS) (hr : Rp ζ σ) : Sm QI (g_X12_worst_114 r11 z1 z2 z3 ζ) (f_X12_worst_114 f11 0 x1 x2 x3 σ) := by
    unfold g_X12_worst_114 f_X12_worst_114
    exact h11 _ _ p1 _ _ p2 _ _ (pa p3 li_1) _ _ hr
set_option maxHeartbeats 4000000 in
set_option maxRecDepth 100000 in
theorem q_X12_worst_113 (r11 : Int → Int → Int → ZS → Option (Int × ZS)) (f11 : Int32 → Int32 → Int32 → HS → Option (Int32 × HS)) (h11 : ∀ (x1 : Int32) (z1 : Int) (p1 : x1 = mJ z1) (x2 : Int32) (z2 : Int) (p2 : x2 = mJ z2) (x3 : Int32) (z3 : Int) (p3 : x3 = mJ z3) (ζ : ZS) (σ : HS), Rp ζ σ → Sm QI (r11 z1 z2 z3 ζ) (f11 x1 x2 x3 σ)) (x2 : Int32) (z2 : Int) (p2 : x2 = mJ z2) (x3 : Int32) (z3 : Int) (p3 : x3 = mJ z3) (xs0 : Int32) (zs0 : Int) (ps0 : xs0 = mJ zs0) (ζ : ZS) (σ : HS) (hr : Rp ζ σ) : Sm QI (g_X12_worst_113 r11 z2 z3 zs0 ζ) (f_X12_worst_113 f11 0 x2 x3 xs0 σ) := by
    unfold g_X12_worst_113 f_X12_worst_113
    exact q_X12_worst_114 _ _ h11 _ _ ps0 _ _ p2 _ _ p3 _ _ hr
set_option maxHeartbeats 4000000 in
set_option maxRecDepth 100000 in
theorem q_X12_worst_100 (r11 : Int → Int → Int → ZS → Option (Int × ZS)) (f11 : Int32 → Int32 → Int32 → HS → Option (Int32 × HS)) (h11 : ∀ (x1 : Int32) (z1 : Int) (p1 : x1 = mJ z1) (x2 : Int32) (z2 : Int) (p2 : x2 = mJ z2) (x3 : Int32) (z3 : Int) (p3 : x3 = mJ z3) (ζ : ZS) (σ : HS), Rp ζ σ → Sm QI (r11 z1 z2 z3 ζ) (f11 x1 x2 x3 σ)) (x1 : Int32) (z1 : Int) (p1 : x1 = mJ z1) (x3 : Int32) (z3 : Int) (p3 : x3 = mJ z3) (x4 : Int32) (z4 : Int) (p4 : x4 = mJ z4) (xs0 : Int32) (zs0 : Int) (ps0 : xs0 = mJ zs0) (ζ : ZS) (σ : HS) (hr : Rp ζ σ) : Sm QI (g_X12_worst_100 r11 z1 z3 z4 zs0 ζ) (f_X12_worst_100 f11 0 x1 x3 x4 xs0 σ) := by
    unfold g_X12_worst_100 f_X12_worst_100
    refine sm_ile p4 p1 ?_ ?_
    · exact q_X12_worst_113 _ _ h11 _ _ ps0 _ _ p3 _ _ p1 _ _ hr
    · exact q_X12_worst_113 _ _ h11 _ _ ps0 _ _ p3 _ _ p4 _ _ hr
set_option maxHeartbeats 4000000 in
set_option maxRecDepth 100000 in
theorem q_X12_worst_65 (r11 : Int → Int → Int → ZS → Option (Int × ZS)) (f11 : Int32 → Int32 → Int32 → HS → Option (Int32 × HS)) (h11 : ∀ (x1 : Int32) (z1 : Int) (p1 : x1 = mJ z1) (x2 : Int32) (z2 : Int) (p2 : x2 = mJ z2) (x3 : Int32) (z3 : Int) (p3 : x3 = mJ z3) (ζ : ZS) (σ : HS), Rp ζ σ → Sm QI (r11 z1 z2 z3 ζ) (f11 x1 x2 x3 σ)) (r32 : Int → Int → ZS → Option (Int × ZS)) (f32 : Int32 → Int32 → HS → Option (Int32 × HS)) (h32 : ∀ (x4 : Int32) (z4 : Int) (p4 : x4 = mJ z4) (x5 : Int32) (z5 : Int) (p5 : x5 = mJ z5) (ζ : ZS) (σ : HS), Rp ζ σ → Sm QI (r32 z4 z5 ζ) (f32 x4 x5 σ)) (x1 : Int32) (z1 : Int) (p1 : x1 = mJ z1) (x2 : Int32) (z2 : Int) (p2 : x2 = mJ z2) (x3 : Int32) (z3 : Int) (p3 : x3 = mJ z3) (x5 : Int32) (z5 : Int) (p5 : x5 = mJ z5) (xs0 : Int32) (zs0 : Int) (ps0 : xs0 = mJ zs0) (ζ : ZS) (σ : HS) (hr : Rp ζ σ) : Sm QI (g_X12_worst_65 r11 r32 z1 z2 z3 z5 zs0 ζ) (f_X12_worst_65 f11 f32 0 x1 x2 x3 x5 xs0 σ) := by
    unfold g_X12_worst_65 f_X12_worst_65
    exact h32 _ _ ps0 _ _ (pa p5 li_1) _ _ hr
set_option maxHeartbeats 4000000 in
set_option maxRecDepth 100000 in
theorem q_X12_worst_32 (x1 : Int32) (z1 : Int) (p1 : x1 = mJ z1) (x2 : Int32) (z2 : Int) (p2 : x2 = mJ z2) (x3 : Int32) (z3 : Int) (p3 : x3 = mJ z3) (r11 : Int → Int → Int → ZS → Option (Int × ZS)) (f11 : Int32 → Int32 → Int32 → HS → Option (Int32 × HS)) (h11 : ∀ (x1 : Int32) (z1 : Int) (p1 : x1 = mJ z1) (x2 : Int32) (z2 : Int) (p2 : x2 = mJ z2) (x3 : Int32) (z3 : Int) (p3 : x3 = mJ z3) (ζ : ZS) (σ : HS), Rp ζ σ → Sm QI (r11 z1 z2 z3 ζ) (f11 x1 x2 x3 σ)) : ∀ (n : Nat) (x4 : Int32) (z4 : Int) (p4 : x4 = mJ z4) (x5 : Int32) (z5 : Int) (p5 : x5 = mJ z5) (ζ : ZS) (σ : HS), Rp ζ σ → Sm QI (g_X12_worst_32 z1 z2 z3 r11 n z4 z5 ζ) (f_X12_worst_32 0 x1 x2 x3 f11 n x4 x5 σ) := by
  intro n
  induction n with
  | zero =>
    intro x4 z4 p4 x5 z5 p5 ζ σ hr
    exact sm_none
  | succ n ih =>
    intro x4 z4 p4 x5 z5 p5 ζ σ hr
    rw [g_X12_worst_32.eq_2, f_X12_worst_32.eq_2]
    refine sm_ile (hr.1 0 20) p5 ?_ ?_
    · refine sm_ile p4 p1 ?_ ?_
      · refine sm_ieq p4 p1 ?_ ?_
        · exact q_X12_worst_100 _ _ h11 _ _ p1 _ _ p3 _ _ p4 _ _ (por p2 (pshl li_1 p3)) _ _ hr
        · exact q_X12_worst_100 _ _ h11 _ _ p1 _ _ p3 _ _ p4 _ _ p2 _ _ hr
      · exact q_X12_worst_100 _ _ h11 _ _ p1 _ _ p3 _ _ p4 _ _ (pshl li_1 p3) _ _ hr
    · refine sm_bind (q_X12_valueOf _ _ p3 _ _ p5 _ _ hr) (fun q1 w1 e1 => ?_)
      refine sm_ile p4 e1.1 ?_ ?_
      · exact q_X12_worst_65 _ _ h11 _ _ ih _ _ p1 _ _ p2 _ _ p3 _ _ p5 _ _ p4 _ _ e1.2
      · refine sm_bind (q_X12_valueOf _ _ p3 _ _ p5 _ _ e1.2) (fun q2 w2 e2 => ?_)
        exact q_X12_worst_65 _ _ h11 _ _ ih _ _ p1 _ _ p2 _ _ p3 _ _ p5 _ _ e2.1 _ _ e2.2
set_option maxHeartbeats 4000000 in
set_option maxRecDepth 100000 in
theorem q_X12_worst_11  : ∀ (n : Nat) (x1 : Int32) (z1 : Int) (p1 : x1 = mJ z1) (x2 : Int32) (z2 : Int) (p2 : x2 = mJ z2) (x3 : Int32) (z3 : Int) (p3 : x3 = mJ z3) (ζ : ZS) (σ : HS), Rp ζ σ → Sm QI (g_X12_worst_11 n z1 z2 z3 ζ) (f_X12_worst_11 0 n x1 x2 x3 σ) := by
  intro n
  induction n with
  | zero =>
    intro x1 z1 p1 x2 z2 p2 x3 z3 p3 ζ σ hr
    exact sm_none
  | succ n ih =>
    intro x1 z1 p1 x2 z2 p2 x3 z3 p3 ζ σ hr
    rw [g_X12_worst_11.eq_2, f_X12_worst_11.eq_2]
    refine sm_ile li_8 p3 ?_ ?_
    · exact sm_ri p2 hr
    · refine sm_bind (q_X12_isIn _ _ p3 _ _ hr) (fun q1 w1 e1 => ?_)
      refine sm_ieq e1.1 li_0 ?_ ?_
      · exact q_X12_worst_114 _ _ ih _ _ p1 _ _ p2 _ _ p3 _ _ e1.2
      · exact q_X12_worst_32 _ _ p1 _ _ p2 _ _ p3 _ _ ih FU _ _ li_100 _ _ li_0 _ _ e1.2
set_option maxHeartbeats 4000000 in
set_option maxRecDepth 100000 in
theorem q_X12_worst  (ζ : ZS) (σ : HS) (hr : Rp ζ σ) : Sm QI (g_X12_worst ζ) (f_X12_worst 0 σ) := by
    unfold g_X12_worst f_X12_worst
    have hr101 := rwI (a := 0) (k := 0) hr li_0
    exact q_X12_worst_11 FU _ _ li_m1 _ _ li_0 _ _ li_0 _ _ hr101
set_option maxHeartbeats 4000000 in
set_option maxRecDepth 100000 in
theorem q_X12_bestOf_80 (r8 : Int → Int → Int → ZS → Option (Int × ZS)) (f8 : Int32 → Int32 → Int32 → HS → Option (Int32 × HS)) (h8 : ∀ (x3 : Int32) (z3 : Int) (p3 : x3 = mJ z3) (x4 : Int32) (z4 : Int) (p4 : x4 = mJ z4) (x5 : Int32) (z5 : Int) (p5 : x5 = mJ z5) (ζ : ZS) (σ : HS), Rp ζ σ → Sm QI (r8 z3 z4 z5 ζ) (f8 x3 x4 x5 σ)) (x1 : Int32) (z1 : Int) (p1 : x1 = mJ z1) (x2 : Int32) (z2 : Int) (p2 : x2 = mJ z2) (x3 : Int32) (z3 : Int) (p3 : x3 = mJ z3) (x4 : Int32) (z4 : Int) (p4 : x4 = mJ z4) (x5 : Int32) (z5 : Int) (p5 : x5 = mJ z5) (ζ : ZS) (σ : HS) (hr : Rp ζ σ) : Sm QI (g_X12_bestOf_80 r8 z1 z2 z3 z4 z5 ζ) (f_X12_bestOf_80 f8 0 x1 x2 x3 x4 x5 σ) := by
    unfold g_X12_bestOf_80 f_X12_bestOf_80
    exact h8 _ _ p3 _ _ p4 _ _ (pa p5 li_1) _ _ hr
set_option maxHeartbeats 4000000 in
set_option maxRecDepth 100000 in
theorem q_X12_bestOf_79 (r8 : Int → Int → Int → ZS → Option (Int × ZS)) (f8 : Int32 → Int32 → Int32 → HS → Option (Int32 × HS)) (h8 : ∀ (x3 : Int32) (z3 : Int) (p3 : x3 = mJ z3) (x4 : Int32) (z4 : Int) (p4 : x4 = mJ z4) (x5 : Int32) (z5 : Int) (p5 : x5 = mJ z5) (ζ : ZS) (σ : HS), Rp ζ σ → Sm QI (r8 z3 z4 z5 ζ) (f8 x3 x4 x5 σ)) (x1 : Int32) (z1 : Int) (p1 : x1 = mJ z1) (x2 : Int32) (z2 : Int) (p2 : x2 = mJ z2) (x4 : Int32) (z4 : Int) (p4 : x4 = mJ z4) (x5 : Int32) (z5 : Int) (p5 : x5 = mJ z5) (xs0 : Int32) (zs0 : Int) (ps0 : xs0 = mJ zs0) (ζ : ZS) (σ : HS) (hr : Rp ζ σ) : Sm QI (g_X12_bestOf_79 r8 z1 z2 z4 z5 zs0 ζ) (f_X12_bestOf_79 f8 0 x1 x2 x4 x5 xs0 σ) := by
    unfold g_X12_bestOf_79 f_X12_bestOf_79
    exact q_X12_bestOf_80 _ _ h8 _ _ p1 _ _ p2 _ _ ps0 _ _ p4 _ _ p5 _ _ hr
set_option maxHeartbeats 4000000 in
set_option maxRecDepth 100000 in
theorem q_X12_bestOf_65 (r8 : Int → Int → Int → ZS → Option (Int × ZS)) (f8 : Int32 → Int32 → Int32 → HS → Option (Int32 × HS)) (h8 : ∀ (x3 : Int32) (z3 : Int) (p3 : x3 = mJ z3) (x4 : Int32) (z4 : Int) (p4 : x4 = mJ z4) (x5 : Int32) (z5 : Int) (p5 : x5 = mJ z5) (ζ : ZS) (σ : HS), Rp ζ σ → Sm QI (r8 z3 z4 z5 ζ) (f8 x3 x4 x5 σ)) (x1 : Int32) (z1 : Int) (p1 : x1 = mJ z1) (x2 : Int32) (z2 : Int) (p2 : x2 = mJ z2) (x3 : Int32) (z3 : Int) (p3 : x3 = mJ z3) (x5 : Int32) (z5 : Int) (p5 : x5 = mJ z5) (x6 : Int32) (z6 : Int) (p6 : x6 = mJ z6) (xs0 : Int32) (zs0 : Int) (ps0 : xs0 = mJ zs0) (ζ : ZS) (σ : HS) (hr : Rp ζ σ) : Sm QI (g_X12_bestOf_65 r8 z1 z2 z3 z5 z6 zs0 ζ) (f_X12_bestOf_65 f8 0 x1 x2 x3 x5 x6 xs0 σ) := by
    unfold g_X12_bestOf_65 f_X12_bestOf_65
    refine sm_ile p6 p3 ?_ ?_
    · exact q_X12_bestOf_79 _ _ h8 _ _ p1 _ _ p2 _ _ ps0 _ _ p5 _ _ p3 _ _ hr
    · exact q_X12_bestOf_79 _ _ h8 _ _ p1 _ _ p2 _ _ ps0 _ _ p5 _ _ p6 _ _ hr
set_option maxHeartbeats 4000000 in
set_option maxRecDepth 100000 in
theorem q_X12_bestOf_8 (x1 : Int32) (z1 : Int) (p1 : x1 = mJ z1) (x2 : Int32) (z2 : Int) (p2 : x2 = mJ z2) : ∀ (n : Nat) (x3 : Int32) (z3 : Int) (p3 : x3 = mJ z3) (x4 : Int32) (z4 : Int) (p4 : x4 = mJ z4) (x5 : Int32) (z5 : Int) (p5 : x5 = mJ z5) (ζ : ZS) (σ : HS), Rp ζ σ → Sm QI (g_X12_bestOf_8 z1 z2 n z3 z4 z5 ζ) (f_X12_bestOf_8 0 x1 x2 n x3 x4 x5 σ) := by
  intro n
  induction n with
  | zero =>
    intro x3 z3 p3 x4 z4 p4 x5 z5 p5 ζ σ hr
    exact sm_none
  | succ n ih =>
    intro x3 z3 p3 x4 z4 p4 x5 z5 p5 ζ σ hr
    rw [g_X12_bestOf_8.eq_2, f_X12_bestOf_8.eq_2]
    refine sm_ile li_8 p5 ?_ ?_
    · exact sm_ri p4 hr
    · refine sm_ieq (pand (pshr p1 p5) li_1) li_1 ?_ ?_
      · refine sm_bind (q_X12_valueOf _ _ p5 _ _ p2 _ _ hr) (fun q1 w1 e1 => ?_)
        refine sm_ile e1.1 p3 ?_ ?_
        · refine sm_ieq e1.1 p3 ?_ ?_
          · exact q_X12_bestOf_65 _ _ ih _ _ p1 _ _ p2 _ _ p3 _ _ p5 _ _ e1.1 _ _ (por p4 (pshl li_1 p5)) _ _ e1.2
          · exact q_X12_bestOf_65 _ _ ih _ _ p1 _ _ p2 _ _ p3 _ _ p5 _ _ e1.1 _ _ p4 _ _ e1.2
        · exact q_X12_bestOf_65 _ _ ih _ _ p1 _ _ p2 _ _ p3 _ _ p5 _ _ e1.1 _ _ (pshl li_1 p5) _ _ e1.2
      · exact q_X12_bestOf_80 _ _ ih _ _ p1 _ _ p2 _ _ p3 _ _ p4 _ _ p5 _ _ hr
set_option maxHeartbeats 4000000 in
set_option maxRecDepth 100000 in
theorem q_X12_bestOf (x1 : Int32) (z1 : Int) (p1 : x1 = mJ z1) (x2 : Int32) (z2 : Int) (p2 : x2 = mJ z2) (ζ : ZS) (σ : HS) (hr : Rp ζ σ) : Sm QI (g_X12_bestOf z1 z2 ζ) (f_X12_bestOf 0 x1 x2 σ) := by
    unfold g_X12_bestOf f_X12_bestOf
    exact q_X12_bestOf_8 _ _ p1 _ _ p2 FU _ _ li_m1 _ _ li_0 _ _ li_0 _ _ hr
set_option maxHeartbeats 4000000 in
set_option maxRecDepth 100000 in
theorem q_X12_first_137  : ∀ (n : Nat) (x4 : Int32) (z4 : Int) (p4 : x4 = mJ z4) (x5 : Int32) (z5 : Int) (p5 : x5 = mJ z5) (ζ : ZS) (σ : HS), Rp ζ σ → Sm QI (g_X12_first_137 n z4 z5 ζ) (f_X12_first_137 0 n x4 x5 σ) := by
  intro n
  induction n with
  | zero =>
    intro x4 z4 p4 x5 z5 p5 ζ σ hr
    exact sm_none
  | succ n ih =>
    intro x4 z4 p4 x5 z5 p5 ζ σ hr
    rw [g_X12_first_137.eq_2, f_X12_first_137.eq_2]
    refine sm_ile (hr.1 0 20) p5 ?_ ?_
    · exact sm_ri p4 hr
    · refine sm_rk (a := 24) (pts (rp_s hr) 0 35 24 rfl) kd_24 ?_
      refine sm_ck p5 ln_24 (fun b101 => ?_)
      refine sm_bind (q_X12_bestOf _ _ p4 _ _ (pl2i (rdJ (a := 24) hr p5 b101 (Nat.le_of_ble_eq_true rfl))) _ _ hr) (fun q2 w2 e2 => ?_)
      exact ih _ _ e2.1 _ _ (pa p5 li_1) _ _ e2.2
set_option maxHeartbeats 4000000 in
set_option maxRecDepth 100000 in
theorem q_X12_first_125 (r99 : Int → Int → ZS → Option (Int × ZS)) (f99 : Int32 → Int32 → HS → Option (Int32 × HS)) (h99 : ∀ (x4 : Int32) (z4 : Int) (p4 : x4 = mJ z4) (x5 : Int32) (z5 : Int) (p5 : x5 = mJ z5) (ζ : ZS) (σ : HS), Rp ζ σ → Sm QI (r99 z4 z5 ζ) (f99 x4 x5 σ)) (x5 : Int32) (z5 : Int) (p5 : x5 = mJ z5) (xs0 : Int32) (zs0 : Int) (ps0 : xs0 = mJ zs0) (xs1 : Int32) (zs1 : Int) (ps1 : xs1 = mJ zs1) (ζ : ZS) (σ : HS) (hr : Rp ζ σ) : Sm QI (g_X12_first_125 r99 z5 zs0 zs1 ζ) (f_X12_first_125 f99 0 x5 xs0 xs1 σ) := by
    unfold g_X12_first_125 f_X12_first_125
    exact h99 _ _ (por ps1 ps0) _ _ (pa p5 li_1) _ _ hr
set_option maxHeartbeats 4000000 in
set_option maxRecDepth 100000 in
theorem q_X12_first_99  : ∀ (n : Nat) (x4 : Int32) (z4 : Int) (p4 : x4 = mJ z4) (x5 : Int32) (z5 : Int) (p5 : x5 = mJ z5) (ζ : ZS) (σ : HS), Rp ζ σ → Sm QI (g_X12_first_99 n z4 z5 ζ) (f_X12_first_99 0 n x4 x5 σ) := by
  intro n
  induction n with
  | zero =>
    intro x4 z4 p4 x5 z5 p5 ζ σ hr
    exact sm_none
  | succ n ih =>
    intro x4 z4 p4 x5 z5 p5 ζ σ hr
    rw [g_X12_first_99.eq_2, f_X12_first_99.eq_2]
    refine sm_ile li_8 p5 ?_ ?_
    · exact q_X12_first_137 FU _ _ p4 _ _ li_0 _ _ hr
    · refine sm_bind (q_X12_isIn _ _ p5 _ _ hr) (fun q1 w1 e1 => ?_)
      refine sm_ieq e1.1 li_0 ?_ ?_
      · exact q_X12_first_125 _ _ ih _ _ p5 _ _ li_0 _ _ p4 _ _ e1.2
      · exact q_X12_first_125 _ _ ih _ _ p5 _ _ (pshl li_1 p5) _ _ p4 _ _ e1.2
set_option maxHeartbeats 4000000 in
set_option maxRecDepth 100000 in
theorem q_X12_first_50  (ζ : ZS) (σ : HS) (hr : Rp ζ σ) : Sm QI (g_X12_first_50 ζ) (f_X12_first_50 σ) := by
    unfold g_X12_first_50 f_X12_first_50
    exact sm_ri li_m1 hr
set_option maxHeartbeats 4000000 in
set_option maxRecDepth 100000 in
theorem q_X12_first_12 (x1 : Int32) (z1 : Int) (p1 : x1 = mJ z1) : ∀ (n : Nat) (x2 : Int32) (z2 : Int) (p2 : x2 = mJ z2) (x3 : Int32) (z3 : Int) (p3 : x3 = mJ z3) (x4 : Int32) (z4 : Int) (p4 : x4 = mJ z4) (ζ : ZS) (σ : HS), Rp ζ σ → Sm QI (g_X12_first_12 z1 n z2 z3 z4 ζ) (f_X12_first_12 0 x1 n x2 x3 x4 σ) := by
  intro n
  induction n with
  | zero =>
    intro x2 z2 p2 x3 z3 p3 x4 z4 p4 ζ σ hr
    exact sm_none
  | succ n ih =>
    intro x2 z2 p2 x3 z3 p3 x4 z4 p4 ζ σ hr
    rw [g_X12_first_12.eq_2, f_X12_first_12.eq_2]
    refine sm_ile (hr.1 0 20) p4 ?_ ?_
    · refine sm_ile p3 li_0 ?_ ?_
      · exact q_X12_first_99 FU _ _ li_0 _ _ li_0 _ _ hr
      · exact sm_ri li_m1 hr
    · refine sm_gd (fun b101 => ?_)
      refine sm_ilt p1 li_0 ?_ ?_
      · exact q_X12_first_50 _ _ hr
      · refine sm_ile (hr.1 0 20) (prem p3 li_10 b101) ?_ ?_
        · exact q_X12_first_50 _ _ hr
        · refine sm_ieq (pand (pshr p2 (prem p3 li_10 b101)) li_1) li_1 ?_ ?_
          · exact q_X12_first_50 _ _ hr
          · refine sm_rk (a := 24) (pts (rp_s hr) 0 35 24 rfl) kd_24 ?_
            refine sm_gw (fun b102 => ?_)
            refine sm_ck (ps (ps (hr.1 0 20) li_1) p4) ln_24 (fun b103 => ?_)
            have hr104 := raJ (a := 24) hr (ps (ps (hr.1 0 20) li_1) p4) b103 (Nat.le_of_ble_eq_true rfl) (pi2l (prem p3 li_10 b101) b102)
            refine sm_gd (fun b105 => ?_)
            exact ih _ _ (por p2 (pshl li_1 (prem p3 li_10 b101))) _ _ (pdiv p3 li_10 b105) _ _ (pa p4 li_1) _ _ hr104
set_option maxHeartbeats 4000000 in
set_option maxRecDepth 100000 in
theorem q_X12_first (x1 : Int32) (z1 : Int) (p1 : x1 = mJ z1) (ζ : ZS) (σ : HS) (hr : Rp ζ σ) : Sm QI (g_X12_first z1 ζ) (f_X12_first 0 x1 σ) := by
    unfold g_X12_first f_X12_first
    have hr101 := rwI (a := 0) (k := 0) hr li_0
    exact q_X12_first_12 _ _ p1 FU _ _ li_0 _ _ p1 _ _ li_0 _ _ hr101
set_option maxHeartbeats 4000000 in
set_option maxRecDepth 100000 in
theorem q_X12_outdoes_61 (r3 : Int → ZS → Option (Int × ZS)) (f3 : Int32 → HS → Option (Int32 × HS)) (h3 : ∀ (x4 : Int32) (z4 : Int) (p4 : x4 = mJ z4) (ζ : ZS) (σ : HS), Rp ζ σ → Sm QI (r3 z4 ζ) (f3 x4 σ)) (r20 : Int → Int → ZS → Option (Int × ZS)) (f20 : Int64 → Int32 → HS → Option (Int32 × HS)) (h20 : ∀ (x5 : Int64) (z5 : Int) (p5 : x5 = mL z5) (x7 : Int32) (z7 : Int) (p7 : x7 = mJ z7) (ζ : ZS) (σ : HS), Rp ζ σ → Sm QI (r20 z5 z7 ζ) (f20 x5 x7 σ)) (x1 : Int32) (z1 : Int) (p1 : x1 = mJ z1) (x2 : Int32) (z2 : Int) (p2 : x2 = mJ z2) (x3 : Int32) (z3 : Int) (p3 : x3 = mJ z3) (x4 : Int32) (z4 : Int) (p4 : x4 = mJ z4) (x7 : Int32) (z7 : Int) (p7 : x7 = mJ z7) (xs0 : Int64) (zs0 : Int) (ps0 : xs0 = mL zs0) (xs1 : Int64) (zs1 : Int) (ps1 : xs1 = mL zs1) (ζ : ZS) (σ : HS) (hr : Rp ζ σ) : Sm QI (g_X12_outdoes_61 r3 r20 z1 z2 z3 z4 z7 zs0 zs1 ζ) (f_X12_outdoes_61 f3 f20 0 x1 x2 x3 x4 x7 xs0 xs1 σ) := by
    unfold g_X12_outdoes_61 f_X12_outdoes_61
    exact h20 _ _ (paJ ps1 ps0) _ _ (pa p7 li_1) _ _ hr
set_option maxHeartbeats 4000000 in
set_option maxRecDepth 100000 in
theorem q_X12_outdoes_20 (x1 : Int32) (z1 : Int) (p1 : x1 = mJ z1) (x2 : Int32) (z2 : Int) (p2 : x2 = mJ z2) (x3 : Int32) (z3 : Int) (p3 : x3 = mJ z3) (x4 : Int32) (z4 : Int) (p4 : x4 = mJ z4) (r3 : Int → ZS → Option (Int × ZS)) (f3 : Int32 → HS → Option (Int32 × HS)) (h3 : ∀ (x4 : Int32) (z4 : Int) (p4 : x4 = mJ z4) (ζ : ZS) (σ : HS), Rp ζ σ → Sm QI (r3 z4 ζ) (f3 x4 σ)) : ∀ (n : Nat) (x5 : Int64) (z5 : Int) (p5 : x5 = mL z5) (x7 : Int32) (z7 : Int) (p7 : x7 = mJ z7) (ζ : ZS) (σ : HS), Rp ζ σ → Sm QI (g_X12_outdoes_20 z1 z2 z3 z4 r3 n z5 z7 ζ) (f_X12_outdoes_20 0 x1 x2 x3 x4 f3 n x5 x7 σ) := by
  intro n
  induction n with
  | zero =>
    intro x5 z5 p5 x7 z7 p7 ζ σ hr
    exact sm_none
  | succ n ih =>
    intro x5 z5 p5 x7 z7 p7 ζ σ hr
    rw [g_X12_outdoes_20.eq_2, f_X12_outdoes_20.eq_2]
    refine sm_ile (hr.1 0 20) p7 ?_ ?_
    · refine sm_gw (fun b101 => ?_)
      refine sm_bind (q_X12_sumAt _ _ li_0 _ _ p4 _ _ hr) (fun q2 w2 e2 => ?_)
      refine sm_jle (pmJ (pi2l p3 b101) e2.1) (pmJ lj_100 p5) ?_ ?_
      · exact h3 _ _ (pa p4 li_1) _ _ e2.2
      · exact sm_ri li_0 e2.2
    · refine sm_bind (q_X12_valueOf _ _ p1 _ _ p7 _ _ hr) (fun q3 w3 e3 => ?_)
      refine sm_bind (q_X12_valueOf _ _ p2 _ _ p7 _ _ e3.2) (fun q4 w4 e4 => ?_)
      refine sm_ilt e3.1 e4.1 ?_ ?_
      · exact q_X12_outdoes_61 _ _ h3 _ _ ih _ _ p1 _ _ p2 _ _ p3 _ _ p4 _ _ p7 _ _ lj_0 _ _ p5 _ _ e4.2
      · refine sm_bind (q_X12_weightAt _ _ li_0 _ _ p4 _ _ p7 _ _ e4.2) (fun q5 w5 e5 => ?_)
        exact q_X12_outdoes_61 _ _ h3 _ _ ih _ _ p1 _ _ p2 _ _ p3 _ _ p4 _ _ p7 _ _ e5.1 _ _ p5 _ _ e5.2
set_option maxHeartbeats 4000000 in
set_option maxRecDepth 100000 in
theorem q_X12_outdoes_3 (x1 : Int32) (z1 : Int) (p1 : x1 = mJ z1) (x2 : Int32) (z2 : Int) (p2 : x2 = mJ z2) (x3 : Int32) (z3 : Int) (p3 : x3 = mJ z3) : ∀ (n : Nat) (x4 : Int32) (z4 : Int) (p4 : x4 = mJ z4) (ζ : ZS) (σ : HS), Rp ζ σ → Sm QI (g_X12_outdoes_3 z1 z2 z3 n z4 ζ) (f_X12_outdoes_3 0 x1 x2 x3 n x4 σ) := by
  intro n
  induction n with
  | zero =>
    intro x4 z4 p4 ζ σ hr
    exact sm_none
  | succ n ih =>
    intro x4 z4 p4 ζ σ hr
    rw [g_X12_outdoes_3.eq_2, f_X12_outdoes_3.eq_2]
    refine sm_rk (a := 20) (pts (rp_s hr) 0 28 20 rfl) kd_20 ?_
    refine sm_ck li_0 ln_20 (fun b101 => ?_)
    refine sm_ile (rdI (a := 20) hr li_0 b101 (Nat.le_of_ble_eq_true rfl)) p4 ?_ ?_
    · exact sm_ri li_1 hr
    · exact q_X12_outdoes_20 _ _ p1 _ _ p2 _ _ p3 _ _ p4 _ _ ih FU _ _ lj_0 _ _ li_0 _ _ hr
set_option maxHeartbeats 4000000 in
set_option maxRecDepth 100000 in
theorem q_X12_outdoes (x1 : Int32) (z1 : Int) (p1 : x1 = mJ z1) (x2 : Int32) (z2 : Int) (p2 : x2 = mJ z2) (x3 : Int32) (z3 : Int) (p3 : x3 = mJ z3) (ζ : ZS) (σ : HS) (hr : Rp ζ σ) : Sm QI (g_X12_outdoes z1 z2 z3 ζ) (f_X12_outdoes 0 x1 x2 x3 σ) := by
    unfold g_X12_outdoes f_X12_outdoes
    exact q_X12_outdoes_3 _ _ p1 _ _ p2 _ _ p3 FU _ _ li_0 _ _ hr
set_option maxHeartbeats 4000000 in
set_option maxRecDepth 100000 in
theorem q_X12_many_22  (ζ : ZS) (σ : HS) (hr : Rp ζ σ) : Sm QI (g_X12_many_22 ζ) (f_X12_many_22 σ) := by
    unfold g_X12_many_22 f_X12_many_22
    exact sm_ri li_m1 hr
set_option maxHeartbeats 4000000 in
set_option maxRecDepth 100000 in
theorem q_X12_many_119 (r28 : Int → Int → ZS → Option (Int × ZS)) (f28 : Int32 → Int32 → HS → Option (Int32 × HS)) (h28 : ∀ (x2 : Int32) (z2 : Int) (p2 : x2 = mJ z2) (x3 : Int32) (z3 : Int) (p3 : x3 = mJ z3) (ζ : ZS) (σ : HS), Rp ζ σ → Sm QI (r28 z2 z3 ζ) (f28 x2 x3 σ)) (x1 : Int32) (z1 : Int) (p1 : x1 = mJ z1) (x3 : Int32) (z3 : Int) (p3 : x3 = mJ z3) (xs0 : Int32) (zs0 : Int) (ps0 : xs0 = mJ zs0) (xs1 : Int32) (zs1 : Int) (ps1 : xs1 = mJ zs1) (ζ : ZS) (σ : HS) (hr : Rp ζ σ) : Sm QI (g_X12_many_119 r28 z1 z3 zs0 zs1 ζ) (f_X12_many_119 f28 0 x1 x3 xs0 xs1 σ) := by
    unfold g_X12_many_119 f_X12_many_119
    exact h28 _ _ (por ps1 ps0) _ _ (pa p3 li_1) _ _ hr
set_option maxHeartbeats 4000000 in
set_option maxRecDepth 100000 in
theorem q_X12_many_98 (r28 : Int → Int → ZS → Option (Int × ZS)) (f28 : Int32 → Int32 → HS → Option (Int32 × HS)) (h28 : ∀ (x2 : Int32) (z2 : Int) (p2 : x2 = mJ z2) (x3 : Int32) (z3 : Int) (p3 : x3 = mJ z3) (ζ : ZS) (σ : HS), Rp ζ σ → Sm QI (r28 z2 z3 ζ) (f28 x2 x3 σ)) (r44 : Int → Int → ZS → Option (Int × ZS)) (f44 : Int32 → Int32 → HS → Option (Int32 × HS)) (h44 : ∀ (x4 : Int32) (z4 : Int) (p4 : x4 = mJ z4) (x5 : Int32) (z5 : Int) (p5 : x5 = mJ z5) (ζ : ZS) (σ : HS), Rp ζ σ → Sm QI (r44 z4 z5 ζ) (f44 x4 x5 σ)) (x1 : Int32) (z1 : Int) (p1 : x1 = mJ z1) (x2 : Int32) (z2 : Int) (p2 : x2 = mJ z2) (x3 : Int32) (z3 : Int) (p3 : x3 = mJ z3) (x5 : Int32) (z5 : Int) (p5 : x5 = mJ z5) (xs0 : Int32) (zs0 : Int) (ps0 : xs0 = mJ zs0) (ζ : ZS) (σ : HS) (hr : Rp ζ σ) : Sm QI (g_X12_many_98 r28 r44 z1 z2 z3 z5 zs0 ζ) (f_X12_many_98 f28 f44 0 x1 x2 x3 x5 xs0 σ) := by
    unfold g_X12_many_98 f_X12_many_98
    exact h44 _ _ ps0 _ _ (pa p5 li_1) _ _ hr
set_option maxHeartbeats 4000000 in
set_option maxRecDepth 100000 in
theorem q_X12_many_97 (r28 : Int → Int → ZS → Option (Int × ZS)) (f28 : Int32 → Int32 → HS → Option (Int32 × HS)) (h28 : ∀ (x2 : Int32) (z2 : Int) (p2 : x2 = mJ z2) (x3 : Int32) (z3 : Int) (p3 : x3 = mJ z3) (ζ : ZS) (σ : HS), Rp ζ σ → Sm QI (r28 z2 z3 ζ) (f28 x2 x3 σ)) (r44 : Int → Int → ZS → Option (Int × ZS)) (f44 : Int32 → Int32 → HS → Option (Int32 × HS)) (h44 : ∀ (x4 : Int32) (z4 : Int) (p4 : x4 = mJ z4) (x5 : Int32) (z5 : Int) (p5 : x5 = mJ z5) (ζ : ZS) (σ : HS), Rp ζ σ → Sm QI (r44 z4 z5 ζ) (f44 x4 x5 σ)) (x1 : Int32) (z1 : Int) (p1 : x1 = mJ z1) (x2 : Int32) (z2 : Int) (p2 : x2 = mJ z2) (x3 : Int32) (z3 : Int) (p3 : x3 = mJ z3) (x5 : Int32) (z5 : Int) (p5 : x5 = mJ z5) (ζ : ZS) (σ : HS) (hr : Rp ζ σ) : Sm QI (g_X12_many_97 r28 r44 z1 z2 z3 z5 ζ) (f_X12_many_97 f28 f44 0 x1 x2 x3 x5 σ) := by
    unfold g_X12_many_97 f_X12_many_97
    exact q_X12_many_98 _ _ h28 _ _ h44 _ _ p1 _ _ p2 _ _ p3 _ _ p5 _ _ li_0 _ _ hr
set_option maxHeartbeats 4000000 in
set_option maxRecDepth 100000 in
theorem q_X12_many_93 (r28 : Int → Int → ZS → Option (Int × ZS)) (f28 : Int32 → Int32 → HS → Option (Int32 × HS)) (h28 : ∀ (x2 : Int32) (z2 : Int) (p2 : x2 = mJ z2) (x3 : Int32) (z3 : Int) (p3 : x3 = mJ z3) (ζ : ZS) (σ : HS), Rp ζ σ → Sm QI (r28 z2 z3 ζ) (f28 x2 x3 σ)) (r44 : Int → Int → ZS → Option (Int × ZS)) (f44 : Int32 → Int32 → HS → Option (Int32 × HS)) (h44 : ∀ (x4 : Int32) (z4 : Int) (p4 : x4 = mJ z4) (x5 : Int32) (z5 : Int) (p5 : x5 = mJ z5) (ζ : ZS) (σ : HS), Rp ζ σ → Sm QI (r44 z4 z5 ζ) (f44 x4 x5 σ)) (x1 : Int32) (z1 : Int) (p1 : x1 = mJ z1) (x2 : Int32) (z2 : Int) (p2 : x2 = mJ z2) (x3 : Int32) (z3 : Int) (p3 : x3 = mJ z3) (x5 : Int32) (z5 : Int) (p5 : x5 = mJ z5) (ζ : ZS) (σ : HS) (hr : Rp ζ σ) : Sm QI (g_X12_many_93 r28 r44 z1 z2 z3 z5 ζ) (f_X12_many_93 f28 f44 0 x1 x2 x3 x5 σ) := by
    unfold g_X12_many_93 f_X12_many_93
    exact q_X12_many_98 _ _ h28 _ _ h44 _ _ p1 _ _ p2 _ _ p3 _ _ p5 _ _ li_1 _ _ hr
set_option maxHeartbeats 4000000 in
set_option maxRecDepth 100000 in
theorem q_X12_many_44 (x1 : Int32) (z1 : Int) (p1 : x1 = mJ z1) (x2 : Int32) (z2 : Int) (p2 : x2 = mJ z2) (x3 : Int32) (z3 : Int) (p3 : x3 = mJ z3) (r28 : Int → Int → ZS → Option (Int × ZS)) (f28 : Int32 → Int32 → HS → Option (Int32 × HS)) (h28 : ∀ (x2 : Int32) (z2 : Int) (p2 : x2 = mJ z2) (x3 : Int32) (z3 : Int) (p3 : x3 = mJ z3) (ζ : ZS) (σ : HS), Rp ζ σ → Sm QI (r28 z2 z3 ζ) (f28 x2 x3 σ)) : ∀ (n : Nat) (x4 : Int32) (z4 : Int) (p4 : x4 = mJ z4) (x5 : Int32) (z5 : Int) (p5 : x5 = mJ z5) (ζ : ZS) (σ : HS), Rp ζ σ → Sm QI (g_X12_many_44 z1 z2 z3 r28 n z4 z5 ζ) (f_X12_many_44 0 x1 x2 x3 f28 n x4 x5 σ) := by
  intro n
  induction n with
  | zero =>
    intro x4 z4 p4 x5 z5 p5 ζ σ hr
    exact sm_none
  | succ n ih =>
    intro x4 z4 p4 x5 z5 p5 ζ σ hr
    rw [g_X12_many_44.eq_2, f_X12_many_44.eq_2]
    refine sm_ile li_8 p5 ?_ ?_
    · refine sm_ieq p4 li_0 ?_ ?_
      · exact q_X12_many_119 _ _ h28 _ _ p1 _ _ p3 _ _ li_0 _ _ p2 _ _ hr
      · exact q_X12_many_119 _ _ h28 _ _ p1 _ _ p3 _ _ (pshl li_1 p3) _ _ p2 _ _ hr
    · refine sm_ieq p4 li_0 ?_ ?_
      · exact q_X12_many_97 _ _ h28 _ _ ih _ _ p1 _ _ p2 _ _ p3 _ _ p5 _ _ hr
      · refine sm_ieq p5 p3 ?_ ?_
        · exact q_X12_many_93 _ _ h28 _ _ ih _ _ p1 _ _ p2 _ _ p3 _ _ p5 _ _ hr
        · refine sm_bind (q_X12_isIn _ _ p5 _ _ hr) (fun q1 w1 e1 => ?_)
          refine sm_ieq e1.1 li_0 ?_ ?_
          · exact q_X12_many_93 _ _ h28 _ _ ih _ _ p1 _ _ p2 _ _ p3 _ _ p5 _ _ e1.2
          · refine sm_bind (q_X12_outdoes _ _ p5 _ _ p3 _ _ p1 _ _ e1.2) (fun q2 w2 e2 => ?_)
            refine sm_ieq e2.1 li_0 ?_ ?_
            · exact q_X12_many_93 _ _ h28 _ _ ih _ _ p1 _ _ p2 _ _ p3 _ _ p5 _ _ e2.2
            · refine sm_bind (q_X12_outdoes _ _ p3 _ _ p5 _ _ p1 _ _ e2.2) (fun q3 w3 e3 => ?_)
              refine sm_ieq e3.1 li_0 ?_ ?_
              · exact q_X12_many_97 _ _ h28 _ _ ih _ _ p1 _ _ p2 _ _ p3 _ _ p5 _ _ e3.2
              · exact q_X12_many_93 _ _ h28 _ _ ih _ _ p1 _ _ p2 _ _ p3 _ _ p5 _ _ e3.2
set_option maxHeartbeats 4000000 in
set_option maxRecDepth 100000 in
theorem q_X12_many_28 (x1 : Int32) (z1 : Int) (p1 : x1 = mJ z1) : ∀ (n : Nat) (x2 : Int32) (z2 : Int) (p2 : x2 = mJ z2) (x3 : Int32) (z3 : Int) (p3 : x3 = mJ z3) (ζ : ZS) (σ : HS), Rp ζ σ → Sm QI (g_X12_many_28 z1 n z2 z3 ζ) (f_X12_many_28 0 x1 n x2 x3 σ) := by
  intro n
  induction n with
  | zero =>
    intro x2 z2 p2 x3 z3 p3 ζ σ hr
    exact sm_none
  | succ n ih =>
    intro x2 z2 p2 x3 z3 p3 ζ σ hr
    rw [g_X12_many_28.eq_2, f_X12_many_28.eq_2]
    refine sm_ile li_8 p3 ?_ ?_
    · exact sm_ri p2 hr
    · refine sm_bind (q_X12_isIn _ _ p3 _ _ hr) (fun q1 w1 e1 => ?_)
      exact q_X12_many_44 _ _ p1 _ _ p2 _ _ p3 _ _ ih FU _ _ e1.1 _ _ li_0 _ _ e1.2
set_option maxHeartbeats 4000000 in
set_option maxRecDepth 100000 in
theorem q_X12_many (x1 : Int32) (z1 : Int) (p1 : x1 = mJ z1) (ζ : ZS) (σ : HS) (hr : Rp ζ σ) : Sm QI (g_X12_many z1 ζ) (f_X12_many 0 x1 σ) := by
    unfold g_X12_many f_X12_many
    have hr101 := rwI (a := 0) (k := 0) hr li_0
    refine sm_bind (q_X12_within _ _ p1 _ _ li_1 _ _ li_100 _ _ hr101) (fun q2 w2 e2 => ?_)
    refine sm_ieq e2.1 li_0 ?_ ?_
    · exact q_X12_many_22 _ _ e2.2
    · refine sm_bind (q_X12_findNow _ _ e2.2) (fun q3 w3 e3 => ?_)
      refine sm_ieq e3.1 li_0 ?_ ?_
      · exact q_X12_many_22 _ _ e3.2
      · exact q_X12_many_28 _ _ p1 FU _ _ li_0 _ _ li_0 _ _ e3.2
set_option maxHeartbeats 4000000 in
set_option maxRecDepth 100000 in
theorem q_X12_toldMany_25 (r4 : Int → Int → ZS → Option (Int × ZS)) (f4 : Int32 → Int32 → HS → Option (Int32 × HS)) (h4 : ∀ (x1 : Int32) (z1 : Int) (p1 : x1 = mJ z1) (x2 : Int32) (z2 : Int) (p2 : x2 = mJ z2) (ζ : ZS) (σ : HS), Rp ζ σ → Sm QI (r4 z1 z2 ζ) (f4 x1 x2 σ)) (x2 : Int32) (z2 : Int) (p2 : x2 = mJ z2) (xs0 : Int32) (zs0 : Int) (ps0 : xs0 = mJ zs0) (xs1 : Int32) (zs1 : Int) (ps1 : xs1 = mJ zs1) (ζ : ZS) (σ : HS) (hr : Rp ζ σ) : Sm QI (g_X12_toldMany_25 r4 z2 zs0 zs1 ζ) (f_X12_toldMany_25 f4 0 x2 xs0 xs1 σ) := by
    unfold g_X12_toldMany_25 f_X12_toldMany_25
    exact h4 _ _ (pa ps1 ps0) _ _ (pa p2 li_1) _ _ hr
set_option maxHeartbeats 4000000 in
set_option maxRecDepth 100000 in
theorem q_X12_toldMany_4  : ∀ (n : Nat) (x1 : Int32) (z1 : Int) (p1 : x1 = mJ z1) (x2 : Int32) (z2 : Int) (p2 : x2 = mJ z2) (ζ : ZS) (σ : HS), Rp ζ σ → Sm QI (g_X12_toldMany_4 n z1 z2 ζ) (f_X12_toldMany_4 0 n x1 x2 σ) := by
  intro n
  induction n with
  | zero =>
    intro x1 z1 p1 x2 z2 p2 ζ σ hr
    exact sm_none
  | succ n ih =>
    intro x1 z1 p1 x2 z2 p2 ζ σ hr
    rw [g_X12_toldMany_4.eq_2, f_X12_toldMany_4.eq_2]
    refine sm_ile li_8 p2 ?_ ?_
    · exact sm_ri p1 hr
    · refine sm_rk (a := 16) (pts (rp_s hr) 0 21 16 rfl) kd_16 ?_
      refine sm_ck p2 ln_16 (fun b101 => ?_)
      refine sm_ieq (rdI (a := 16) hr p2 b101 (Nat.le_of_ble_eq_true rfl)) li_0 ?_ ?_
      · exact q_X12_toldMany_25 _ _ ih _ _ p2 _ _ li_0 _ _ p1 _ _ hr
      · exact q_X12_toldMany_25 _ _ ih _ _ p2 _ _ li_1 _ _ p1 _ _ hr
set_option maxHeartbeats 4000000 in
set_option maxRecDepth 100000 in
theorem q_X12_toldMany  (ζ : ZS) (σ : HS) (hr : Rp ζ σ) : Sm QI (g_X12_toldMany ζ) (f_X12_toldMany 0 σ) := by
    unfold g_X12_toldMany f_X12_toldMany
    exact q_X12_toldMany_4 FU _ _ li_0 _ _ li_0 _ _ hr
set_option maxHeartbeats 4000000 in
set_option maxRecDepth 100000 in
theorem q_X12_count_104 (xs0 : Int32) (zs0 : Int) (ps0 : xs0 = mJ zs0) (ζ : ZS) (σ : HS) (hr : Rp ζ σ) : Sm QI (g_X12_count_104 zs0 ζ) (f_X12_count_104 xs0 σ) := by
    unfold g_X12_count_104 f_X12_count_104
    exact sm_ri ps0 hr
set_option maxHeartbeats 4000000 in
set_option maxRecDepth 100000 in
theorem q_X12_count (x1 : Int32) (z1 : Int) (p1 : x1 = mJ z1) (ζ : ZS) (σ : HS) (hr : Rp ζ σ) : Sm QI (g_X12_count z1 ζ) (f_X12_count 0 x1 σ) := by
    unfold g_X12_count f_X12_count
    have hr101 := rwI (a := 0) (k := 0) hr li_0
    refine sm_ieq p1 li_0 ?_ ?_
    · exact sm_ri (hr101.1 0 20) hr101
    refine sm_ieq p1 li_1 ?_ ?_
    · refine sm_bind (q_X12_toldMany _ _ hr101) (fun q2 w2 e2 => ?_)
      exact sm_ri e2.1 e2.2
    refine sm_ieq p1 li_2 ?_ ?_
    · refine sm_bind (q_X12_inMany _ _ hr101) (fun q3 w3 e3 => ?_)
      exact sm_ri e3.1 e3.2
    refine sm_ieq p1 li_3 ?_ ?_
    · refine sm_rk (a := 9) (pts (rp_s hr101) 0 13 9 rfl) kd_9 ?_
      refine sm_ck li_0 ln_9 (fun b104 => ?_)
      exact sm_ri (rdI (a := 9) hr101 li_0 b104 (Nat.le_of_ble_eq_true rfl)) hr101
    refine sm_ieq p1 li_4 ?_ ?_
    · refine sm_bind (q_X12_heard _ _ hr101) (fun q5 w5 e5 => ?_)
      refine sm_bind (q_X12_bits _ _ e5.1 _ _ e5.2) (fun q6 w6 e6 => ?_)
      exact sm_ri e6.1 e6.2
    refine sm_ieq p1 li_5 ?_ ?_
    · exact sm_ri (hr101.1 0 2) hr101
    refine sm_ieq p1 li_6 ?_ ?_
    · refine sm_bind (q_X12_findNow _ _ hr101) (fun q7 w7 e7 => ?_)
      refine sm_ieq e7.1 li_0 ?_ ?_
      · exact q_X12_count_104 _ _ li_0 _ _ e7.2
      · refine sm_rk (a := 20) (pts (rp_s e7.2) 0 28 20 rfl) kd_20 ?_
        refine sm_ck li_0 ln_20 (fun b108 => ?_)
        exact q_X12_count_104 _ _ (rdI (a := 20) e7.2 li_0 b108 (Nat.le_of_ble_eq_true rfl)) _ _ e7.2
    refine sm_ieq p1 li_7 ?_ ?_
    · exact sm_ri (hr101.1 0 24) hr101
    exact sm_ri li_m1 hr101
