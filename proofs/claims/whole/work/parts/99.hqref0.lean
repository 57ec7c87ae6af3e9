set_option maxHeartbeats 4000000 in
set_option maxRecDepth 100000 in
theorem q_X12_thrown  (ζ : ZS) (σ : HS) (hr : Rp ζ σ) : Sm QI (g_X12_thrown ζ) (f_X12_thrown 0 σ) := by
    unfold g_X12_thrown f_X12_thrown
    exact sm_ri (hr.1 0 0) hr
set_option maxHeartbeats 4000000 in
set_option maxRecDepth 100000 in
theorem q_X12_lay_69 (r3 : Int → ZS → Option ZS) (f3 : Int32 → HS → Option HS) (h3 : ∀ (x3 : Int32) (z3 : Int) (p3 : x3 = mJ z3) (ζ : ZS) (σ : HS), Rp ζ σ → Sm QV (r3 z3 ζ) (f3 x3 σ)) (x1 : Int64) (z1 : Int) (p1 : x1 = mL z1) (x3 : Int32) (z3 : Int) (p3 : x3 = mJ z3) (ζ : ZS) (σ : HS) (hr : Rp ζ σ) : Sm QV (g_X12_lay_69 r3 z1 z3 ζ) (f_X12_lay_69 f3 0 x1 x3 σ) := by
    unfold g_X12_lay_69 f_X12_lay_69
    exact h3 _ _ (pa p3 li_m8) _ _ hr
set_option maxHeartbeats 4000000 in
set_option maxRecDepth 100000 in
theorem q_X12_lay_38 (r3 : Int → ZS → Option ZS) (f3 : Int32 → HS → Option HS) (h3 : ∀ (x3 : Int32) (z3 : Int) (p3 : x3 = mJ z3) (ζ : ZS) (σ : HS), Rp ζ σ → Sm QV (r3 z3 ζ) (f3 x3 σ)) (x1 : Int64) (z1 : Int) (p1 : x1 = mL z1) (x3 : Int32) (z3 : Int) (p3 : x3 = mJ z3) (x4 : Int32) (z4 : Int) (p4 : x4 = mJ z4) (ζ : ZS) (σ : HS) (hr : Rp ζ σ) : Sm QV (g_X12_lay_38 r3 z1 z3 z4 ζ) (f_X12_lay_38 f3 0 x1 x3 x4 σ) := by
    unfold g_X12_lay_38 f_X12_lay_38
    refine sm_ile li_1000 (hr.1 0 2) ?_ ?_
    · exact q_X12_lay_69 _ _ h3 _ _ p1 _ _ p3 _ _ hr
    · refine sm_rk (a := 1) (pts (rp_s hr) 0 1 1 rfl) kd_1 ?_
      refine sm_ck (hr.1 0 2) ln_1 (fun b101 => ?_)
      have hr102 := raI (a := 1) hr (hr.1 0 2) b101 (Nat.le_of_ble_eq_true rfl) p4
      have hr103 := rwI (a := 0) (k := 2) hr102 (pa (hr102.1 0 2) li_1)
      exact q_X12_lay_69 _ _ h3 _ _ p1 _ _ p3 _ _ hr103
set_option maxHeartbeats 4000000 in
set_option maxRecDepth 100000 in
theorem q_X12_lay_3 (x1 : Int64) (z1 : Int) (p1 : x1 = mL z1) : ∀ (n : Nat) (x3 : Int32) (z3 : Int) (p3 : x3 = mJ z3) (ζ : ZS) (σ : HS), Rp ζ σ → Sm QV (g_X12_lay_3 z1 n z3 ζ) (f_X12_lay_3 0 x1 n x3 σ) := by
  intro n
  induction n with
  | zero =>
    intro x3 z3 p3 ζ σ hr
    exact sm_none
  | succ n ih =>
    intro x3 z3 p3 ζ σ hr
    rw [g_X12_lay_3.eq_2, f_X12_lay_3.eq_2]
    refine sm_ilt p3 li_0 ?_ ?_
    · exact sm_rv hr
    · refine sm_ieq (pand (pl2i (plsr p1 p3)) li_255) li_10 ?_ ?_
      · exact q_X12_lay_38 _ _ ih _ _ p1 _ _ p3 _ _ (pand (pl2i (plsr p1 p3)) li_255) _ _ hr
      · refine sm_ilt (pand (pl2i (plsr p1 p3)) li_255) li_32 ?_ ?_
        · exact q_X12_lay_69 _ _ ih _ _ p1 _ _ p3 _ _ hr
        · refine sm_ilt li_126 (pand (pl2i (plsr p1 p3)) li_255) ?_ ?_
          · exact q_X12_lay_69 _ _ ih _ _ p1 _ _ p3 _ _ hr
          · exact q_X12_lay_38 _ _ ih _ _ p1 _ _ p3 _ _ (pand (pl2i (plsr p1 p3)) li_255) _ _ hr
set_option maxHeartbeats 4000000 in
set_option maxRecDepth 100000 in
theorem q_X12_lay (x1 : Int64) (z1 : Int) (p1 : x1 = mL z1) (ζ : ZS) (σ : HS) (hr : Rp ζ σ) : Sm QV (g_X12_lay z1 ζ) (f_X12_lay 0 x1 σ) := by
    unfold g_X12_lay f_X12_lay
    exact q_X12_lay_3 _ _ p1 FU _ _ li_56 _ _ hr
set_option maxHeartbeats 4000000 in
set_option maxRecDepth 100000 in
theorem q_X12_feed (x1 : Int64) (z1 : Int) (p1 : x1 = mL z1) (x3 : Int64) (z3 : Int) (p3 : x3 = mL z3) (x5 : Int64) (z5 : Int) (p5 : x5 = mL z5) (ζ : ZS) (σ : HS) (hr : Rp ζ σ) : Sm QI (g_X12_feed z1 z3 z5 ζ) (f_X12_feed 0 x1 x3 x5 σ) := by
    unfold g_X12_feed f_X12_feed
    have hr101 := rwI (a := 0) (k := 0) hr li_0
    refine sm_bind (q_X12_lay _ _ p1 _ _ hr101) (fun q2 w2 e2 => ?_)
    refine sm_bind (q_X12_lay _ _ p3 _ _ e2) (fun q3 w3 e3 => ?_)
    refine sm_bind (q_X12_lay _ _ p5 _ _ e3) (fun q4 w4 e4 => ?_)
    exact sm_ri (e4.1 0 2) e4
set_option maxHeartbeats 4000000 in
set_option maxRecDepth 100000 in
theorem q_X12_isLetter_17 (xs0 : Int32) (zs0 : Int) (ps0 : xs0 = mJ zs0) (ζ : ZS) (σ : HS) (hr : Rp ζ σ) : Sm QI (g_X12_isLetter_17 zs0 ζ) (f_X12_isLetter_17 xs0 σ) := by
    unfold g_X12_isLetter_17 f_X12_isLetter_17
    exact sm_zr ps0 hr
set_option maxHeartbeats 4000000 in
set_option maxRecDepth 100000 in
theorem q_X12_isLetter_16  (ζ : ZS) (σ : HS) (hr : Rp ζ σ) : Sm QI (g_X12_isLetter_16 ζ) (f_X12_isLetter_16 σ) := by
    unfold g_X12_isLetter_16 f_X12_isLetter_16
    exact q_X12_isLetter_17 _ _ li_0 _ _ hr
set_option maxHeartbeats 4000000 in
set_option maxRecDepth 100000 in
theorem q_X12_isLetter (x0 : Int32) (z0 : Int) (p0 : x0 = mJ z0) (ζ : ZS) (σ : HS) (hr : Rp ζ σ) : Sm QI (g_X12_isLetter z0 ζ) (f_X12_isLetter x0 σ) := by
    unfold g_X12_isLetter f_X12_isLetter
    refine sm_ilt p0 li_97 ?_ ?_
    · exact q_X12_isLetter_16 _ _ hr
    · refine sm_ilt li_122 p0 ?_ ?_
      · exact q_X12_isLetter_16 _ _ hr
      · exact q_X12_isLetter_17 _ _ li_1 _ _ hr
set_option maxHeartbeats 4000000 in
set_option maxRecDepth 100000 in
theorem q_X12_isDigit_17 (xs0 : Int32) (zs0 : Int) (ps0 : xs0 = mJ zs0) (ζ : ZS) (σ : HS) (hr : Rp ζ σ) : Sm QI (g_X12_isDigit_17 zs0 ζ) (f_X12_isDigit_17 xs0 σ) := by
    unfold g_X12_isDigit_17 f_X12_isDigit_17
    exact sm_zr ps0 hr
set_option maxHeartbeats 4000000 in
set_option maxRecDepth 100000 in
theorem q_X12_isDigit_16  (ζ : ZS) (σ : HS) (hr : Rp ζ σ) : Sm QI (g_X12_isDigit_16 ζ) (f_X12_isDigit_16 σ) := by
    unfold g_X12_isDigit_16 f_X12_isDigit_16
    exact q_X12_isDigit_17 _ _ li_0 _ _ hr
set_option maxHeartbeats 4000000 in
set_option maxRecDepth 100000 in
theorem q_X12_isDigit (x0 : Int32) (z0 : Int) (p0 : x0 = mJ z0) (ζ : ZS) (σ : HS) (hr : Rp ζ σ) : Sm QI (g_X12_isDigit z0 ζ) (f_X12_isDigit x0 σ) := by
    unfold g_X12_isDigit f_X12_isDigit
    refine sm_ilt p0 li_48 ?_ ?_
    · exact q_X12_isDigit_16 _ _ hr
    · refine sm_ilt li_57 p0 ?_ ?_
      · exact q_X12_isDigit_16 _ _ hr
      · exact q_X12_isDigit_17 _ _ li_1 _ _ hr
set_option maxHeartbeats 4000000 in
set_option maxRecDepth 100000 in
theorem q_X12_rank_18 (xs0 : Int32) (zs0 : Int) (ps0 : xs0 = mJ zs0) (ζ : ZS) (σ : HS) (hr : Rp ζ σ) : Sm QI (g_X12_rank_18 zs0 ζ) (f_X12_rank_18 xs0 σ) := by
    unfold g_X12_rank_18 f_X12_rank_18
    exact sm_ri ps0 hr
set_option maxHeartbeats 4000000 in
set_option maxRecDepth 100000 in
theorem q_X12_rank (x0 : Int32) (z0 : Int) (p0 : x0 = mJ z0) (ζ : ZS) (σ : HS) (hr : Rp ζ σ) : Sm QI (g_X12_rank z0 ζ) (f_X12_rank x0 σ) := by
    unfold g_X12_rank f_X12_rank
    refine sm_bind (q_X12_isLetter _ _ p0 _ _ hr) (fun q1 w1 e1 => ?_)
    refine sm_ieq e1.1 li_0 ?_ ?_
    · exact q_X12_rank_18 _ _ (ps p0 li_21) _ _ e1.2
    · exact q_X12_rank_18 _ _ (ps p0 li_96) _ _ e1.2
set_option maxHeartbeats 4000000 in
set_option maxRecDepth 100000 in
theorem q_X12_isSignOf_11 (xs0 : Int32) (zs0 : Int) (ps0 : xs0 = mJ zs0) (ζ : ZS) (σ : HS) (hr : Rp ζ σ) : Sm QI (g_X12_isSignOf_11 zs0 ζ) (f_X12_isSignOf_11 xs0 σ) := by
    unfold g_X12_isSignOf_11 f_X12_isSignOf_11
    exact sm_zr ps0 hr
set_option maxHeartbeats 4000000 in
set_option maxRecDepth 100000 in
theorem q_X12_isSignOf (x0 : Int32) (z0 : Int) (p0 : x0 = mJ z0) (ζ : ZS) (σ : HS) (hr : Rp ζ σ) : Sm QI (g_X12_isSignOf z0 ζ) (f_X12_isSignOf x0 σ) := by
    unfold g_X12_isSignOf f_X12_isSignOf
    refine sm_ieq p0 li_59 ?_ ?_
    · exact q_X12_isSignOf_11 _ _ li_1 _ _ hr
    · exact q_X12_isSignOf_11 _ _ li_0 _ _ hr
set_option maxHeartbeats 4000000 in
set_option maxRecDepth 100000 in
theorem q_X12_cutAll_44 (r17 : Int → Int → ZS → Option ZS) (f17 : Int32 → Int32 → HS → Option HS) (h17 : ∀ (x1 : Int32) (z1 : Int) (p1 : x1 = mJ z1) (x2 : Int32) (z2 : Int) (p2 : x2 = mJ z2) (ζ : ZS) (σ : HS), Rp ζ σ → Sm QV (r17 z1 z2 ζ) (f17 x1 x2 σ)) (x1 : Int32) (z1 : Int) (p1 : x1 = mJ z1) (x2 : Int32) (z2 : Int) (p2 : x2 = mJ z2) (ζ : ZS) (σ : HS) (hr : Rp ζ σ) : Sm QV (g_X12_cutAll_44 r17 z1 z2 ζ) (f_X12_cutAll_44 f17 0 x1 x2 σ) := by
    unfold g_X12_cutAll_44 f_X12_cutAll_44
    exact h17 _ _ p1 _ _ (pa p2 li_1) _ _ hr
set_option maxHeartbeats 4000000 in
set_option maxRecDepth 100000 in
theorem q_X12_cutAll_265 (r17 : Int → Int → ZS → Option ZS) (f17 : Int32 → Int32 → HS → Option HS) (h17 : ∀ (x1 : Int32) (z1 : Int) (p1 : x1 = mJ z1) (x2 : Int32) (z2 : Int) (p2 : x2 = mJ z2) (ζ : ZS) (σ : HS), Rp ζ σ → Sm QV (r17 z1 z2 ζ) (f17 x1 x2 σ)) (x1 : Int32) (z1 : Int) (p1 : x1 = mJ z1) (x2 : Int32) (z2 : Int) (p2 : x2 = mJ z2) (x5 : Int64) (z5 : Int) (p5 : x5 = mL z5) (ζ : ZS) (σ : HS) (hr : Rp ζ σ) : Sm QV (g_X12_cutAll_265 r17 z1 z2 z5 ζ) (f_X12_cutAll_265 f17 0 x1 x2 x5 σ) := by
    unfold g_X12_cutAll_265 f_X12_cutAll_265
    refine sm_rk (a := 4) (pts (rp_s hr) 0 6 4 rfl) kd_4 ?_
    refine sm_ck p1 ln_4 (fun b101 => ?_)
    have hr102 := raJ (a := 4) hr p1 b101 (Nat.le_of_ble_eq_true rfl) p5
    exact h17 _ _ (pa p1 li_1) _ _ p2 _ _ hr102
set_option maxHeartbeats 4000000 in
set_option maxRecDepth 100000 in
theorem q_X12_cutAll_261 (r17 : Int → Int → ZS → Option ZS) (f17 : Int32 → Int32 → HS → Option HS) (h17 : ∀ (x1 : Int32) (z1 : Int) (p1 : x1 = mJ z1) (x2 : Int32) (z2 : Int) (p2 : x2 = mJ z2) (ζ : ZS) (σ : HS), Rp ζ σ → Sm QV (r17 z1 z2 ζ) (f17 x1 x2 σ)) (x1 : Int32) (z1 : Int) (p1 : x1 = mJ z1) (x2 : Int32) (z2 : Int) (p2 : x2 = mJ z2) (x5 : Int64) (z5 : Int) (p5 : x5 = mL z5) (xs0 : Int32) (zs0 : Int) (ps0 : xs0 = mJ zs0) (xs1 : Int32) (zs1 : Int) (ps1 : xs1 = mJ zs1) (cs2 : Nat) (ks2 : kd cs2 = 14) (ζ : ZS) (σ : HS) (hr : Rp ζ σ) : Sm QV (g_X12_cutAll_261 r17 z1 z2 z5 zs0 zs1 cs2 ζ) (f_X12_cutAll_261 f17 0 x1 x2 x5 xs0 xs1 cs2 σ) := by
    unfold g_X12_cutAll_261 f_X12_cutAll_261
    refine sm_ck ps1 rfl (fun b101 => ?_)
    have hr102 := raI (a := cs2) hr ps1 b101 (ln_le _) ps0
    exact q_X12_cutAll_265 _ _ h17 _ _ p1 _ _ (pa p2 li_1) _ _ p5 _ _ hr102
set_option maxHeartbeats 4000000 in
set_option maxRecDepth 100000 in
theorem q_X12_cutAll_236 (r17 : Int → Int → ZS → Option ZS) (f17 : Int32 → Int32 → HS → Option HS) (h17 : ∀ (x1 : Int32) (z1 : Int) (p1 : x1 = mJ z1) (x2 : Int32) (z2 : Int) (p2 : x2 = mJ z2) (ζ : ZS) (σ : HS), Rp ζ σ → Sm QV (r17 z1 z2 ζ) (f17 x1 x2 σ)) (x1 : Int32) (z1 : Int) (p1 : x1 = mJ z1) (x2 : Int32) (z2 : Int) (p2 : x2 = mJ z2) (x5 : Int64) (z5 : Int) (p5 : x5 = mL z5) (xs0 : Int32) (zs0 : Int) (ps0 : xs0 = mJ zs0) (xs1 : Int32) (zs1 : Int) (ps1 : xs1 = mJ zs1) (cs2 : Nat) (ks2 : kd cs2 = 14) (ζ : ZS) (σ : HS) (hr : Rp ζ σ) : Sm QV (g_X12_cutAll_236 r17 z1 z2 z5 zs0 zs1 cs2 ζ) (f_X12_cutAll_236 f17 0 x1 x2 x5 xs0 xs1 cs2 σ) := by
    unfold g_X12_cutAll_236 f_X12_cutAll_236
    refine sm_ck ps1 rfl (fun b101 => ?_)
    have hr102 := raI (a := cs2) hr ps1 b101 (ln_le _) ps0
    exact q_X12_cutAll_265 _ _ h17 _ _ p1 _ _ p2 _ _ p5 _ _ hr102
set_option maxHeartbeats 4000000 in
set_option maxRecDepth 100000 in
theorem q_X12_cutAll_218 (r17 : Int → Int → ZS → Option ZS) (f17 : Int32 → Int32 → HS → Option HS) (h17 : ∀ (x1 : Int32) (z1 : Int) (p1 : x1 = mJ z1) (x2 : Int32) (z2 : Int) (p2 : x2 = mJ z2) (ζ : ZS) (σ : HS), Rp ζ σ → Sm QV (r17 z1 z2 ζ) (f17 x1 x2 σ)) (x1 : Int32) (z1 : Int) (p1 : x1 = mJ z1) (x2 : Int32) (z2 : Int) (p2 : x2 = mJ z2) (x4 : Int32) (z4 : Int) (p4 : x4 = mJ z4) (x5 : Int64) (z5 : Int) (p5 : x5 = mL z5) (ζ : ZS) (σ : HS) (hr : Rp ζ σ) : Sm QV (g_X12_cutAll_218 r17 z1 z2 z4 z5 ζ) (f_X12_cutAll_218 f17 0 x1 x2 x4 x5 σ) := by
    unfold g_X12_cutAll_218 f_X12_cutAll_218
    refine sm_rk (a := 2) (pts (rp_s hr) 0 4 2 rfl) kd_2 ?_
    refine sm_ile (ps p2 p4) li_3 ?_ ?_
    · exact q_X12_cutAll_236 _ _ h17 _ _ p1 _ _ p2 _ _ p5 _ _ li_2 _ _ p1 _ kd_2 _ _ hr
    · exact q_X12_cutAll_236 _ _ h17 _ _ p1 _ _ p2 _ _ p5 _ _ li_4 _ _ p1 _ kd_2 _ _ hr
set_option maxHeartbeats 4000000 in
set_option maxRecDepth 100000 in
theorem q_X12_cutAll_210 (r17 : Int → Int → ZS → Option ZS) (f17 : Int32 → Int32 → HS → Option HS) (h17 : ∀ (x1 : Int32) (z1 : Int) (p1 : x1 = mJ z1) (x2 : Int32) (z2 : Int) (p2 : x2 = mJ z2) (ζ : ZS) (σ : HS), Rp ζ σ → Sm QV (r17 z1 z2 ζ) (f17 x1 x2 σ)) (r159 : Int → Int → ZS → Option ZS) (f159 : Int32 → Int64 → HS → Option HS) (h159 : ∀ (x2 : Int32) (z2 : Int) (p2 : x2 = mJ z2) (x5 : Int64) (z5 : Int) (p5 : x5 = mL z5) (ζ : ZS) (σ : HS), Rp ζ σ → Sm QV (r159 z2 z5 ζ) (f159 x2 x5 σ)) (x1 : Int32) (z1 : Int) (p1 : x1 = mJ z1) (x2 : Int32) (z2 : Int) (p2 : x2 = mJ z2) (x4 : Int32) (z4 : Int) (p4 : x4 = mJ z4) (xs0 : Int64) (zs0 : Int) (ps0 : xs0 = mL zs0) (ζ : ZS) (σ : HS) (hr : Rp ζ σ) : Sm QV (g_X12_cutAll_210 r17 r159 z1 z2 z4 zs0 ζ) (f_X12_cutAll_210 f17 f159 0 x1 x2 x4 xs0 σ) := by
    unfold g_X12_cutAll_210 f_X12_cutAll_210
    exact h159 _ _ (pa p2 li_1) _ _ ps0 _ _ hr
set_option maxHeartbeats 4000000 in
set_option maxRecDepth 100000 in
theorem q_X12_cutAll_159 (x1 : Int32) (z1 : Int) (p1 : x1 = mJ z1) (x4 : Int32) (z4 : Int) (p4 : x4 = mJ z4) (r17 : Int → Int → ZS → Option ZS) (f17 : Int32 → Int32 → HS → Option HS) (h17 : ∀ (x1 : Int32) (z1 : Int) (p1 : x1 = mJ z1) (x2 : Int32) (z2 : Int) (p2 : x2 = mJ z2) (ζ : ZS) (σ : HS), Rp ζ σ → Sm QV (r17 z1 z2 ζ) (f17 x1 x2 σ)) : ∀ (n : Nat) (x2 : Int32) (z2 : Int) (p2 : x2 = mJ z2) (x5 : Int64) (z5 : Int) (p5 : x5 = mL z5) (ζ : ZS) (σ : HS), Rp ζ σ → Sm QV (g_X12_cutAll_159 z1 z4 r17 n z2 z5 ζ) (f_X12_cutAll_159 0 x1 x4 f17 n x2 x5 σ) := by
  intro n
  induction n with
  | zero =>
    intro x2 z2 p2 x5 z5 p5 ζ σ hr
    exact sm_none
  | succ n ih =>
    intro x2 z2 p2 x5 z5 p5 ζ σ hr
    rw [g_X12_cutAll_159.eq_2, f_X12_cutAll_159.eq_2]
    refine sm_ile (hr.1 0 3) p2 ?_ ?_
    · exact q_X12_cutAll_218 _ _ h17 _ _ p1 _ _ p2 _ _ p4 _ _ p5 _ _ hr
    · refine sm_rk (a := 1) (pts (rp_s hr) 0 1 1 rfl) kd_1 ?_
      refine sm_ck p2 ln_1 (fun b101 => ?_)
      refine sm_bind (q_X12_isDigit _ _ (rdI (a := 1) hr p2 b101 (Nat.le_of_ble_eq_true rfl)) _ _ hr) (fun q2 w2 e2 => ?_)
      refine sm_ieq e2.1 li_0 ?_ ?_
      · exact q_X12_cutAll_218 _ _ h17 _ _ p1 _ _ p2 _ _ p4 _ _ p5 _ _ e2.2
      · refine sm_ile li_3 (ps p2 p4) ?_ ?_
        · exact q_X12_cutAll_210 _ _ h17 _ _ ih _ _ p1 _ _ p2 _ _ p4 _ _ p5 _ _ e2.2
        · refine sm_rk (a := 1) (pts (rp_s e2.2) 0 1 1 rfl) kd_1 ?_
          refine sm_ck p2 ln_1 (fun b103 => ?_)
          refine sm_gw (fun b104 => ?_)
          exact q_X12_cutAll_210 _ _ h17 _ _ ih _ _ p1 _ _ p2 _ _ p4 _ _ (psJ (paJ (pmJ lj_10 p5) (pi2l (rdI (a := 1) e2.2 p2 b103 (Nat.le_of_ble_eq_true rfl)) b104)) lj_48) _ _ e2.2
set_option maxHeartbeats 4000000 in
set_option maxRecDepth 100000 in
theorem q_X12_cutAll_148 (r17 : Int → Int → ZS → Option ZS) (f17 : Int32 → Int32 → HS → Option HS) (h17 : ∀ (x1 : Int32) (z1 : Int) (p1 : x1 = mJ z1) (x2 : Int32) (z2 : Int) (p2 : x2 = mJ z2) (ζ : ZS) (σ : HS), Rp ζ σ → Sm QV (r17 z1 z2 ζ) (f17 x1 x2 σ)) (x1 : Int32) (z1 : Int) (p1 : x1 = mJ z1) (x2 : Int32) (z2 : Int) (p2 : x2 = mJ z2) (x5 : Int64) (z5 : Int) (p5 : x5 = mL z5) (xs0 : Int32) (zs0 : Int) (ps0 : xs0 = mJ zs0) (xs1 : Int32) (zs1 : Int) (ps1 : xs1 = mJ zs1) (cs2 : Nat) (ks2 : kd cs2 = 14) (ζ : ZS) (σ : HS) (hr : Rp ζ σ) : Sm QV (g_X12_cutAll_148 r17 z1 z2 z5 zs0 zs1 cs2 ζ) (f_X12_cutAll_148 f17 0 x1 x2 x5 xs0 xs1 cs2 σ) := by
    unfold g_X12_cutAll_148 f_X12_cutAll_148
    refine sm_ck ps1 rfl (fun b101 => ?_)
    have hr102 := raI (a := cs2) hr ps1 b101 (ln_le _) ps0
    exact q_X12_cutAll_265 _ _ h17 _ _ p1 _ _ p2 _ _ p5 _ _ hr102
set_option maxHeartbeats 4000000 in
set_option maxRecDepth 100000 in
theorem q_X12_cutAll_129 (r17 : Int → Int → ZS → Option ZS) (f17 : Int32 → Int32 → HS → Option HS) (h17 : ∀ (x1 : Int32) (z1 : Int) (p1 : x1 = mJ z1) (x2 : Int32) (z2 : Int) (p2 : x2 = mJ z2) (ζ : ZS) (σ : HS), Rp ζ σ → Sm QV (r17 z1 z2 ζ) (f17 x1 x2 σ)) (x1 : Int32) (z1 : Int) (p1 : x1 = mJ z1) (x2 : Int32) (z2 : Int) (p2 : x2 = mJ z2) (x4 : Int32) (z4 : Int) (p4 : x4 = mJ z4) (x5 : Int64) (z5 : Int) (p5 : x5 = mL z5) (ζ : ZS) (σ : HS) (hr : Rp ζ σ) : Sm QV (g_X12_cutAll_129 r17 z1 z2 z4 z5 ζ) (f_X12_cutAll_129 f17 0 x1 x2 x4 x5 σ) := by
    unfold g_X12_cutAll_129 f_X12_cutAll_129
    refine sm_rk (a := 2) (pts (rp_s hr) 0 4 2 rfl) kd_2 ?_
    refine sm_ile (ps p2 p4) li_8 ?_ ?_
    · exact q_X12_cutAll_148 _ _ h17 _ _ p1 _ _ p2 _ _ p5 _ _ li_1 _ _ p1 _ kd_2 _ _ hr
    · exact q_X12_cutAll_148 _ _ h17 _ _ p1 _ _ p2 _ _ p5 _ _ li_4 _ _ p1 _ kd_2 _ _ hr
set_option maxHeartbeats 4000000 in
set_option maxRecDepth 100000 in
theorem q_X12_cutAll_121 (r17 : Int → Int → ZS → Option ZS) (f17 : Int32 → Int32 → HS → Option HS) (h17 : ∀ (x1 : Int32) (z1 : Int) (p1 : x1 = mJ z1) (x2 : Int32) (z2 : Int) (p2 : x2 = mJ z2) (ζ : ZS) (σ : HS), Rp ζ σ → Sm QV (r17 z1 z2 ζ) (f17 x1 x2 σ)) (r70 : Int → Int → ZS → Option ZS) (f70 : Int32 → Int64 → HS → Option HS) (h70 : ∀ (x2 : Int32) (z2 : Int) (p2 : x2 = mJ z2) (x5 : Int64) (z5 : Int) (p5 : x5 = mL z5) (ζ : ZS) (σ : HS), Rp ζ σ → Sm QV (r70 z2 z5 ζ) (f70 x2 x5 σ)) (x1 : Int32) (z1 : Int) (p1 : x1 = mJ z1) (x2 : Int32) (z2 : Int) (p2 : x2 = mJ z2) (x4 : Int32) (z4 : Int) (p4 : x4 = mJ z4) (xs0 : Int64) (zs0 : Int) (ps0 : xs0 = mL zs0) (ζ : ZS) (σ : HS) (hr : Rp ζ σ) : Sm QV (g_X12_cutAll_121 r17 r70 z1 z2 z4 zs0 ζ) (f_X12_cutAll_121 f17 f70 0 x1 x2 x4 xs0 σ) := by
    unfold g_X12_cutAll_121 f_X12_cutAll_121
    exact h70 _ _ (pa p2 li_1) _ _ ps0 _ _ hr
set_option maxHeartbeats 4000000 in
set_option maxRecDepth 100000 in
theorem q_X12_cutAll_70 (x1 : Int32) (z1 : Int) (p1 : x1 = mJ z1) (x4 : Int32) (z4 : Int) (p4 : x4 = mJ z4) (r17 : Int → Int → ZS → Option ZS) (f17 : Int32 → Int32 → HS → Option HS) (h17 : ∀ (x1 : Int32) (z1 : Int) (p1 : x1 = mJ z1) (x2 : Int32) (z2 : Int) (p2 : x2 = mJ z2) (ζ : ZS) (σ : HS), Rp ζ σ → Sm QV (r17 z1 z2 ζ) (f17 x1 x2 σ)) : ∀ (n : Nat) (x2 : Int32) (z2 : Int) (p2 : x2 = mJ z2) (x5 : Int64) (z5 : Int) (p5 : x5 = mL z5) (ζ : ZS) (σ : HS), Rp ζ σ → Sm QV (g_X12_cutAll_70 z1 z4 r17 n z2 z5 ζ) (f_X12_cutAll_70 0 x1 x4 f17 n x2 x5 σ) := by
  intro n
  induction n with
  | zero =>
    intro x2 z2 p2 x5 z5 p5 ζ σ hr
    exact sm_none
  | succ n ih =>
    intro x2 z2 p2 x5 z5 p5 ζ σ hr
    rw [g_X12_cutAll_70.eq_2, f_X12_cutAll_70.eq_2]
    refine sm_ile (hr.1 0 3) p2 ?_ ?_
    · exact q_X12_cutAll_129 _ _ h17 _ _ p1 _ _ p2 _ _ p4 _ _ p5 _ _ hr
    · refine sm_rk (a := 1) (pts (rp_s hr) 0 1 1 rfl) kd_1 ?_
      refine sm_ck p2 ln_1 (fun b101 => ?_)
      refine sm_bind (q_X12_isLetter _ _ (rdI (a := 1) hr p2 b101 (Nat.le_of_ble_eq_true rfl)) _ _ hr) (fun q2 w2 e2 => ?_)
      refine sm_ieq e2.1 li_0 ?_ ?_
      · exact q_X12_cutAll_129 _ _ h17 _ _ p1 _ _ p2 _ _ p4 _ _ p5 _ _ e2.2
      · refine sm_ile li_8 (ps p2 p4) ?_ ?_
        · exact q_X12_cutAll_121 _ _ h17 _ _ ih _ _ p1 _ _ p2 _ _ p4 _ _ p5 _ _ e2.2
        · refine sm_rk (a := 1) (pts (rp_s e2.2) 0 1 1 rfl) kd_1 ?_
          refine sm_ck p2 ln_1 (fun b103 => ?_)
          refine sm_bind (q_X12_rank _ _ (rdI (a := 1) e2.2 p2 b103 (Nat.le_of_ble_eq_true rfl)) _ _ e2.2) (fun q4 w4 e4 => ?_)
          refine sm_gw (fun b105 => ?_)
          exact q_X12_cutAll_121 _ _ h17 _ _ ih _ _ p1 _ _ p2 _ _ p4 _ _ (paJ (pmJ lj_37 p5) (pi2l e4.1 b105)) _ _ e4.2
set_option maxHeartbeats 4000000 in
set_option maxRecDepth 100000 in
theorem q_X12_cutAll_17  : ∀ (n : Nat) (x1 : Int32) (z1 : Int) (p1 : x1 = mJ z1) (x2 : Int32) (z2 : Int) (p2 : x2 = mJ z2) (ζ : ZS) (σ : HS), Rp ζ σ → Sm QV (g_X12_cutAll_17 n z1 z2 ζ) (f_X12_cutAll_17 0 n x1 x2 σ) := by
  intro n
  induction n with
  | zero =>
    intro x1 z1 p1 x2 z2 p2 ζ σ hr
    exact sm_none
  | succ n ih =>
    intro x1 z1 p1 x2 z2 p2 ζ σ hr
    rw [g_X12_cutAll_17.eq_2, f_X12_cutAll_17.eq_2]
    refine sm_ile (hr.1 0 3) p2 ?_ ?_
    · refine sm_rk (a := 2) (pts (rp_s hr) 0 4 2 rfl) kd_2 ?_
      refine sm_ck p1 ln_2 (fun b101 => ?_)
      have hr102 := raI (a := 2) hr p1 b101 (Nat.le_of_ble_eq_true rfl) li_0
      refine sm_rk (a := 3) (pts (rp_s hr102) 0 5 3 rfl) kd_3 ?_
      refine sm_ck p1 ln_3 (fun b103 => ?_)
      have hr104 := raI (a := 3) hr102 p1 b103 (Nat.le_of_ble_eq_true rfl) (hr102.1 0 3)
      have hr105 := rwI (a := 0) (k := 7) hr104 li_0
      have hr106 := rwI (a := 0) (k := 8) hr105 li_0
      exact sm_rv hr106
    · refine sm_rk (a := 1) (pts (rp_s hr) 0 1 1 rfl) kd_1 ?_
      refine sm_ck p2 ln_1 (fun b107 => ?_)
      refine sm_ieq (rdI (a := 1) hr p2 b107 (Nat.le_of_ble_eq_true rfl)) li_10 ?_ ?_
      · exact q_X12_cutAll_44 _ _ ih _ _ p1 _ _ p2 _ _ hr
      · refine sm_ieq (rdI (a := 1) hr p2 b107 (Nat.le_of_ble_eq_true rfl)) li_32 ?_ ?_
        · exact q_X12_cutAll_44 _ _ ih _ _ p1 _ _ p2 _ _ hr
        · refine sm_rk (a := 3) (pts (rp_s hr) 0 5 3 rfl) kd_3 ?_
          refine sm_ck p1 ln_3 (fun b108 => ?_)
          have hr109 := raI (a := 3) hr p1 b108 (Nat.le_of_ble_eq_true rfl) p2
          refine sm_bind (q_X12_isLetter _ _ (rdI (a := 1) hr p2 b107 (Nat.le_of_ble_eq_true rfl)) _ _ hr109) (fun q10 w10 e10 => ?_)
          refine sm_ieq e10.1 li_0 ?_ ?_
          · refine sm_bind (q_X12_isDigit _ _ (rdI (a := 1) hr p2 b107 (Nat.le_of_ble_eq_true rfl)) _ _ e10.2) (fun q11 w11 e11 => ?_)
            refine sm_ieq e11.1 li_0 ?_ ?_
            · refine sm_gw (fun b112 => ?_)
              refine sm_rk (a := 2) (pts (rp_s e11.2) 0 4 2 rfl) kd_2 ?_
              refine sm_bind (q_X12_isSignOf _ _ (rdI (a := 1) hr p2 b107 (Nat.le_of_ble_eq_true rfl)) _ _ e11.2) (fun q13 w13 e13 => ?_)
              refine sm_ieq e13.1 li_0 ?_ ?_
              · exact q_X12_cutAll_261 _ _ ih _ _ p1 _ _ p2 _ _ (pi2l (rdI (a := 1) hr p2 b107 (Nat.le_of_ble_eq_true rfl)) b112) _ _ li_4 _ _ p1 _ kd_2 _ _ e13.2
              · exact q_X12_cutAll_261 _ _ ih _ _ p1 _ _ p2 _ _ (pi2l (rdI (a := 1) hr p2 b107 (Nat.le_of_ble_eq_true rfl)) b112) _ _ li_3 _ _ p1 _ kd_2 _ _ e13.2
            · exact q_X12_cutAll_159 _ _ p1 _ _ p2 _ _ ih FU _ _ p2 _ _ lj_0 _ _ e11.2
          · exact q_X12_cutAll_70 _ _ p1 _ _ p2 _ _ ih FU _ _ p2 _ _ lj_0 _ _ e10.2
set_option maxHeartbeats 4000000 in
set_option maxRecDepth 100000 in
theorem q_X12_cutAll  (ζ : ZS) (σ : HS) (hr : Rp ζ σ) : Sm QV (g_X12_cutAll ζ) (f_X12_cutAll 0 σ) := by
    unfold g_X12_cutAll f_X12_cutAll
    have hr101 := rwI (a := 0) (k := 3) hr (hr.1 0 2)
    have hr102 := rwI (a := 0) (k := 2) hr101 li_0
    exact q_X12_cutAll_17 FU _ _ li_0 _ _ li_0 _ _ hr102
set_option maxHeartbeats 4000000 in
set_option maxRecDepth 100000 in
theorem q_X12_wrong_25  (ζ : ZS) (σ : HS) (hr : Rp ζ σ) : Sm QV (g_X12_wrong_25 ζ) (f_X12_wrong_25 σ) := by
    unfold g_X12_wrong_25 f_X12_wrong_25
    exact sm_rv hr
set_option maxHeartbeats 4000000 in
set_option maxRecDepth 100000 in
theorem q_X12_wrong (x1 : Int32) (z1 : Int) (p1 : x1 = mJ z1) (ζ : ZS) (σ : HS) (hr : Rp ζ σ) : Sm QV (g_X12_wrong z1 ζ) (f_X12_wrong 0 x1 σ) := by
    unfold g_X12_wrong f_X12_wrong
    refine sm_ieq (hr.1 0 8) li_0 ?_ ?_
    · refine sm_rk (a := 3) (pts (rp_s hr) 0 5 3 rfl) kd_3 ?_
      refine sm_ck (hr.1 0 7) ln_3 (fun b101 => ?_)
      have hr102 := rwI (a := 0) (k := 8) hr (pa p1 (pm li_16 (rdI (a := 3) hr (hr.1 0 7) b101 (Nat.le_of_ble_eq_true rfl))))
      exact q_X12_wrong_25 _ _ hr102
    · exact q_X12_wrong_25 _ _ hr
set_option maxHeartbeats 4000000 in
set_option maxRecDepth 100000 in
theorem q_X12_isSign_40 (xs0 : Int32) (zs0 : Int) (ps0 : xs0 = mJ zs0) (ζ : ZS) (σ : HS) (hr : Rp ζ σ) : Sm QI (g_X12_isSign_40 zs0 ζ) (f_X12_isSign_40 xs0 σ) := by
    unfold g_X12_isSign_40 f_X12_isSign_40
    exact sm_zr ps0 hr
set_option maxHeartbeats 4000000 in
set_option maxRecDepth 100000 in
theorem q_X12_isSign_39  (ζ : ZS) (σ : HS) (hr : Rp ζ σ) : Sm QI (g_X12_isSign_39 ζ) (f_X12_isSign_39 σ) := by
    unfold g_X12_isSign_39 f_X12_isSign_39
    exact q_X12_isSign_40 _ _ li_0 _ _ hr
set_option maxHeartbeats 4000000 in
set_option maxRecDepth 100000 in
theorem q_X12_isSign (x1 : Int32) (z1 : Int) (p1 : x1 = mJ z1) (ζ : ZS) (σ : HS) (hr : Rp ζ σ) : Sm QI (g_X12_isSign z1 ζ) (f_X12_isSign 0 x1 σ) := by
    unfold g_X12_isSign f_X12_isSign
    refine sm_ieq (hr.1 0 8) li_0 ?_ ?_
    · refine sm_rk (a := 2) (pts (rp_s hr) 0 4 2 rfl) kd_2 ?_
      refine sm_ck (hr.1 0 7) ln_2 (fun b101 => ?_)
      refine sm_ieq (rdI (a := 2) hr (hr.1 0 7) b101 (Nat.le_of_ble_eq_true rfl)) li_3 ?_ ?_
      · refine sm_rk (a := 4) (pts (rp_s hr) 0 6 4 rfl) kd_4 ?_
        refine sm_ck (hr.1 0 7) ln_4 (fun b102 => ?_)
        refine sm_gw (fun b103 => ?_)
        refine sm_jeq (rdJ (a := 4) hr (hr.1 0 7) b102 (Nat.le_of_ble_eq_true rfl)) (pi2l p1 b103) ?_ ?_
        · exact q_X12_isSign_40 _ _ li_1 _ _ hr
        · exact q_X12_isSign_39 _ _ hr
      · exact q_X12_isSign_39 _ _ hr
    · exact q_X12_isSign_39 _ _ hr
set_option maxHeartbeats 4000000 in
set_option maxRecDepth 100000 in
theorem q_X12_isWord_44 (xs0 : Int32) (zs0 : Int) (ps0 : xs0 = mJ zs0) (ζ : ZS) (σ : HS) (hr : Rp ζ σ) : Sm QI (g_X12_isWord_44 zs0 ζ) (f_X12_isWord_44 xs0 σ) := by
    unfold g_X12_isWord_44 f_X12_isWord_44
    exact sm_zr ps0 hr
set_option maxHeartbeats 4000000 in
set_option maxRecDepth 100000 in
theorem q_X12_isWord_43  (ζ : ZS) (σ : HS) (hr : Rp ζ σ) : Sm QI (g_X12_isWord_43 ζ) (f_X12_isWord_43 σ) := by
    unfold g_X12_isWord_43 f_X12_isWord_43
    exact q_X12_isWord_44 _ _ li_0 _ _ hr
set_option maxHeartbeats 4000000 in
set_option maxRecDepth 100000 in
theorem q_X12_isWord (x1 : Int32) (z1 : Int) (p1 : x1 = mJ z1) (ζ : ZS) (σ : HS) (hr : Rp ζ σ) : Sm QI (g_X12_isWord z1 ζ) (f_X12_isWord 0 x1 σ) := by
    unfold g_X12_isWord f_X12_isWord
    refine sm_ieq (hr.1 0 8) li_0 ?_ ?_
    · refine sm_rk (a := 2) (pts (rp_s hr) 0 4 2 rfl) kd_2 ?_
      refine sm_ck (hr.1 0 7) ln_2 (fun b101 => ?_)
      refine sm_ieq (rdI (a := 2) hr (hr.1 0 7) b101 (Nat.le_of_ble_eq_true rfl)) li_1 ?_ ?_
      · refine sm_rk (a := 4) (pts (rp_s hr) 0 6 4 rfl) kd_4 ?_
        refine sm_ck (hr.1 0 7) ln_4 (fun b102 => ?_)
        refine sm_rk (a := 5) (pts (rp_s hr) 0 9 5 rfl) kd_5 ?_
        refine sm_ck p1 ln_5 (fun b103 => ?_)
        refine sm_jeq (rdJ (a := 4) hr (hr.1 0 7) b102 (Nat.le_of_ble_eq_true rfl)) (rdJ (a := 5) hr p1 b103 (Nat.le_of_ble_eq_true rfl)) ?_ ?_
        · exact q_X12_isWord_44 _ _ li_1 _ _ hr
        · exact q_X12_isWord_43 _ _ hr
      · exact q_X12_isWord_43 _ _ hr
    · exact q_X12_isWord_43 _ _ hr
set_option maxHeartbeats 4000000 in
set_option maxRecDepth 100000 in
theorem q_X12_takeSign_26  (ζ : ZS) (σ : HS) (hr : Rp ζ σ) : Sm QV (g_X12_takeSign_26 ζ) (f_X12_takeSign_26 σ) := by
    unfold g_X12_takeSign_26 f_X12_takeSign_26
    exact sm_rv hr
set_option maxHeartbeats 4000000 in
set_option maxRecDepth 100000 in
theorem q_X12_takeSign (x1 : Int32) (z1 : Int) (p1 : x1 = mJ z1) (ζ : ZS) (σ : HS) (hr : Rp ζ σ) : Sm QV (g_X12_takeSign z1 ζ) (f_X12_takeSign 0 x1 σ) := by
    unfold g_X12_takeSign f_X12_takeSign
    refine sm_bind (q_X12_isSign _ _ p1 _ _ hr) (fun q1 w1 e1 => ?_)
    refine sm_ieq e1.1 li_0 ?_ ?_
    · refine sm_bind (q_X12_wrong _ _ li_1 _ _ e1.2) (fun q2 w2 e2 => ?_)
      exact q_X12_takeSign_26 _ _ e2
    · have hr103 := rwI (a := 0) (k := 7) e1.2 (pa (e1.2.1 0 7) li_1)
      exact q_X12_takeSign_26 _ _ hr103
set_option maxHeartbeats 4000000 in
set_option maxRecDepth 100000 in
theorem q_X12_within_15 (xs0 : Int32) (zs0 : Int) (ps0 : xs0 = mJ zs0) (ζ : ZS) (σ : HS) (hr : Rp ζ σ) : Sm QI (g_X12_within_15 zs0 ζ) (f_X12_within_15 xs0 σ) := by
    unfold g_X12_within_15 f_X12_within_15
    exact sm_zr ps0 hr
set_option maxHeartbeats 4000000 in
set_option maxRecDepth 100000 in
theorem q_X12_within_14  (ζ : ZS) (σ : HS) (hr : Rp ζ σ) : Sm QI (g_X12_within_14 ζ) (f_X12_within_14 σ) := by
    unfold g_X12_within_14 f_X12_within_14
    exact q_X12_within_15 _ _ li_0 _ _ hr
set_option maxHeartbeats 4000000 in
set_option maxRecDepth 100000 in
theorem q_X12_within (x0 : Int32) (z0 : Int) (p0 : x0 = mJ z0) (x1 : Int32) (z1 : Int) (p1 : x1 = mJ z1) (x2 : Int32) (z2 : Int) (p2 : x2 = mJ z2) (ζ : ZS) (σ : HS) (hr : Rp ζ σ) : Sm QI (g_X12_within z0 z1 z2 ζ) (f_X12_within x0 x1 x2 σ) := by
    unfold g_X12_within f_X12_within
    refine sm_ilt p0 p1 ?_ ?_
    · exact q_X12_within_14 _ _ hr
    · refine sm_ilt p2 p0 ?_ ?_
      · exact q_X12_within_14 _ _ hr
      · exact q_X12_within_15 _ _ li_1 _ _ hr
set_option maxHeartbeats 4000000 in
set_option maxRecDepth 100000 in
theorem q_X12_forgetsChoice_9 (x1 : Int32) (z1 : Int) (p1 : x1 = mJ z1) : ∀ (n : Nat) (x2 : Int32) (z2 : Int) (p2 : x2 = mJ z2) (ζ : ZS) (σ : HS), Rp ζ σ → Sm QV (g_X12_forgetsChoice_9 z1 n z2 ζ) (f_X12_forgetsChoice_9 0 x1 n x2 σ) := by
  intro n
  induction n with
  | zero =>
    intro x2 z2 p2 ζ σ hr
    exact sm_none
  | succ n ih =>
    intro x2 z2 p2 ζ σ hr
    rw [g_X12_forgetsChoice_9.eq_2, f_X12_forgetsChoice_9.eq_2]
    refine sm_ile li_4 p2 ?_ ?_
    · exact sm_rv hr
    · refine sm_rk (a := 6) (pts (rp_s hr) 0 10 6 rfl) kd_6 ?_
      refine sm_ck (pa (pm li_4 p1) p2) ln_6 (fun b101 => ?_)
      have hr102 := raI (a := 6) hr (pa (pm li_4 p1) p2) b101 (Nat.le_of_ble_eq_true rfl) (pand li_0 li_1)
      refine sm_rk (a := 7) (pts (rp_s hr102) 0 11 7 rfl) kd_7 ?_
      refine sm_ck (pa (pm li_4 p1) p2) ln_7 (fun b103 => ?_)
      have hr104 := raI (a := 7) hr102 (pa (pm li_4 p1) p2) b103 (Nat.le_of_ble_eq_true rfl) li_m1
      refine sm_rk (a := 8) (pts (rp_s hr104) 0 12 8 rfl) kd_8 ?_
      refine sm_ck (pa (pm li_4 p1) p2) ln_8 (fun b105 => ?_)
      have hr106 := raI (a := 8) hr104 (pa (pm li_4 p1) p2) b105 (Nat.le_of_ble_eq_true rfl) li_m1
      exact ih _ _ (pa p2 li_1) _ _ hr106
set_option maxHeartbeats 4000000 in
set_option maxRecDepth 100000 in
theorem q_X12_forgetsChoice (x1 : Int32) (z1 : Int) (p1 : x1 = mJ z1) (ζ : ZS) (σ : HS) (hr : Rp ζ σ) : Sm QV (g_X12_forgetsChoice z1 ζ) (f_X12_forgetsChoice 0 x1 σ) := by
    unfold g_X12_forgetsChoice f_X12_forgetsChoice
    refine sm_rk (a := 9) (pts (rp_s hr) 0 13 9 rfl) kd_9 ?_
    refine sm_ck p1 ln_9 (fun b101 => ?_)
    have hr102 := raI (a := 9) hr p1 b101 (Nat.le_of_ble_eq_true rfl) li_0
    exact q_X12_forgetsChoice_9 _ _ p1 FU _ _ li_0 _ _ hr102
set_option maxHeartbeats 4000000 in
set_option maxRecDepth 100000 in
theorem q_X12_takeNumber_70  (ζ : ZS) (σ : HS) (hr : Rp ζ σ) : Sm QI (g_X12_takeNumber_70 ζ) (f_X12_takeNumber_70 0 σ) := by
    unfold g_X12_takeNumber_70 f_X12_takeNumber_70
    refine sm_ile (hr.1 0 8) li_0 ?_ ?_
    · have hr101 := rwI (a := 0) (k := 7) hr (pa (hr.1 0 7) li_1)
      refine sm_rk (a := 4) (pts (rp_s hr101) 0 6 4 rfl) kd_4 ?_
      refine sm_ck (ps (hr101.1 0 7) li_1) ln_4 (fun b102 => ?_)
      exact sm_ri (pl2i (rdJ (a := 4) hr101 (ps (hr101.1 0 7) li_1) b102 (Nat.le_of_ble_eq_true rfl))) hr101
    · exact sm_ri li_0 hr
set_option maxHeartbeats 4000000 in
set_option maxRecDepth 100000 in
theorem q_X12_takeNumber_65  (ζ : ZS) (σ : HS) (hr : Rp ζ σ) : Sm QI (g_X12_takeNumber_65 ζ) (f_X12_takeNumber_65 0 σ) := by
    unfold g_X12_takeNumber_65 f_X12_takeNumber_65
    refine sm_bind (q_X12_wrong _ _ li_4 _ _ hr) (fun q1 w1 e1 => ?_)
    exact q_X12_takeNumber_70 _ _ e1
set_option maxHeartbeats 4000000 in
set_option maxRecDepth 100000 in
theorem q_X12_takeNumber_28 (x1 : Int32) (z1 : Int) (p1 : x1 = mJ z1) (x2 : Int32) (z2 : Int) (p2 : x2 = mJ z2) (ζ : ZS) (σ : HS) (hr : Rp ζ σ) : Sm QI (g_X12_takeNumber_28 z1 z2 ζ) (f_X12_takeNumber_28 0 x1 x2 σ) := by
    unfold g_X12_takeNumber_28 f_X12_takeNumber_28
    refine sm_ieq (hr.1 0 8) li_0 ?_ ?_
    · refine sm_rk (a := 4) (pts (rp_s hr) 0 6 4 rfl) kd_4 ?_
      refine sm_ck (hr.1 0 7) ln_4 (fun b101 => ?_)
      refine sm_gw (fun b102 => ?_)
      refine sm_jlt (rdJ (a := 4) hr (hr.1 0 7) b101 (Nat.le_of_ble_eq_true rfl)) (pi2l p1 b102) ?_ ?_
      · exact q_X12_takeNumber_65 _ _ hr
      · refine sm_rk (a := 4) (pts (rp_s hr) 0 6 4 rfl) kd_4 ?_
        refine sm_ck (hr.1 0 7) ln_4 (fun b103 => ?_)
        refine sm_gw (fun b104 => ?_)
        refine sm_jle (rdJ (a := 4) hr (hr.1 0 7) b103 (Nat.le_of_ble_eq_true rfl)) (pi2l p2 b104) ?_ ?_
        · exact q_X12_takeNumber_70 _ _ hr
        · exact q_X12_takeNumber_65 _ _ hr
    · exact q_X12_takeNumber_70 _ _ hr
set_option maxHeartbeats 4000000 in
set_option maxRecDepth 100000 in
theorem q_X12_takeNumber (x1 : Int32) (z1 : Int) (p1 : x1 = mJ z1) (x2 : Int32) (z2 : Int) (p2 : x2 = mJ z2) (ζ : ZS) (σ : HS) (hr : Rp ζ σ) : Sm QI (g_X12_takeNumber z1 z2 ζ) (f_X12_takeNumber 0 x1 x2 σ) := by
    unfold g_X12_takeNumber f_X12_takeNumber
    refine sm_ieq (hr.1 0 8) li_0 ?_ ?_
    · refine sm_rk (a := 2) (pts (rp_s hr) 0 4 2 rfl) kd_2 ?_
      refine sm_ck (hr.1 0 7) ln_2 (fun b101 => ?_)
      refine sm_ieq (rdI (a := 2) hr (hr.1 0 7) b101 (Nat.le_of_ble_eq_true rfl)) li_2 ?_ ?_
      · exact q_X12_takeNumber_28 _ _ p1 _ _ p2 _ _ hr
      · refine sm_bind (q_X12_wrong _ _ li_1 _ _ hr) (fun q2 w2 e2 => ?_)
        exact q_X12_takeNumber_70 _ _ e2
    · exact q_X12_takeNumber_28 _ _ p1 _ _ p2 _ _ hr
set_option maxHeartbeats 4000000 in
set_option maxRecDepth 100000 in
theorem q_X12_readMeasure_230  (ζ : ZS) (σ : HS) (hr : Rp ζ σ) : Sm QV (g_X12_readMeasure_230 ζ) (f_X12_readMeasure_230 σ) := by
    unfold g_X12_readMeasure_230 f_X12_readMeasure_230
    exact sm_rv hr
set_option maxHeartbeats 4000000 in
set_option maxRecDepth 100000 in
theorem q_X12_readMeasure_229 (xs0 : Int32) (zs0 : Int) (ps0 : xs0 = mJ zs0) (xs1 : Int32) (zs1 : Int) (ps1 : xs1 = mJ zs1) (cs2 : Nat) (ks2 : kd cs2 = 14) (ζ : ZS) (σ : HS) (hr : Rp ζ σ) : Sm QV (g_X12_readMeasure_229 zs0 zs1 cs2 ζ) (f_X12_readMeasure_229 xs0 xs1 cs2 σ) := by
    unfold g_X12_readMeasure_229 f_X12_readMeasure_229
    refine sm_ck ps1 rfl (fun b101 => ?_)
    have hr102 := raI (a := cs2) hr ps1 b101 (ln_le _) ps0
    exact q_X12_readMeasure_230 _ _ hr102
set_option maxHeartbeats 4000000 in
set_option maxRecDepth 100000 in
theorem q_X12_readMeasure_208 (x1 : Int32) (z1 : Int) (p1 : x1 = mJ z1) (x2 : Int32) (z2 : Int) (p2 : x2 = mJ z2) (x3 : Int32) (z3 : Int) (p3 : x3 = mJ z3) (xs0 : Int32) (zs0 : Int) (ps0 : xs0 = mJ zs0) (xs1 : Int32) (zs1 : Int) (ps1 : xs1 = mJ zs1) (cs2 : Nat) (ks2 : kd cs2 = 14) (ζ : ZS) (σ : HS) (hr : Rp ζ σ) : Sm QV (g_X12_readMeasure_208 z1 z2 z3 zs0 zs1 cs2 ζ) (f_X12_readMeasure_208 0 x1 x2 x3 xs0 xs1 cs2 σ) := by
    unfold g_X12_readMeasure_208 f_X12_readMeasure_208
    refine sm_ck ps1 rfl (fun b101 => ?_)
    have hr102 := raI (a := cs2) hr ps1 b101 (ln_le _) ps0
    refine sm_rk (a := 8) (pts (rp_s hr102) 0 12 8 rfl) kd_8 ?_
    refine sm_ieq p1 li_2 ?_ ?_
    · exact q_X12_readMeasure_229 _ _ p3 _ _ p2 _ kd_8 _ _ hr102
    · refine sm_rk (a := 8) (pts (rp_s hr102) 0 12 8 rfl) kd_8 ?_
      refine sm_ck p2 ln_8 (fun b103 => ?_)
      exact q_X12_readMeasure_229 _ _ (rdI (a := 8) hr102 p2 b103 (Nat.le_of_ble_eq_true rfl)) _ _ p2 _ kd_8 _ _ hr102
set_option maxHeartbeats 4000000 in
set_option maxRecDepth 100000 in
theorem q_X12_readMeasure_187 (x1 : Int32) (z1 : Int) (p1 : x1 = mJ z1) (x2 : Int32) (z2 : Int) (p2 : x2 = mJ z2) (x3 : Int32) (z3 : Int) (p3 : x3 = mJ z3) (xs0 : Int32) (zs0 : Int) (ps0 : xs0 = mJ zs0) (xs1 : Int32) (zs1 : Int) (ps1 : xs1 = mJ zs1) (cs2 : Nat) (ks2 : kd cs2 = 16) (ζ : ZS) (σ : HS) (hr : Rp ζ σ) : Sm QV (g_X12_readMeasure_187 z1 z2 z3 zs0 zs1 cs2 ζ) (f_X12_readMeasure_187 0 x1 x2 x3 xs0 xs1 cs2 σ) := by
    unfold g_X12_readMeasure_187 f_X12_readMeasure_187
    refine sm_ck ps1 rfl (fun b101 => ?_)
    have hr102 := raI (a := cs2) hr ps1 b101 (ln_le _) (pand ps0 li_1)
    refine sm_rk (a := 7) (pts (rp_s hr102) 0 11 7 rfl) kd_7 ?_
    refine sm_ieq p1 li_1 ?_ ?_
    · exact q_X12_readMeasure_208 _ _ p1 _ _ p2 _ _ p3 _ _ p3 _ _ p2 _ kd_7 _ _ hr102
    · refine sm_rk (a := 7) (pts (rp_s hr102) 0 11 7 rfl) kd_7 ?_
      refine sm_ck p2 ln_7 (fun b103 => ?_)
      exact q_X12_readMeasure_208 _ _ p1 _ _ p2 _ _ p3 _ _ (rdI (a := 7) hr102 p2 b103 (Nat.le_of_ble_eq_true rfl)) _ _ p2 _ kd_7 _ _ hr102
set_option maxHeartbeats 4000000 in
set_option maxRecDepth 100000 in
theorem q_X12_readMeasure_182 (x1 : Int32) (z1 : Int) (p1 : x1 = mJ z1) (x2 : Int32) (z2 : Int) (p2 : x2 = mJ z2) (x3 : Int32) (z3 : Int) (p3 : x3 = mJ z3) (xs0 : Int32) (zs0 : Int) (ps0 : xs0 = mJ zs0) (cs1 : Nat) (ks1 : kd cs1 = 16) (ζ : ZS) (σ : HS) (hr : Rp ζ σ) : Sm QV (g_X12_readMeasure_182 z1 z2 z3 zs0 cs1 ζ) (f_X12_readMeasure_182 0 x1 x2 x3 xs0 cs1 σ) := by
    unfold g_X12_readMeasure_182 f_X12_readMeasure_182
    exact q_X12_readMeasure_187 _ _ p1 _ _ p2 _ _ p3 _ _ li_1 _ _ ps0 _ ks1 _ _ hr
set_option maxHeartbeats 4000000 in
set_option maxRecDepth 100000 in
theorem q_X12_readMeasure_156 (x1 : Int32) (z1 : Int) (p1 : x1 = mJ z1) (x2 : Int32) (z2 : Int) (p2 : x2 = mJ z2) (xs0 : Int32) (zs0 : Int) (ps0 : xs0 = mJ zs0) (ζ : ZS) (σ : HS) (hr : Rp ζ σ) : Sm QV (g_X12_readMeasure_156 z1 z2 zs0 ζ) (f_X12_readMeasure_156 0 x1 x2 xs0 σ) := by
    unfold g_X12_readMeasure_156 f_X12_readMeasure_156
    refine sm_ieq (hr.1 0 8) li_0 ?_ ?_
    · refine sm_rk (a := 6) (pts (rp_s hr) 0 10 6 rfl) kd_6 ?_
      refine sm_ieq p1 li_0 ?_ ?_
      · exact q_X12_readMeasure_182 _ _ p1 _ _ p2 _ _ ps0 _ _ p2 _ kd_6 _ _ hr
      · refine sm_rk (a := 6) (pts (rp_s hr) 0 10 6 rfl) kd_6 ?_
        refine sm_ck p2 ln_6 (fun b101 => ?_)
        refine sm_ieq (rdI (a := 6) hr p2 b101 (Nat.le_of_ble_eq_true rfl)) li_0 ?_ ?_
        · exact q_X12_readMeasure_187 _ _ p1 _ _ p2 _ _ ps0 _ _ li_0 _ _ p2 _ kd_6 _ _ hr
        · exact q_X12_readMeasure_182 _ _ p1 _ _ p2 _ _ ps0 _ _ p2 _ kd_6 _ _ hr
    · exact q_X12_readMeasure_230 _ _ hr
set_option maxHeartbeats 4000000 in
set_option maxRecDepth 100000 in
theorem q_X12_readMeasure_127 (x1 : Int32) (z1 : Int) (p1 : x1 = mJ z1) (ζ : ZS) (σ : HS) (hr : Rp ζ σ) : Sm QV (g_X12_readMeasure_127 z1 ζ) (f_X12_readMeasure_127 0 x1 σ) := by
    unfold g_X12_readMeasure_127 f_X12_readMeasure_127
    refine sm_bind (q_X12_takeNumber _ _ li_0 _ _ (ps (hr.1 0 20) li_1) _ _ hr) (fun q1 w1 e1 => ?_)
    refine sm_ieq p1 li_0 ?_ ?_
    · exact q_X12_readMeasure_156 _ _ p1 _ _ (pa li_4 e1.1) _ _ li_0 _ _ e1.2
    · refine sm_bind (q_X12_takeNumber _ _ li_0 _ _ li_100 _ _ e1.2) (fun q2 w2 e2 => ?_)
      exact q_X12_readMeasure_156 _ _ p1 _ _ (pa li_4 e1.1) _ _ e2.1 _ _ e2.2
set_option maxHeartbeats 4000000 in
set_option maxRecDepth 100000 in
theorem q_X12_readMeasure_122 (x1 : Int32) (z1 : Int) (p1 : x1 = mJ z1) (ζ : ZS) (σ : HS) (hr : Rp ζ σ) : Sm QV (g_X12_readMeasure_122 z1 ζ) (f_X12_readMeasure_122 0 x1 σ) := by
    unfold g_X12_readMeasure_122 f_X12_readMeasure_122
    refine sm_bind (q_X12_wrong _ _ li_3 _ _ hr) (fun q1 w1 e1 => ?_)
    exact q_X12_readMeasure_127 _ _ p1 _ _ e1
set_option maxHeartbeats 4000000 in
set_option maxRecDepth 100000 in
theorem q_X12_readMeasure_25 (xs0 : Int32) (zs0 : Int) (ps0 : xs0 = mJ zs0) (ζ : ZS) (σ : HS) (hr : Rp ζ σ) : Sm QV (g_X12_readMeasure_25 zs0 ζ) (f_X12_readMeasure_25 0 xs0 σ) := by
    unfold g_X12_readMeasure_25 f_X12_readMeasure_25
    have hr101 := rwI (a := 0) (k := 7) hr (pa (hr.1 0 7) li_1)
    refine sm_rk (a := 2) (pts (rp_s hr101) 0 4 2 rfl) kd_2 ?_
    refine sm_ck (hr101.1 0 7) ln_2 (fun b102 => ?_)
    refine sm_ieq (rdI (a := 2) hr101 (hr101.1 0 7) b102 (Nat.le_of_ble_eq_true rfl)) li_2 ?_ ?_
    · refine sm_rk (a := 4) (pts (rp_s hr101) 0 6 4 rfl) kd_4 ?_
      refine sm_ck (hr101.1 0 7) ln_4 (fun b103 => ?_)
      refine sm_gw (fun b104 => ?_)
      refine sm_jle (pi2l (hr101.1 0 20) b104) (rdJ (a := 4) hr101 (hr101.1 0 7) b103 (Nat.le_of_ble_eq_true rfl)) ?_ ?_
      · exact q_X12_readMeasure_127 _ _ ps0 _ _ hr101
      · refine sm_rk (a := 4) (pts (rp_s hr101) 0 6 4 rfl) kd_4 ?_
        refine sm_ck (hr101.1 0 7) ln_4 (fun b105 => ?_)
        refine sm_ieq ps0 li_0 ?_ ?_
        · refine sm_rk (a := 6) (pts (rp_s hr101) 0 10 6 rfl) kd_6 ?_
          refine sm_ck (pa li_4 (pl2i (rdJ (a := 4) hr101 (hr101.1 0 7) b105 (Nat.le_of_ble_eq_true rfl)))) ln_6 (fun b108 => ?_)
          refine sm_ieq (rdI (a := 6) hr101 (pa li_4 (pl2i (rdJ (a := 4) hr101 (hr101.1 0 7) b105 (Nat.le_of_ble_eq_true rfl)))) b108 (Nat.le_of_ble_eq_true rfl)) li_0 ?_ ?_
          · exact q_X12_readMeasure_127 _ _ ps0 _ _ hr101
          · exact q_X12_readMeasure_122 _ _ ps0 _ _ hr101
        · refine sm_ieq ps0 li_1 ?_ ?_
          · refine sm_rk (a := 7) (pts (rp_s hr101) 0 11 7 rfl) kd_7 ?_
            refine sm_ck (pa li_4 (pl2i (rdJ (a := 4) hr101 (hr101.1 0 7) b105 (Nat.le_of_ble_eq_true rfl)))) ln_7 (fun b107 => ?_)
            refine sm_ilt (rdI (a := 7) hr101 (pa li_4 (pl2i (rdJ (a := 4) hr101 (hr101.1 0 7) b105 (Nat.le_of_ble_eq_true rfl)))) b107 (Nat.le_of_ble_eq_true rfl)) li_0 ?_ ?_
            · exact q_X12_readMeasure_127 _ _ ps0 _ _ hr101
            · exact q_X12_readMeasure_122 _ _ ps0 _ _ hr101
          · refine sm_rk (a := 8) (pts (rp_s hr101) 0 12 8 rfl) kd_8 ?_
            refine sm_ck (pa li_4 (pl2i (rdJ (a := 4) hr101 (hr101.1 0 7) b105 (Nat.le_of_ble_eq_true rfl)))) ln_8 (fun b106 => ?_)
            refine sm_ilt (rdI (a := 8) hr101 (pa li_4 (pl2i (rdJ (a := 4) hr101 (hr101.1 0 7) b105 (Nat.le_of_ble_eq_true rfl)))) b106 (Nat.le_of_ble_eq_true rfl)) li_0 ?_ ?_
            · exact q_X12_readMeasure_127 _ _ ps0 _ _ hr101
            · exact q_X12_readMeasure_122 _ _ ps0 _ _ hr101
    · exact q_X12_readMeasure_127 _ _ ps0 _ _ hr101
set_option maxHeartbeats 4000000 in
set_option maxRecDepth 100000 in
theorem q_X12_readMeasure  (ζ : ZS) (σ : HS) (hr : Rp ζ σ) : Sm QV (g_X12_readMeasure ζ) (f_X12_readMeasure 0 σ) := by
    unfold g_X12_readMeasure f_X12_readMeasure
    refine sm_bind (q_X12_isWord _ _ li_0 _ _ hr) (fun q1 w1 e1 => ?_)
    refine sm_ieq e1.1 li_0 ?_ ?_
    · refine sm_bind (q_X12_isWord _ _ li_1 _ _ e1.2) (fun q2 w2 e2 => ?_)
      refine sm_ieq e2.1 li_0 ?_ ?_
      · exact q_X12_readMeasure_25 _ _ li_2 _ _ e2.2
      · exact q_X12_readMeasure_25 _ _ li_1 _ _ e2.2
    · exact q_X12_readMeasure_25 _ _ li_0 _ _ e1.2
set_option maxHeartbeats 4000000 in
set_option maxRecDepth 100000 in
theorem q_X12_personHere_26 (r4 : Int → Int → ZS → Option (Int × ZS)) (f4 : Int32 → Int32 → HS → Option (Int32 × HS)) (h4 : ∀ (x1 : Int32) (z1 : Int) (p1 : x1 = mJ z1) (x2 : Int32) (z2 : Int) (p2 : x2 = mJ z2) (ζ : ZS) (σ : HS), Rp ζ σ → Sm QI (r4 z1 z2 ζ) (f4 x1 x2 σ)) (x2 : Int32) (z2 : Int) (p2 : x2 = mJ z2) (xs0 : Int32) (zs0 : Int) (ps0 : xs0 = mJ zs0) (ζ : ZS) (σ : HS) (hr : Rp ζ σ) : Sm QI (g_X12_personHere_26 r4 z2 zs0 ζ) (f_X12_personHere_26 f4 0 x2 xs0 σ) := by
    unfold g_X12_personHere_26 f_X12_personHere_26
    exact h4 _ _ ps0 _ _ (pa p2 li_1) _ _ hr
set_option maxHeartbeats 4000000 in
set_option maxRecDepth 100000 in
theorem q_X12_personHere_4  : ∀ (n : Nat) (x1 : Int32) (z1 : Int) (p1 : x1 = mJ z1) (x2 : Int32) (z2 : Int) (p2 : x2 = mJ z2) (ζ : ZS) (σ : HS), Rp ζ σ → Sm QI (g_X12_personHere_4 n z1 z2 ζ) (f_X12_personHere_4 0 n x1 x2 σ) := by
  intro n
  induction n with
  | zero =>
    intro x1 z1 p1 x2 z2 p2 ζ σ hr
    exact sm_none
  | succ n ih =>
    intro x1 z1 p1 x2 z2 p2 ζ σ hr
    rw [g_X12_personHere_4.eq_2, f_X12_personHere_4.eq_2]
    refine sm_ile li_8 p2 ?_ ?_
    · exact sm_ri p1 hr
    · refine sm_bind (q_X12_isWord _ _ (pa li_9 p2) _ _ hr) (fun q1 w1 e1 => ?_)
      refine sm_ieq e1.1 li_0 ?_ ?_
      · exact q_X12_personHere_26 _ _ ih _ _ p2 _ _ p1 _ _ e1.2
      · exact q_X12_personHere_26 _ _ ih _ _ p2 _ _ p2 _ _ e1.2
set_option maxHeartbeats 4000000 in
set_option maxRecDepth 100000 in
theorem q_X12_personHere  (ζ : ZS) (σ : HS) (hr : Rp ζ σ) : Sm QI (g_X12_personHere ζ) (f_X12_personHere 0 σ) := by
    unfold g_X12_personHere f_X12_personHere
    exact q_X12_personHere_4 FU _ _ li_m1 _ _ li_0 _ _ hr
set_option maxHeartbeats 4000000 in
set_option maxRecDepth 100000 in
theorem q_X12_takeOther_40 (x2 : Int32) (z2 : Int) (p2 : x2 = mJ z2) (ζ : ZS) (σ : HS) (hr : Rp ζ σ) : Sm QI (g_X12_takeOther_40 z2 ζ) (f_X12_takeOther_40 0 x2 σ) := by
    unfold g_X12_takeOther_40 f_X12_takeOther_40
    refine sm_bind (q_X12_takeNumber _ _ li_0 _ _ p2 _ _ hr) (fun q1 w1 e1 => ?_)
    exact sm_ri e1.1 e1.2
set_option maxHeartbeats 4000000 in
set_option maxRecDepth 100000 in
theorem q_X12_takeOther (x1 : Int32) (z1 : Int) (p1 : x1 = mJ z1) (x2 : Int32) (z2 : Int) (p2 : x2 = mJ z2) (ζ : ZS) (σ : HS) (hr : Rp ζ σ) : Sm QI (g_X12_takeOther z1 z2 ζ) (f_X12_takeOther 0 x1 x2 σ) := by
    unfold g_X12_takeOther f_X12_takeOther
    refine sm_ieq (hr.1 0 8) li_0 ?_ ?_
    · refine sm_rk (a := 2) (pts (rp_s hr) 0 4 2 rfl) kd_2 ?_
      refine sm_ck (hr.1 0 7) ln_2 (fun b101 => ?_)
      refine sm_ieq (rdI (a := 2) hr (hr.1 0 7) b101 (Nat.le_of_ble_eq_true rfl)) li_2 ?_ ?_
      · refine sm_rk (a := 4) (pts (rp_s hr) 0 6 4 rfl) kd_4 ?_
        refine sm_ck (hr.1 0 7) ln_4 (fun b102 => ?_)
        refine sm_gw (fun b103 => ?_)
        refine sm_jeq (rdJ (a := 4) hr (hr.1 0 7) b102 (Nat.le_of_ble_eq_true rfl)) (pi2l p1 b103) ?_ ?_
        · refine sm_bind (q_X12_wrong _ _ li_3 _ _ hr) (fun q4 w4 e4 => ?_)
          exact q_X12_takeOther_40 _ _ p2 _ _ e4
        · exact q_X12_takeOther_40 _ _ p2 _ _ hr
      · exact q_X12_takeOther_40 _ _ p2 _ _ hr
    · exact q_X12_takeOther_40 _ _ p2 _ _ hr
set_option maxHeartbeats 4000000 in
set_option maxRecDepth 100000 in
theorem q_X12_readSaying_293  (ζ : ZS) (σ : HS) (hr : Rp ζ σ) : Sm QV (g_X12_readSaying_293 ζ) (f_X12_readSaying_293 0 σ) := by
    unfold g_X12_readSaying_293 f_X12_readSaying_293
    refine sm_rk (a := 9) (pts (rp_s hr) 0 13 9 rfl) kd_9 ?_
    refine sm_ck li_1 ln_9 (fun b101 => ?_)
    refine sm_ck li_1 ln_9 (fun b102 => ?_)
    have hr103 := raI (a := 9) hr li_1 b102 (Nat.le_of_ble_eq_true rfl) (pa (rdI (a := 9) hr li_1 b101 (Nat.le_of_ble_eq_true rfl)) li_1)
    exact sm_rv hr103
set_option maxHeartbeats 4000000 in
set_option maxRecDepth 100000 in
theorem q_X12_readSaying_210 (x3 : Int32) (z3 : Int) (p3 : x3 = mJ z3) (ζ : ZS) (σ : HS) (hr : Rp ζ σ) : Sm QV (g_X12_readSaying_210 z3 ζ) (f_X12_readSaying_210 0 x3 σ) := by
    unfold g_X12_readSaying_210 f_X12_readSaying_210
    refine sm_rk (a := 14) (pts (rp_s hr) 0 18 14 rfl) kd_14 ?_
    refine sm_bind (q_X12_takeNumber _ _ li_0 _ _ (ps (hr.1 0 20) li_1) _ _ hr) (fun q1 w1 e1 => ?_)
    refine sm_ck p3 ln_14 (fun b102 => ?_)
    have hr103 := raI (a := 14) e1.2 p3 b102 (Nat.le_of_ble_eq_true rfl) e1.1
    refine sm_rk (a := 12) (pts (rp_s hr103) 0 16 12 rfl) kd_12 ?_
    refine sm_bind (q_X12_takeNumber _ _ li_0 _ _ li_100 _ _ hr103) (fun q4 w4 e4 => ?_)
    refine sm_ck p3 ln_12 (fun b105 => ?_)
    have hr106 := raI (a := 12) e4.2 p3 b105 (Nat.le_of_ble_eq_true rfl) e4.1
    exact q_X12_readSaying_293 _ _ hr106
set_option maxHeartbeats 4000000 in
set_option maxRecDepth 100000 in
theorem q_X12_readSaying_260 (x3 : Int32) (z3 : Int) (p3 : x3 = mJ z3) (xs0 : Int32) (zs0 : Int) (ps0 : xs0 = mJ zs0) (ζ : ZS) (σ : HS) (hr : Rp ζ σ) : Sm QV (g_X12_readSaying_260 z3 zs0 ζ) (f_X12_readSaying_260 0 x3 xs0 σ) := by
    unfold g_X12_readSaying_260 f_X12_readSaying_260
    refine sm_rk (a := 14) (pts (rp_s hr) 0 18 14 rfl) kd_14 ?_
    refine sm_bind (q_X12_takeNumber _ _ li_0 _ _ ps0 _ _ hr) (fun q1 w1 e1 => ?_)
    refine sm_ck p3 ln_14 (fun b102 => ?_)
    have hr103 := raI (a := 14) e1.2 p3 b102 (Nat.le_of_ble_eq_true rfl) e1.1
    refine sm_rk (a := 15) (pts (rp_s hr103) 0 19 15 rfl) kd_15 ?_
    refine sm_rk (a := 14) (pts (rp_s hr103) 0 18 14 rfl) kd_14 ?_
    refine sm_ck p3 ln_14 (fun b104 => ?_)
    refine sm_bind (q_X12_takeOther _ _ (rdI (a := 14) hr103 p3 b104 (Nat.le_of_ble_eq_true rfl)) _ _ ps0 _ _ hr103) (fun q5 w5 e5 => ?_)
    refine sm_ck p3 ln_15 (fun b106 => ?_)
    have hr107 := raI (a := 15) e5.2 p3 b106 (Nat.le_of_ble_eq_true rfl) e5.1
    exact q_X12_readSaying_293 _ _ hr107
set_option maxHeartbeats 4000000 in
set_option maxRecDepth 100000 in
theorem q_X12_readSaying_74 (r55 : Int → Int → ZS → Option ZS) (f55 : Int32 → Int32 → HS → Option HS) (h55 : ∀ (x2 : Int32) (z2 : Int) (p2 : x2 = mJ z2) (x3 : Int32) (z3 : Int) (p3 : x3 = mJ z3) (ζ : ZS) (σ : HS), Rp ζ σ → Sm QV (r55 z2 z3 ζ) (f55 x2 x3 σ)) (x1 : Int32) (z1 : Int) (p1 : x1 = mJ z1) (x3 : Int32) (z3 : Int) (p3 : x3 = mJ z3) (xs0 : Int32) (zs0 : Int) (ps0 : xs0 = mJ zs0) (ζ : ZS) (σ : HS) (hr : Rp ζ σ) : Sm QV (g_X12_readSaying_74 r55 z1 z3 zs0 ζ) (f_X12_readSaying_74 f55 0 x1 x3 xs0 σ) := by
    unfold g_X12_readSaying_74 f_X12_readSaying_74
    exact h55 _ _ ps0 _ _ (pa p3 li_1) _ _ hr
set_option maxHeartbeats 4000000 in
set_option maxRecDepth 100000 in
theorem q_X12_readSaying_55 (x1 : Int32) (z1 : Int) (p1 : x1 = mJ z1) : ∀ (n : Nat) (x2 : Int32) (z2 : Int) (p2 : x2 = mJ z2) (x3 : Int32) (z3 : Int) (p3 : x3 = mJ z3) (ζ : ZS) (σ : HS), Rp ζ σ → Sm QV (g_X12_readSaying_55 z1 n z2 z3 ζ) (f_X12_readSaying_55 0 x1 n x2 x3 σ) := by
  intro n
  induction n with
  | zero =>
    intro x2 z2 p2 x3 z3 p3 ζ σ hr
    exact sm_none
  | succ n ih =>
    intro x2 z2 p2 x3 z3 p3 ζ σ hr
    rw [g_X12_readSaying_55.eq_2, f_X12_readSaying_55.eq_2]
    refine sm_ilt li_8 p3 ?_ ?_
    · refine sm_ile li_0 p2 ?_ ?_
      · have hr101 := rwI (a := 0) (k := 7) hr (pa (hr.1 0 7) li_1)
        refine sm_rk (a := 9) (pts (rp_s hr101) 0 13 9 rfl) kd_9 ?_
        refine sm_ck li_1 ln_9 (fun b102 => ?_)
        refine sm_rk (a := 10) (pts (rp_s hr101) 0 14 10 rfl) kd_10 ?_
        refine sm_ck (pa li_12 (rdI (a := 9) hr101 li_1 b102 (Nat.le_of_ble_eq_true rfl))) ln_10 (fun b103 => ?_)
        have hr104 := raI (a := 10) hr101 (pa li_12 (rdI (a := 9) hr101 li_1 b102 (Nat.le_of_ble_eq_true rfl))) b103 (Nat.le_of_ble_eq_true rfl) p1
        refine sm_rk (a := 11) (pts (rp_s hr104) 0 15 11 rfl) kd_11 ?_
        refine sm_ck (pa li_12 (rdI (a := 9) hr101 li_1 b102 (Nat.le_of_ble_eq_true rfl))) ln_11 (fun b105 => ?_)
        have hr106 := raI (a := 11) hr104 (pa li_12 (rdI (a := 9) hr101 li_1 b102 (Nat.le_of_ble_eq_true rfl))) b105 (Nat.le_of_ble_eq_true rfl) p2
        refine sm_ieq p2 li_5 ?_ ?_
        · refine sm_rk (a := 12) (pts (rp_s hr106) 0 16 12 rfl) kd_12 ?_
          refine sm_bind (q_X12_takeNumber _ _ li_1 _ _ li_100 _ _ hr106) (fun q7 w7 e7 => ?_)
          refine sm_ck (pa li_12 (rdI (a := 9) hr101 li_1 b102 (Nat.le_of_ble_eq_true rfl))) ln_12 (fun b108 => ?_)
          have hr109 := raI (a := 12) e7.2 (pa li_12 (rdI (a := 9) hr101 li_1 b102 (Nat.le_of_ble_eq_true rfl))) b108 (Nat.le_of_ble_eq_true rfl) e7.1
          refine sm_rk (a := 14) (pts (rp_s hr109) 0 18 14 rfl) kd_14 ?_
          refine sm_bind (q_X12_takeNumber _ _ li_0 _ _ (ps (hr109.1 0 20) li_1) _ _ hr109) (fun q10 w10 e10 => ?_)
          refine sm_ck (pa li_12 (rdI (a := 9) hr101 li_1 b102 (Nat.le_of_ble_eq_true rfl))) ln_14 (fun b111 => ?_)
          have hr112 := raI (a := 14) e10.2 (pa li_12 (rdI (a := 9) hr101 li_1 b102 (Nat.le_of_ble_eq_true rfl))) b111 (Nat.le_of_ble_eq_true rfl) e10.1
          refine sm_rk (a := 13) (pts (rp_s hr112) 0 17 13 rfl) kd_13 ?_
          refine sm_bind (q_X12_takeNumber _ _ li_1 _ _ li_100 _ _ hr112) (fun q13 w13 e13 => ?_)
          refine sm_ck (pa li_12 (rdI (a := 9) hr101 li_1 b102 (Nat.le_of_ble_eq_true rfl))) ln_13 (fun b114 => ?_)
          have hr115 := raI (a := 13) e13.2 (pa li_12 (rdI (a := 9) hr101 li_1 b102 (Nat.le_of_ble_eq_true rfl))) b114 (Nat.le_of_ble_eq_true rfl) e13.1
          refine sm_rk (a := 15) (pts (rp_s hr115) 0 19 15 rfl) kd_15 ?_
          refine sm_rk (a := 14) (pts (rp_s hr115) 0 18 14 rfl) kd_14 ?_
          refine sm_ck (pa li_12 (rdI (a := 9) hr101 li_1 b102 (Nat.le_of_ble_eq_true rfl))) ln_14 (fun b116 => ?_)
          refine sm_bind (q_X12_takeOther _ _ (rdI (a := 14) hr115 (pa li_12 (rdI (a := 9) hr101 li_1 b102 (Nat.le_of_ble_eq_true rfl))) b116 (Nat.le_of_ble_eq_true rfl)) _ _ (ps (hr115.1 0 20) li_1) _ _ hr115) (fun q17 w17 e17 => ?_)
          refine sm_ck (pa li_12 (rdI (a := 9) hr101 li_1 b102 (Nat.le_of_ble_eq_true rfl))) ln_15 (fun b118 => ?_)
          have hr119 := raI (a := 15) e17.2 (pa li_12 (rdI (a := 9) hr101 li_1 b102 (Nat.le_of_ble_eq_true rfl))) b118 (Nat.le_of_ble_eq_true rfl) e17.1
          exact q_X12_readSaying_293 _ _ hr119
        · refine sm_ieq p2 li_6 ?_ ?_
          · exact q_X12_readSaying_210 _ _ (pa li_12 (rdI (a := 9) hr101 li_1 b102 (Nat.le_of_ble_eq_true rfl))) _ _ hr106
          · refine sm_ieq p2 li_7 ?_ ?_
            · exact q_X12_readSaying_210 _ _ (pa li_12 (rdI (a := 9) hr101 li_1 b102 (Nat.le_of_ble_eq_true rfl))) _ _ hr106
            · refine sm_ieq p2 li_8 ?_ ?_
              · exact q_X12_readSaying_260 _ _ (pa li_12 (rdI (a := 9) hr101 li_1 b102 (Nat.le_of_ble_eq_true rfl))) _ _ li_7 _ _ hr106
              · exact q_X12_readSaying_260 _ _ (pa li_12 (rdI (a := 9) hr101 li_1 b102 (Nat.le_of_ble_eq_true rfl))) _ _ (ps (hr106.1 0 20) li_1) _ _ hr106
      · refine sm_bind (q_X12_wrong _ _ li_1 _ _ hr) (fun q20 w20 e20 => ?_)
        exact sm_rv e20
    · refine sm_bind (q_X12_isWord _ _ p3 _ _ hr) (fun q21 w21 e21 => ?_)
      refine sm_ieq e21.1 li_0 ?_ ?_
      · exact q_X12_readSaying_74 _ _ ih _ _ p1 _ _ p3 _ _ p2 _ _ e21.2
      · exact q_X12_readSaying_74 _ _ ih _ _ p1 _ _ p3 _ _ p3 _ _ e21.2
set_option maxHeartbeats 4000000 in
set_option maxRecDepth 100000 in
theorem q_X12_readSaying_33 (x1 : Int32) (z1 : Int) (p1 : x1 = mJ z1) (ζ : ZS) (σ : HS) (hr : Rp ζ σ) : Sm QV (g_X12_readSaying_33 z1 ζ) (f_X12_readSaying_33 0 x1 σ) := by
    unfold g_X12_readSaying_33 f_X12_readSaying_33
    refine sm_ile (hr.1 0 8) li_0 ?_ ?_
    · have hr101 := rwI (a := 0) (k := 7) hr (pa (hr.1 0 7) li_1)
      exact q_X12_readSaying_55 _ _ p1 FU _ _ li_m1 _ _ li_3 _ _ hr101
    · exact sm_rv hr
set_option maxHeartbeats 4000000 in
set_option maxRecDepth 100000 in
theorem q_X12_readSaying  (ζ : ZS) (σ : HS) (hr : Rp ζ σ) : Sm QV (g_X12_readSaying ζ) (f_X12_readSaying 0 σ) := by
    unfold g_X12_readSaying f_X12_readSaying
    refine sm_bind (q_X12_personHere _ _ hr) (fun q1 w1 e1 => ?_)
    refine sm_ile li_0 e1.1 ?_ ?_
    · refine sm_rk (a := 9) (pts (rp_s e1.2) 0 13 9 rfl) kd_9 ?_
      refine sm_ck li_1 ln_9 (fun b102 => ?_)
      refine sm_ieq (rdI (a := 9) e1.2 li_1 b102 (Nat.le_of_ble_eq_true rfl)) li_12 ?_ ?_
      · refine sm_bind (q_X12_wrong _ _ li_5 _ _ e1.2) (fun q3 w3 e3 => ?_)
        exact q_X12_readSaying_33 _ _ e1.1 _ _ e3
      · exact q_X12_readSaying_33 _ _ e1.1 _ _ e1.2
    · refine sm_bind (q_X12_wrong _ _ li_1 _ _ e1.2) (fun q4 w4 e4 => ?_)
      exact q_X12_readSaying_33 _ _ e1.1 _ _ e4
set_option maxHeartbeats 4000000 in
set_option maxRecDepth 100000 in
theorem q_X12_takesDraft_69  : ∀ (n : Nat) (x1 : Int32) (z1 : Int) (p1 : x1 = mJ z1) (ζ : ZS) (σ : HS), Rp ζ σ → Sm QV (g_X12_takesDraft_69 n z1 ζ) (f_X12_takesDraft_69 0 n x1 σ) := by
  intro n
  induction n with
  | zero =>
    intro x1 z1 p1 ζ σ hr
    exact sm_none
  | succ n ih =>
    intro x1 z1 p1 ζ σ hr
    rw [g_X12_takesDraft_69.eq_2, f_X12_takesDraft_69.eq_2]
    refine sm_ile li_12 p1 ?_ ?_
    · exact sm_rv hr
    · refine sm_rk (a := 10) (pts (rp_s hr) 0 14 10 rfl) kd_10 ?_
      refine sm_rk (a := 10) (pts (rp_s hr) 0 14 10 rfl) kd_10 ?_
      refine sm_ck (pa li_12 p1) ln_10 (fun b101 => ?_)
      refine sm_ck p1 ln_10 (fun b102 => ?_)
      have hr103 := raI (a := 10) hr p1 b102 (Nat.le_of_ble_eq_true rfl) (rdI (a := 10) hr (pa li_12 p1) b101 (Nat.le_of_ble_eq_true rfl))
      refine sm_rk (a := 11) (pts (rp_s hr103) 0 15 11 rfl) kd_11 ?_
      refine sm_rk (a := 11) (pts (rp_s hr103) 0 15 11 rfl) kd_11 ?_
      refine sm_ck (pa li_12 p1) ln_11 (fun b104 => ?_)
      refine sm_ck p1 ln_11 (fun b105 => ?_)
      have hr106 := raI (a := 11) hr103 p1 b105 (Nat.le_of_ble_eq_true rfl) (rdI (a := 11) hr103 (pa li_12 p1) b104 (Nat.le_of_ble_eq_true rfl))
      refine sm_rk (a := 12) (pts (rp_s hr106) 0 16 12 rfl) kd_12 ?_
      refine sm_rk (a := 12) (pts (rp_s hr106) 0 16 12 rfl) kd_12 ?_
      refine sm_ck (pa li_12 p1) ln_12 (fun b107 => ?_)
      refine sm_ck p1 ln_12 (fun b108 => ?_)
      have hr109 := raI (a := 12) hr106 p1 b108 (Nat.le_of_ble_eq_true rfl) (rdI (a := 12) hr106 (pa li_12 p1) b107 (Nat.le_of_ble_eq_true rfl))
      refine sm_rk (a := 13) (pts (rp_s hr109) 0 17 13 rfl) kd_13 ?_
      refine sm_rk (a := 13) (pts (rp_s hr109) 0 17 13 rfl) kd_13 ?_
      refine sm_ck (pa li_12 p1) ln_13 (fun b110 => ?_)
      refine sm_ck p1 ln_13 (fun b111 => ?_)
      have hr112 := raI (a := 13) hr109 p1 b111 (Nat.le_of_ble_eq_true rfl) (rdI (a := 13) hr109 (pa li_12 p1) b110 (Nat.le_of_ble_eq_true rfl))
      refine sm_rk (a := 14) (pts (rp_s hr112) 0 18 14 rfl) kd_14 ?_
      refine sm_rk (a := 14) (pts (rp_s hr112) 0 18 14 rfl) kd_14 ?_
      refine sm_ck (pa li_12 p1) ln_14 (fun b113 => ?_)
      refine sm_ck p1 ln_14 (fun b114 => ?_)
      have hr115 := raI (a := 14) hr112 p1 b114 (Nat.le_of_ble_eq_true rfl) (rdI (a := 14) hr112 (pa li_12 p1) b113 (Nat.le_of_ble_eq_true rfl))
      refine sm_rk (a := 15) (pts (rp_s hr115) 0 19 15 rfl) kd_15 ?_
      refine sm_rk (a := 15) (pts (rp_s hr115) 0 19 15 rfl) kd_15 ?_
      refine sm_ck (pa li_12 p1) ln_15 (fun b116 => ?_)
      refine sm_ck p1 ln_15 (fun b117 => ?_)
      have hr118 := raI (a := 15) hr115 p1 b117 (Nat.le_of_ble_eq_true rfl) (rdI (a := 15) hr115 (pa li_12 p1) b116 (Nat.le_of_ble_eq_true rfl))
      exact ih _ _ (pa p1 li_1) _ _ hr118
set_option maxHeartbeats 4000000 in
set_option maxRecDepth 100000 in
theorem q_X12_takesDraft_14  : ∀ (n : Nat) (x1 : Int32) (z1 : Int) (p1 : x1 = mJ z1) (ζ : ZS) (σ : HS), Rp ζ σ → Sm QV (g_X12_takesDraft_14 n z1 ζ) (f_X12_takesDraft_14 0 n x1 σ) := by
  intro n
  induction n with
  | zero =>
    intro x1 z1 p1 ζ σ hr
    exact sm_none
  | succ n ih =>
    intro x1 z1 p1 ζ σ hr
    rw [g_X12_takesDraft_14.eq_2, f_X12_takesDraft_14.eq_2]
    refine sm_ile li_4 p1 ?_ ?_
    · exact q_X12_takesDraft_69 FU _ _ li_0 _ _ hr
    · refine sm_rk (a := 6) (pts (rp_s hr) 0 10 6 rfl) kd_6 ?_
      refine sm_rk (a := 6) (pts (rp_s hr) 0 10 6 rfl) kd_6 ?_
      refine sm_ck (pa li_4 p1) ln_6 (fun b101 => ?_)
      refine sm_ck p1 ln_6 (fun b102 => ?_)
      have hr103 := raI (a := 6) hr p1 b102 (Nat.le_of_ble_eq_true rfl) (pand (rdI (a := 6) hr (pa li_4 p1) b101 (Nat.le_of_ble_eq_true rfl)) li_1)
      refine sm_rk (a := 7) (pts (rp_s hr103) 0 11 7 rfl) kd_7 ?_
      refine sm_rk (a := 7) (pts (rp_s hr103) 0 11 7 rfl) kd_7 ?_
      refine sm_ck (pa li_4 p1) ln_7 (fun b104 => ?_)
      refine sm_ck p1 ln_7 (fun b105 => ?_)
      have hr106 := raI (a := 7) hr103 p1 b105 (Nat.le_of_ble_eq_true rfl) (rdI (a := 7) hr103 (pa li_4 p1) b104 (Nat.le_of_ble_eq_true rfl))
      refine sm_rk (a := 8) (pts (rp_s hr106) 0 12 8 rfl) kd_8 ?_
      refine sm_rk (a := 8) (pts (rp_s hr106) 0 12 8 rfl) kd_8 ?_
      refine sm_ck (pa li_4 p1) ln_8 (fun b107 => ?_)
      refine sm_ck p1 ln_8 (fun b108 => ?_)
      have hr109 := raI (a := 8) hr106 p1 b108 (Nat.le_of_ble_eq_true rfl) (rdI (a := 8) hr106 (pa li_4 p1) b107 (Nat.le_of_ble_eq_true rfl))
      exact ih _ _ (pa p1 li_1) _ _ hr109
set_option maxHeartbeats 4000000 in
set_option maxRecDepth 100000 in
theorem q_X12_takesDraft  (ζ : ZS) (σ : HS) (hr : Rp ζ σ) : Sm QV (g_X12_takesDraft ζ) (f_X12_takesDraft 0 σ) := by
    unfold g_X12_takesDraft f_X12_takesDraft
    refine sm_rk (a := 9) (pts (rp_s hr) 0 13 9 rfl) kd_9 ?_
    refine sm_rk (a := 9) (pts (rp_s hr) 0 13 9 rfl) kd_9 ?_
    refine sm_ck li_1 ln_9 (fun b101 => ?_)
    refine sm_ck li_0 ln_9 (fun b102 => ?_)
    have hr103 := raI (a := 9) hr li_0 b102 (Nat.le_of_ble_eq_true rfl) (rdI (a := 9) hr li_1 b101 (Nat.le_of_ble_eq_true rfl))
    exact q_X12_takesDraft_14 FU _ _ li_0 _ _ hr103
set_option maxHeartbeats 4000000 in
set_option maxRecDepth 100000 in
theorem q_X12_choice_88  (ζ : ZS) (σ : HS) (hr : Rp ζ σ) : Sm QI (g_X12_choice_88 ζ) (f_X12_choice_88 0 σ) := by
    unfold g_X12_choice_88 f_X12_choice_88
    exact sm_ri (hr.1 0 8) hr
set_option maxHeartbeats 4000000 in
set_option maxRecDepth 100000 in
theorem q_X12_choice_77  (ζ : ZS) (σ : HS) (hr : Rp ζ σ) : Sm QI (g_X12_choice_77 ζ) (f_X12_choice_77 0 σ) := by
    unfold g_X12_choice_77 f_X12_choice_77
    refine sm_ieq (hr.1 0 8) li_0 ?_ ?_
    · refine sm_bind (q_X12_takesDraft _ _ hr) (fun q1 w1 e1 => ?_)
      exact q_X12_choice_88 _ _ e1
    · exact q_X12_choice_88 _ _ hr
set_option maxHeartbeats 4000000 in
set_option maxRecDepth 100000 in
theorem q_X12_choice_68 (r14 : ZS → Option (Int × ZS)) (f14 : HS → Option (Int32 × HS)) (h14 : ∀  (ζ : ZS) (σ : HS), Rp ζ σ → Sm QI (r14 ζ) (f14 σ))  (ζ : ZS) (σ : HS) (hr : Rp ζ σ) : Sm QI (g_X12_choice_68 r14 ζ) (f_X12_choice_68 f14 0 σ) := by
    unfold g_X12_choice_68 f_X12_choice_68
    refine sm_bind (q_X12_takeSign _ _ li_59 _ _ hr) (fun q1 w1 e1 => ?_)
    exact h14 _ _ e1
set_option maxHeartbeats 4000000 in
set_option maxRecDepth 100000 in
theorem q_X12_choice_57 (r14 : ZS → Option (Int × ZS)) (f14 : HS → Option (Int32 × HS)) (h14 : ∀  (ζ : ZS) (σ : HS), Rp ζ σ → Sm QI (r14 ζ) (f14 σ))  (ζ : ZS) (σ : HS) (hr : Rp ζ σ) : Sm QI (g_X12_choice_57 r14 ζ) (f_X12_choice_57 f14 0 σ) := by
    unfold g_X12_choice_57 f_X12_choice_57
    refine sm_bind (q_X12_readMeasure _ _ hr) (fun q1 w1 e1 => ?_)
    exact q_X12_choice_68 _ _ h14 _ _ e1
set_option maxHeartbeats 4000000 in
set_option maxRecDepth 100000 in
theorem q_X12_choice_14  : ∀ (n : Nat)  (ζ : ZS) (σ : HS), Rp ζ σ → Sm QI (g_X12_choice_14 n ζ) (f_X12_choice_14 0 n σ) := by
  intro n
  induction n with
  | zero =>
    intro ζ σ hr
    exact sm_none
  | succ n ih =>
    intro ζ σ hr
    rw [g_X12_choice_14.eq_2, f_X12_choice_14.eq_2]
    refine sm_ieq (hr.1 0 8) li_0 ?_ ?_
    · refine sm_rk (a := 2) (pts (rp_s hr) 0 4 2 rfl) kd_2 ?_
      refine sm_ck (hr.1 0 7) ln_2 (fun b101 => ?_)
      refine sm_ieq (rdI (a := 2) hr (hr.1 0 7) b101 (Nat.le_of_ble_eq_true rfl)) li_0 ?_ ?_
      · exact q_X12_choice_77 _ _ hr
      · refine sm_bind (q_X12_isWord _ _ li_0 _ _ hr) (fun q2 w2 e2 => ?_)
        refine sm_ieq e2.1 li_0 ?_ ?_
        · refine sm_bind (q_X12_isWord _ _ li_1 _ _ e2.2) (fun q3 w3 e3 => ?_)
          refine sm_ieq e3.1 li_0 ?_ ?_
          · refine sm_bind (q_X12_isWord _ _ li_2 _ _ e3.2) (fun q4 w4 e4 => ?_)
            refine sm_ieq e4.1 li_0 ?_ ?_
            · refine sm_bind (q_X12_readSaying _ _ e4.2) (fun q5 w5 e5 => ?_)
              exact q_X12_choice_68 _ _ ih _ _ e5
            · exact q_X12_choice_57 _ _ ih _ _ e4.2
          · exact q_X12_choice_57 _ _ ih _ _ e3.2
        · exact q_X12_choice_57 _ _ ih _ _ e2.2
    · exact q_X12_choice_77 _ _ hr
set_option maxHeartbeats 4000000 in
set_option maxRecDepth 100000 in
theorem q_X12_choice  (ζ : ZS) (σ : HS) (hr : Rp ζ σ) : Sm QI (g_X12_choice ζ) (f_X12_choice 0 σ) := by
    unfold g_X12_choice f_X12_choice
    have hr101 := rwI (a := 0) (k := 0) hr li_0
    refine sm_bind (q_X12_cutAll _ _ hr101) (fun q2 w2 e2 => ?_)
    refine sm_bind (q_X12_forgetsChoice _ _ li_1 _ _ e2) (fun q3 w3 e3 => ?_)
    exact q_X12_choice_14 FU _ _ e3
set_option maxHeartbeats 4000000 in
set_option maxRecDepth 100000 in
theorem q_X12_clears_7  : ∀ (n : Nat) (x2 : Int32) (z2 : Int) (p2 : x2 = mJ z2) (ζ : ZS) (σ : HS), Rp ζ σ → Sm QV (g_X12_clears_7 n z2 ζ) (f_X12_clears_7 0 n x2 σ) := by
  intro n
  induction n with
  | zero =>
    intro x2 z2 p2 ζ σ hr
    exact sm_none
  | succ n ih =>
    intro x2 z2 p2 ζ σ hr
    rw [g_X12_clears_7.eq_2, f_X12_clears_7.eq_2]
    refine sm_ile li_8 p2 ?_ ?_
    · refine sm_bind (q_X12_forgetsChoice _ _ li_0 _ _ hr) (fun q1 w1 e1 => ?_)
      have hr102 := rwI (a := 0) (k := 23) e1 li_255
      have hr103 := rwI (a := 0) (k := 24) hr102 li_0
      exact sm_rv hr103
    · refine sm_rk (a := 16) (pts (rp_s hr) 0 21 16 rfl) kd_16 ?_
      refine sm_ck p2 ln_16 (fun b104 => ?_)
      have hr105 := raI (a := 16) hr p2 b104 (Nat.le_of_ble_eq_true rfl) (pand li_0 li_1)
      exact ih _ _ (pa p2 li_1) _ _ hr105
set_option maxHeartbeats 4000000 in
set_option maxRecDepth 100000 in
theorem q_X12_clears (x1 : Int32) (z1 : Int) (p1 : x1 = mJ z1) (ζ : ZS) (σ : HS) (hr : Rp ζ σ) : Sm QV (g_X12_clears z1 ζ) (f_X12_clears 0 x1 σ) := by
    unfold g_X12_clears f_X12_clears
    have hr101 := rwI (a := 0) (k := 20) hr p1
    exact q_X12_clears_7 FU _ _ li_0 _ _ hr101
set_option maxHeartbeats 4000000 in
set_option maxRecDepth 100000 in
theorem q_X12_measures (x1 : Int32) (z1 : Int) (p1 : x1 = mJ z1) (ζ : ZS) (σ : HS) (hr : Rp ζ σ) : Sm QI (g_X12_measures z1 ζ) (f_X12_measures 0 x1 σ) := by
    unfold g_X12_measures f_X12_measures
    have hr101 := rwI (a := 0) (k := 0) hr li_0
    refine sm_bind (q_X12_within _ _ p1 _ _ li_1 _ _ li_4 _ _ hr101) (fun q2 w2 e2 => ?_)
    refine sm_ieq e2.1 li_0 ?_ ?_
    · exact sm_ri li_0 e2.2
    · refine sm_bind (q_X12_clears _ _ p1 _ _ e2.2) (fun q3 w3 e3 => ?_)
      exact sm_ri li_1 e3
set_option maxHeartbeats 4000000 in
set_option maxRecDepth 100000 in
theorem q_X12_thing_93  (ζ : ZS) (σ : HS) (hr : Rp ζ σ) : Sm QI (g_X12_thing_93 ζ) (f_X12_thing_93 σ) := by
    unfold g_X12_thing_93 f_X12_thing_93
    exact sm_ri li_0 hr
set_option maxHeartbeats 4000000 in
set_option maxRecDepth 100000 in
theorem q_X12_thing_181 (xs0 : Int32) (zs0 : Int) (ps0 : xs0 = mJ zs0) (xs1 : Int32) (zs1 : Int) (ps1 : xs1 = mJ zs1) (cs2 : Nat) (ks2 : kd cs2 = 14) (ζ : ZS) (σ : HS) (hr : Rp ζ σ) : Sm QI (g_X12_thing_181 zs0 zs1 cs2 ζ) (f_X12_thing_181 xs0 xs1 cs2 σ) := by
    unfold g_X12_thing_181 f_X12_thing_181
    refine sm_ck ps1 rfl (fun b101 => ?_)
    have hr102 := raI (a := cs2) hr ps1 b101 (ln_le _) ps0
    exact sm_ri li_1 hr102
set_option maxHeartbeats 4000000 in
set_option maxRecDepth 100000 in
theorem q_X12_thing_157 (x1 : Int32) (z1 : Int) (p1 : x1 = mJ z1) (x5 : Int32) (z5 : Int) (p5 : x5 = mJ z5) (xs0 : Int32) (zs0 : Int) (ps0 : xs0 = mJ zs0) (xs1 : Int32) (zs1 : Int) (ps1 : xs1 = mJ zs1) (cs2 : Nat) (ks2 : kd cs2 = 14) (ζ : ZS) (σ : HS) (hr : Rp ζ σ) : Sm QI (g_X12_thing_157 z1 z5 zs0 zs1 cs2 ζ) (f_X12_thing_157 0 x1 x5 xs0 xs1 cs2 σ) := by
    unfold g_X12_thing_157 f_X12_thing_157
    refine sm_ck ps1 rfl (fun b101 => ?_)
    have hr102 := raI (a := cs2) hr ps1 b101 (ln_le _) ps0
    refine sm_rk (a := 17) (pts (rp_s hr102) 0 22 17 rfl) kd_17 ?_
    refine sm_ile li_4 (hr102.1 0 20) ?_ ?_
    · exact q_X12_thing_181 _ _ p5 _ _ (pa (pm li_4 p1) li_3) _ kd_17 _ _ hr102
    · exact q_X12_thing_181 _ _ li_0 _ _ (pa (pm li_4 p1) li_3) _ kd_17 _ _ hr102
set_option maxHeartbeats 4000000 in
set_option maxRecDepth 100000 in
theorem q_X12_thing_133 (x1 : Int32) (z1 : Int) (p1 : x1 = mJ z1) (x4 : Int32) (z4 : Int) (p4 : x4 = mJ z4) (x5 : Int32) (z5 : Int) (p5 : x5 = mJ z5) (xs0 : Int32) (zs0 : Int) (ps0 : xs0 = mJ zs0) (xs1 : Int32) (zs1 : Int) (ps1 : xs1 = mJ zs1) (cs2 : Nat) (ks2 : kd cs2 = 14) (ζ : ZS) (σ : HS) (hr : Rp ζ σ) : Sm QI (g_X12_thing_133 z1 z4 z5 zs0 zs1 cs2 ζ) (f_X12_thing_133 0 x1 x4 x5 xs0 xs1 cs2 σ) := by
    unfold g_X12_thing_133 f_X12_thing_133
    refine sm_ck ps1 rfl (fun b101 => ?_)
    have hr102 := raI (a := cs2) hr ps1 b101 (ln_le _) ps0
    refine sm_rk (a := 17) (pts (rp_s hr102) 0 22 17 rfl) kd_17 ?_
    refine sm_ile li_3 (hr102.1 0 20) ?_ ?_
    · exact q_X12_thing_157 _ _ p1 _ _ p5 _ _ p4 _ _ (pa (pm li_4 p1) li_2) _ kd_17 _ _ hr102
    · exact q_X12_thing_157 _ _ p1 _ _ p5 _ _ li_0 _ _ (pa (pm li_4 p1) li_2) _ kd_17 _ _ hr102
set_option maxHeartbeats 4000000 in
set_option maxRecDepth 100000 in
theorem q_X12_thing_95 (x1 : Int32) (z1 : Int) (p1 : x1 = mJ z1) (x2 : Int32) (z2 : Int) (p2 : x2 = mJ z2) (x3 : Int32) (z3 : Int) (p3 : x3 = mJ z3) (x4 : Int32) (z4 : Int) (p4 : x4 = mJ z4) (x5 : Int32) (z5 : Int) (p5 : x5 = mJ z5) (ζ : ZS) (σ : HS) (hr : Rp ζ σ) : Sm QI (g_X12_thing_95 z1 z2 z3 z4 z5 ζ) (f_X12_thing_95 0 x1 x2 x3 x4 x5 σ) := by
    unfold g_X12_thing_95 f_X12_thing_95
    refine sm_rk (a := 16) (pts (rp_s hr) 0 21 16 rfl) kd_16 ?_
    refine sm_ck p1 ln_16 (fun b101 => ?_)
    have hr102 := raI (a := 16) hr p1 b101 (Nat.le_of_ble_eq_true rfl) (pand li_1 li_1)
    refine sm_rk (a := 17) (pts (rp_s hr102) 0 22 17 rfl) kd_17 ?_
    refine sm_ck (pm li_4 p1) ln_17 (fun b103 => ?_)
    have hr104 := raI (a := 17) hr102 (pm li_4 p1) b103 (Nat.le_of_ble_eq_true rfl) p2
    refine sm_rk (a := 17) (pts (rp_s hr104) 0 22 17 rfl) kd_17 ?_
    refine sm_ile li_2 (hr104.1 0 20) ?_ ?_
    · exact q_X12_thing_133 _ _ p1 _ _ p4 _ _ p5 _ _ p3 _ _ (pa (pm li_4 p1) li_1) _ kd_17 _ _ hr104
    · exact q_X12_thing_133 _ _ p1 _ _ p4 _ _ p5 _ _ li_0 _ _ (pa (pm li_4 p1) li_1) _ kd_17 _ _ hr104
set_option maxHeartbeats 4000000 in
set_option maxRecDepth 100000 in
theorem q_X12_thing_74 (x1 : Int32) (z1 : Int) (p1 : x1 = mJ z1) (x2 : Int32) (z2 : Int) (p2 : x2 = mJ z2) (x3 : Int32) (z3 : Int) (p3 : x3 = mJ z3) (x4 : Int32) (z4 : Int) (p4 : x4 = mJ z4) (x5 : Int32) (z5 : Int) (p5 : x5 = mJ z5) (ζ : ZS) (σ : HS) (hr : Rp ζ σ) : Sm QI (g_X12_thing_74 z1 z2 z3 z4 z5 ζ) (f_X12_thing_74 0 x1 x2 x3 x4 x5 σ) := by
    unfold g_X12_thing_74 f_X12_thing_74
    refine sm_ile (hr.1 0 20) li_3 ?_ ?_
    · exact q_X12_thing_95 _ _ p1 _ _ p2 _ _ p3 _ _ p4 _ _ p5 _ _ hr
    · refine sm_bind (q_X12_within _ _ p5 _ _ li_0 _ _ li_100 _ _ hr) (fun q1 w1 e1 => ?_)
      refine sm_ieq e1.1 li_0 ?_ ?_
      · exact q_X12_thing_93 _ _ e1.2
      · exact q_X12_thing_95 _ _ p1 _ _ p2 _ _ p3 _ _ p4 _ _ p5 _ _ e1.2
set_option maxHeartbeats 4000000 in
set_option maxRecDepth 100000 in
theorem q_X12_thing_48 (x1 : Int32) (z1 : Int) (p1 : x1 = mJ z1) (x2 : Int32) (z2 : Int) (p2 : x2 = mJ z2) (x3 : Int32) (z3 : Int) (p3 : x3 = mJ z3) (x4 : Int32) (z4 : Int) (p4 : x4 = mJ z4) (x5 : Int32) (z5 : Int) (p5 : x5 = mJ z5) (xs0 : Int32) (zs0 : Int) (ps0 : xs0 = mJ zs0) (ζ : ZS) (σ : HS) (hr : Rp ζ σ) : Sm QI (g_X12_thing_48 z1 z2 z3 z4 z5 zs0 ζ) (f_X12_thing_48 0 x1 x2 x3 x4 x5 xs0 σ) := by
    unfold g_X12_thing_48 f_X12_thing_48
    refine sm_ieq ps0 li_0 ?_ ?_
    · exact q_X12_thing_93 _ _ hr
    · refine sm_ile (hr.1 0 20) li_2 ?_ ?_
      · exact q_X12_thing_74 _ _ p1 _ _ p2 _ _ p3 _ _ p4 _ _ p5 _ _ hr
      · refine sm_bind (q_X12_within _ _ p4 _ _ li_0 _ _ li_100 _ _ hr) (fun q1 w1 e1 => ?_)
        refine sm_ieq e1.1 li_0 ?_ ?_
        · exact q_X12_thing_93 _ _ e1.2
        · exact q_X12_thing_74 _ _ p1 _ _ p2 _ _ p3 _ _ p4 _ _ p5 _ _ e1.2
set_option maxHeartbeats 4000000 in
set_option maxRecDepth 100000 in
theorem q_X12_thing_47 (x1 : Int32) (z1 : Int) (p1 : x1 = mJ z1) (x2 : Int32) (z2 : Int) (p2 : x2 = mJ z2) (x3 : Int32) (z3 : Int) (p3 : x3 = mJ z3) (x4 : Int32) (z4 : Int) (p4 : x4 = mJ z4) (x5 : Int32) (z5 : Int) (p5 : x5 = mJ z5) (ζ : ZS) (σ : HS) (hr : Rp ζ σ) : Sm QI (g_X12_thing_47 z1 z2 z3 z4 z5 ζ) (f_X12_thing_47 0 x1 x2 x3 x4 x5 σ) := by
    unfold g_X12_thing_47 f_X12_thing_47
    exact q_X12_thing_48 _ _ p1 _ _ p2 _ _ p3 _ _ p4 _ _ p5 _ _ li_0 _ _ hr
set_option maxHeartbeats 4000000 in
set_option maxRecDepth 100000 in
theorem q_X12_thing_43 (x1 : Int32) (z1 : Int) (p1 : x1 = mJ z1) (x2 : Int32) (z2 : Int) (p2 : x2 = mJ z2) (x3 : Int32) (z3 : Int) (p3 : x3 = mJ z3) (x4 : Int32) (z4 : Int) (p4 : x4 = mJ z4) (x5 : Int32) (z5 : Int) (p5 : x5 = mJ z5) (ζ : ZS) (σ : HS) (hr : Rp ζ σ) : Sm QI (g_X12_thing_43 z1 z2 z3 z4 z5 ζ) (f_X12_thing_43 0 x1 x2 x3 x4 x5 σ) := by
    unfold g_X12_thing_43 f_X12_thing_43
    exact q_X12_thing_48 _ _ p1 _ _ p2 _ _ p3 _ _ p4 _ _ p5 _ _ li_1 _ _ hr
set_option maxHeartbeats 4000000 in
set_option maxRecDepth 100000 in
theorem q_X12_thing (x1 : Int32) (z1 : Int) (p1 : x1 = mJ z1) (x2 : Int32) (z2 : Int) (p2 : x2 = mJ z2) (x3 : Int32) (z3 : Int) (p3 : x3 = mJ z3) (x4 : Int32) (z4 : Int) (p4 : x4 = mJ z4) (x5 : Int32) (z5 : Int) (p5 : x5 = mJ z5) (ζ : ZS) (σ : HS) (hr : Rp ζ σ) : Sm QI (g_X12_thing z1 z2 z3 z4 z5 ζ) (f_X12_thing 0 x1 x2 x3 x4 x5 σ) := by
    unfold g_X12_thing f_X12_thing
    have hr101 := rwI (a := 0) (k := 0) hr li_0
    refine sm_bind (q_X12_within _ _ p1 _ _ li_0 _ _ li_7 _ _ hr101) (fun q2 w2 e2 => ?_)
    refine sm_ieq e2.1 li_0 ?_ ?_
    · exact q_X12_thing_47 _ _ p1 _ _ p2 _ _ p3 _ _ p4 _ _ p5 _ _ e2.2
    · refine sm_bind (q_X12_within _ _ p2 _ _ li_0 _ _ li_100 _ _ e2.2) (fun q3 w3 e3 => ?_)
      refine sm_ieq e3.1 li_0 ?_ ?_
      · exact q_X12_thing_47 _ _ p1 _ _ p2 _ _ p3 _ _ p4 _ _ p5 _ _ e3.2
      · refine sm_ilt (e3.2.1 0 20) li_2 ?_ ?_
        · exact q_X12_thing_43 _ _ p1 _ _ p2 _ _ p3 _ _ p4 _ _ p5 _ _ e3.2
        · refine sm_bind (q_X12_within _ _ p3 _ _ li_0 _ _ li_100 _ _ e3.2) (fun q4 w4 e4 => ?_)
          refine sm_ieq e4.1 li_0 ?_ ?_
          · exact q_X12_thing_47 _ _ p1 _ _ p2 _ _ p3 _ _ p4 _ _ p5 _ _ e4.2
          · exact q_X12_thing_43 _ _ p1 _ _ p2 _ _ p3 _ _ p4 _ _ p5 _ _ e4.2
set_option maxHeartbeats 4000000 in
set_option maxRecDepth 100000 in
theorem q_X12_isThing_24 (xs0 : Int32) (zs0 : Int) (ps0 : xs0 = mJ zs0) (ζ : ZS) (σ : HS) (hr : Rp ζ σ) : Sm QI (g_X12_isThing_24 zs0 ζ) (f_X12_isThing_24 xs0 σ) := by
    unfold g_X12_isThing_24 f_X12_isThing_24
    exact sm_zr ps0 hr
set_option maxHeartbeats 4000000 in
set_option maxRecDepth 100000 in
theorem q_X12_isThing_23  (ζ : ZS) (σ : HS) (hr : Rp ζ σ) : Sm QI (g_X12_isThing_23 ζ) (f_X12_isThing_23 σ) := by
    unfold g_X12_isThing_23 f_X12_isThing_23
    exact q_X12_isThing_24 _ _ li_0 _ _ hr
set_option maxHeartbeats 4000000 in
set_option maxRecDepth 100000 in
theorem q_X12_isThing (x1 : Int32) (z1 : Int) (p1 : x1 = mJ z1) (ζ : ZS) (σ : HS) (hr : Rp ζ σ) : Sm QI (g_X12_isThing z1 ζ) (f_X12_isThing 0 x1 σ) := by
    unfold g_X12_isThing f_X12_isThing
    refine sm_bind (q_X12_within _ _ p1 _ _ li_0 _ _ li_7 _ _ hr) (fun q1 w1 e1 => ?_)
    refine sm_ieq e1.1 li_0 ?_ ?_
    · exact q_X12_isThing_23 _ _ e1.2
    · refine sm_rk (a := 16) (pts (rp_s e1.2) 0 21 16 rfl) kd_16 ?_
      refine sm_ck p1 ln_16 (fun b102 => ?_)
      refine sm_ieq (rdI (a := 16) e1.2 p1 b102 (Nat.le_of_ble_eq_true rfl)) li_0 ?_ ?_
      · exact q_X12_isThing_23 _ _ e1.2
      · exact q_X12_isThing_24 _ _ li_1 _ _ e1.2
set_option maxHeartbeats 4000000 in
set_option maxRecDepth 100000 in
theorem q_X12_drop (x1 : Int32) (z1 : Int) (p1 : x1 = mJ z1) (ζ : ZS) (σ : HS) (hr : Rp ζ σ) : Sm QI (g_X12_drop z1 ζ) (f_X12_drop 0 x1 σ) := by
    unfold g_X12_drop f_X12_drop
    have hr101 := rwI (a := 0) (k := 0) hr li_0
    refine sm_bind (q_X12_isThing _ _ p1 _ _ hr101) (fun q2 w2 e2 => ?_)
    refine sm_ieq e2.1 li_0 ?_ ?_
    · exact sm_ri li_0 e2.2
    · refine sm_rk (a := 16) (pts (rp_s e2.2) 0 21 16 rfl) kd_16 ?_
      refine sm_ck p1 ln_16 (fun b103 => ?_)
      have hr104 := raI (a := 16) e2.2 p1 b103 (Nat.le_of_ble_eq_true rfl) (pand li_0 li_1)
      exact sm_ri li_1 hr104
set_option maxHeartbeats 4000000 in
set_option maxRecDepth 100000 in
theorem q_X12_voices (x1 : Int32) (z1 : Int) (p1 : x1 = mJ z1) (ζ : ZS) (σ : HS) (hr : Rp ζ σ) : Sm QI (g_X12_voices z1 ζ) (f_X12_voices 0 x1 σ) := by
    unfold g_X12_voices f_X12_voices
    have hr101 := rwI (a := 0) (k := 0) hr li_0
    refine sm_bind (q_X12_within _ _ p1 _ _ li_0 _ _ li_255 _ _ hr101) (fun q2 w2 e2 => ?_)
    refine sm_ieq e2.1 li_0 ?_ ?_
    · exact sm_ri li_0 e2.2
    · have hr103 := rwI (a := 0) (k := 23) e2.2 p1
      exact sm_ri li_1 hr103
set_option maxHeartbeats 4000000 in
set_option maxRecDepth 100000 in
theorem q_X12_uncapped_35 (xs0 : Int32) (zs0 : Int) (ps0 : xs0 = mJ zs0) (ζ : ZS) (σ : HS) (hr : Rp ζ σ) : Sm QI (g_X12_uncapped_35 zs0 ζ) (f_X12_uncapped_35 xs0 σ) := by
    unfold g_X12_uncapped_35 f_X12_uncapped_35
    exact sm_ri ps0 hr
set_option maxHeartbeats 4000000 in
set_option maxRecDepth 100000 in
theorem q_X12_uncapped (x1 : Int32) (z1 : Int) (p1 : x1 = mJ z1) (x2 : Int32) (z2 : Int) (p2 : x2 = mJ z2) (ζ : ZS) (σ : HS) (hr : Rp ζ σ) : Sm QI (g_X12_uncapped z1 z2 ζ) (f_X12_uncapped 0 x1 x2 σ) := by
    unfold g_X12_uncapped f_X12_uncapped
    refine sm_rk (a := 6) (pts (rp_s hr) 0 10 6 rfl) kd_6 ?_
    refine sm_ck p2 ln_6 (fun b101 => ?_)
    refine sm_ieq (rdI (a := 6) hr p2 b101 (Nat.le_of_ble_eq_true rfl)) li_0 ?_ ?_
    · refine sm_rk (a := 17) (pts (rp_s hr) 0 22 17 rfl) kd_17 ?_
      refine sm_ck (pa (pm li_4 p1) p2) ln_17 (fun b102 => ?_)
      exact q_X12_uncapped_35 _ _ (rdI (a := 17) hr (pa (pm li_4 p1) p2) b102 (Nat.le_of_ble_eq_true rfl)) _ _ hr
    · refine sm_rk (a := 17) (pts (rp_s hr) 0 22 17 rfl) kd_17 ?_
      refine sm_ck (pa (pm li_4 p1) p2) ln_17 (fun b103 => ?_)
      exact q_X12_uncapped_35 _ _ (ps li_100 (rdI (a := 17) hr (pa (pm li_4 p1) p2) b103 (Nat.le_of_ble_eq_true rfl))) _ _ hr
set_option maxHeartbeats 4000000 in
set_option maxRecDepth 100000 in
theorem q_X12_valueOf_36 (xs0 : Int32) (zs0 : Int) (ps0 : xs0 = mJ zs0) (ζ : ZS) (σ : HS) (hr : Rp ζ σ) : Sm QI (g_X12_valueOf_36 zs0 ζ) (f_X12_valueOf_36 xs0 σ) := by
    unfold g_X12_valueOf_36 f_X12_valueOf_36
    exact sm_ri ps0 hr
set_option maxHeartbeats 4000000 in
set_option maxRecDepth 100000 in
theorem q_X12_valueOf_35 (x3 : Int32) (z3 : Int) (p3 : x3 = mJ z3) (ζ : ZS) (σ : HS) (hr : Rp ζ σ) : Sm QI (g_X12_valueOf_35 z3 ζ) (f_X12_valueOf_35 x3 σ) := by
    unfold g_X12_valueOf_35 f_X12_valueOf_35
    exact q_X12_valueOf_36 _ _ p3 _ _ hr
set_option maxHeartbeats 4000000 in
set_option maxRecDepth 100000 in
theorem q_X12_valueOf (x1 : Int32) (z1 : Int) (p1 : x1 = mJ z1) (x2 : Int32) (z2 : Int) (p2 : x2 = mJ z2) (ζ : ZS) (σ : HS) (hr : Rp ζ σ) : Sm QI (g_X12_valueOf z1 z2 ζ) (f_X12_valueOf 0 x1 x2 σ) := by
    unfold g_X12_valueOf f_X12_valueOf
    refine sm_bind (q_X12_uncapped _ _ p1 _ _ p2 _ _ hr) (fun q1 w1 e1 => ?_)
    refine sm_rk (a := 7) (pts (rp_s e1.2) 0 11 7 rfl) kd_7 ?_
    refine sm_ck p2 ln_7 (fun b102 => ?_)
    refine sm_ilt (rdI (a := 7) e1.2 p2 b102 (Nat.le_of_ble_eq_true rfl)) li_0 ?_ ?_
    · exact q_X12_valueOf_35 _ _ e1.1 _ _ e1.2
    · refine sm_rk (a := 7) (pts (rp_s e1.2) 0 11 7 rfl) kd_7 ?_
      refine sm_ck p2 ln_7 (fun b103 => ?_)
      refine sm_ile e1.1 (rdI (a := 7) e1.2 p2 b103 (Nat.le_of_ble_eq_true rfl)) ?_ ?_
      · exact q_X12_valueOf_35 _ _ e1.1 _ _ e1.2
      · refine sm_rk (a := 7) (pts (rp_s e1.2) 0 11 7 rfl) kd_7 ?_
        refine sm_ck p2 ln_7 (fun b104 => ?_)
        exact q_X12_valueOf_36 _ _ (rdI (a := 7) e1.2 p2 b104 (Nat.le_of_ble_eq_true rfl)) _ _ e1.2
set_option maxHeartbeats 4000000 in
set_option maxRecDepth 100000 in
theorem q_X12_isIn_56 (x2 : Int32) (z2 : Int) (p2 : x2 = mJ z2) (ζ : ZS) (σ : HS) (hr : Rp ζ σ) : Sm QI (g_X12_isIn_56 z2 ζ) (f_X12_isIn_56 x2 σ) := by
    unfold g_X12_isIn_56 f_X12_isIn_56
    exact sm_zr p2 hr
set_option maxHeartbeats 4000000 in
set_option maxRecDepth 100000 in
theorem q_X12_isIn_49 (r8 : Int → Int → ZS → Option (Int × ZS)) (f8 : Int32 → Int32 → HS → Option (Int32 × HS)) (h8 : ∀ (x2 : Int32) (z2 : Int) (p2 : x2 = mJ z2) (x3 : Int32) (z3 : Int) (p3 : x3 = mJ z3) (ζ : ZS) (σ : HS), Rp ζ σ → Sm QI (r8 z2 z3 ζ) (f8 x2 x3 σ)) (x1 : Int32) (z1 : Int) (p1 : x1 = mJ z1) (x3 : Int32) (z3 : Int) (p3 : x3 = mJ z3) (xs0 : Int32) (zs0 : Int) (ps0 : xs0 = mJ zs0) (ζ : ZS) (σ : HS) (hr : Rp ζ σ) : Sm QI (g_X12_isIn_49 r8 z1 z3 zs0 ζ) (f_X12_isIn_49 f8 0 x1 x3 xs0 σ) := by
    unfold g_X12_isIn_49 f_X12_isIn_49
    exact h8 _ _ ps0 _ _ (pa p3 li_1) _ _ hr
set_option maxHeartbeats 4000000 in
set_option maxRecDepth 100000 in
theorem q_X12_isIn_44 (r8 : Int → Int → ZS → Option (Int × ZS)) (f8 : Int32 → Int32 → HS → Option (Int32 × HS)) (h8 : ∀ (x2 : Int32) (z2 : Int) (p2 : x2 = mJ z2) (x3 : Int32) (z3 : Int) (p3 : x3 = mJ z3) (ζ : ZS) (σ : HS), Rp ζ σ → Sm QI (r8 z2 z3 ζ) (f8 x2 x3 σ)) (x1 : Int32) (z1 : Int) (p1 : x1 = mJ z1) (x3 : Int32) (z3 : Int) (p3 : x3 = mJ z3) (ζ : ZS) (σ : HS) (hr : Rp ζ σ) : Sm QI (g_X12_isIn_44 r8 z1 z3 ζ) (f_X12_isIn_44 f8 0 x1 x3 σ) := by
    unfold g_X12_isIn_44 f_X12_isIn_44
    exact q_X12_isIn_49 _ _ h8 _ _ p1 _ _ p3 _ _ li_1 _ _ hr
set_option maxHeartbeats 4000000 in
set_option maxRecDepth 100000 in
theorem q_X12_isIn_8 (x1 : Int32) (z1 : Int) (p1 : x1 = mJ z1) : ∀ (n : Nat) (x2 : Int32) (z2 : Int) (p2 : x2 = mJ z2) (x3 : Int32) (z3 : Int) (p3 : x3 = mJ z3) (ζ : ZS) (σ : HS), Rp ζ σ → Sm QI (g_X12_isIn_8 z1 n z2 z3 ζ) (f_X12_isIn_8 0 x1 n x2 x3 σ) := by
  intro n
  induction n with
  | zero =>
    intro x2 z2 p2 x3 z3 p3 ζ σ hr
    exact sm_none
  | succ n ih =>
    intro x2 z2 p2 x3 z3 p3 ζ σ hr
    rw [g_X12_isIn_8.eq_2, f_X12_isIn_8.eq_2]
    refine sm_ile (hr.1 0 20) p3 ?_ ?_
    · exact q_X12_isIn_56 _ _ p2 _ _ hr
    · refine sm_ieq p2 li_0 ?_ ?_
      · exact q_X12_isIn_56 _ _ p2 _ _ hr
      · refine sm_rk (a := 8) (pts (rp_s hr) 0 12 8 rfl) kd_8 ?_
        refine sm_ck p3 ln_8 (fun b101 => ?_)
        refine sm_ilt (rdI (a := 8) hr p3 b101 (Nat.le_of_ble_eq_true rfl)) li_0 ?_ ?_
        · exact q_X12_isIn_44 _ _ ih _ _ p1 _ _ p3 _ _ hr
        · refine sm_bind (q_X12_uncapped _ _ p1 _ _ p3 _ _ hr) (fun q2 w2 e2 => ?_)
          refine sm_rk (a := 8) (pts (rp_s e2.2) 0 12 8 rfl) kd_8 ?_
          refine sm_ck p3 ln_8 (fun b103 => ?_)
          refine sm_ilt e2.1 (rdI (a := 8) e2.2 p3 b103 (Nat.le_of_ble_eq_true rfl)) ?_ ?_
          · exact q_X12_isIn_49 _ _ ih _ _ p1 _ _ p3 _ _ li_0 _ _ e2.2
          · exact q_X12_isIn_44 _ _ ih _ _ p1 _ _ p3 _ _ e2.2
set_option maxHeartbeats 4000000 in
set_option maxRecDepth 100000 in
theorem q_X12_isIn (x1 : Int32) (z1 : Int) (p1 : x1 = mJ z1) (ζ : ZS) (σ : HS) (hr : Rp ζ σ) : Sm QI (g_X12_isIn z1 ζ) (f_X12_isIn 0 x1 σ) := by
    unfold g_X12_isIn f_X12_isIn
    refine sm_bind (q_X12_isThing _ _ p1 _ _ hr) (fun q1 w1 e1 => ?_)
    exact q_X12_isIn_8 _ _ p1 FU _ _ e1.1 _ _ li_0 _ _ e1.2
set_option maxHeartbeats 4000000 in
set_option maxRecDepth 100000 in
theorem q_X12_inMany_24 (r4 : Int → Int → ZS → Option (Int × ZS)) (f4 : Int32 → Int32 → HS → Option (Int32 × HS)) (h4 : ∀ (x1 : Int32) (z1 : Int) (p1 : x1 = mJ z1) (x2 : Int32) (z2 : Int) (p2 : x2 = mJ z2) (ζ : ZS) (σ : HS), Rp ζ σ → Sm QI (r4 z1 z2 ζ) (f4 x1 x2 σ)) (x2 : Int32) (z2 : Int) (p2 : x2 = mJ z2) (xs0 : Int32) (zs0 : Int) (ps0 : xs0 = mJ zs0) (xs1 : Int32) (zs1 : Int) (ps1 : xs1 = mJ zs1) (ζ : ZS) (σ : HS) (hr : Rp ζ σ) : Sm QI (g_X12_inMany_24 r4 z2 zs0 zs1 ζ) (f_X12_inMany_24 f4 0 x2 xs0 xs1 σ) := by
    unfold g_X12_inMany_24 f_X12_inMany_24
    exact h4 _ _ (pa ps1 ps0) _ _ (pa p2 li_1) _ _ hr
set_option maxHeartbeats 4000000 in
set_option maxRecDepth 100000 in
theorem q_X12_inMany_4  : ∀ (n : Nat) (x1 : Int32) (z1 : Int) (p1 : x1 = mJ z1) (x2 : Int32) (z2 : Int) (p2 : x2 = mJ z2) (ζ : ZS) (σ : HS), Rp ζ σ → Sm QI (g_X12_inMany_4 n z1 z2 ζ) (f_X12_inMany_4 0 n x1 x2 σ) := by
  intro n
  induction n with
  | zero =>
    intro x1 z1 p1 x2 z2 p2 ζ σ hr
    exact sm_none
  | succ n ih =>
    intro x1 z1 p1 x2 z2 p2 ζ σ hr
    rw [g_X12_inMany_4.eq_2, f_X12_inMany_4.eq_2]
    refine sm_ile li_8 p2 ?_ ?_
    · exact sm_ri p1 hr
    · refine sm_bind (q_X12_isIn _ _ p2 _ _ hr) (fun q1 w1 e1 => ?_)
      refine sm_ieq e1.1 li_0 ?_ ?_
      · exact q_X12_inMany_24 _ _ ih _ _ p2 _ _ li_0 _ _ p1 _ _ e1.2
      · exact q_X12_inMany_24 _ _ ih _ _ p2 _ _ li_1 _ _ p1 _ _ e1.2
set_option maxHeartbeats 4000000 in
set_option maxRecDepth 100000 in
theorem q_X12_inMany  (ζ : ZS) (σ : HS) (hr : Rp ζ σ) : Sm QI (g_X12_inMany ζ) (f_X12_inMany 0 σ) := by
    unfold g_X12_inMany f_X12_inMany
    exact q_X12_inMany_4 FU _ _ li_0 _ _ li_0 _ _ hr
set_option maxHeartbeats 4000000 in
set_option maxRecDepth 100000 in
theorem q_X12_value_48 (xs0 : Int32) (zs0 : Int) (ps0 : xs0 = mJ zs0) (ζ : ZS) (σ : HS) (hr : Rp ζ σ) : Sm QI (g_X12_value_48 zs0 ζ) (f_X12_value_48 xs0 σ) := by
    unfold g_X12_value_48 f_X12_value_48
    exact sm_ri ps0 hr
set_option maxHeartbeats 4000000 in
set_option maxRecDepth 100000 in
theorem q_X12_value_28 (x1 : Int32) (z1 : Int) (p1 : x1 = mJ z1) (x2 : Int32) (z2 : Int) (p2 : x2 = mJ z2) (xs0 : Int32) (zs0 : Int) (ps0 : xs0 = mJ zs0) (ζ : ZS) (σ : HS) (hr : Rp ζ σ) : Sm QI (g_X12_value_28 z1 z2 zs0 ζ) (f_X12_value_28 0 x1 x2 xs0 0 σ) := by
    unfold g_X12_value_28 f_X12_value_28
    have hr101 := rwI (a := 0) (k := 0) hr ps0
    refine sm_ile (hr101.1 0 0) li_0 ?_ ?_
    · refine sm_bind (q_X12_valueOf _ _ p1 _ _ p2 _ _ hr101) (fun q2 w2 e2 => ?_)
      exact q_X12_value_48 _ _ e2.1 _ _ e2.2
    · exact q_X12_value_48 _ _ li_0 _ _ hr101
set_option maxHeartbeats 4000000 in
set_option maxRecDepth 100000 in
theorem q_X12_value_27 (x1 : Int32) (z1 : Int) (p1 : x1 = mJ z1) (x2 : Int32) (z2 : Int) (p2 : x2 = mJ z2) (ζ : ZS) (σ : HS) (hr : Rp ζ σ) : Sm QI (g_X12_value_27 z1 z2 ζ) (f_X12_value_27 0 x1 x2 0 σ) := by
    unfold g_X12_value_27 f_X12_value_27
    exact q_X12_value_28 _ _ p1 _ _ p2 _ _ li_1 _ _ hr
set_option maxHeartbeats 4000000 in
set_option maxRecDepth 100000 in
theorem q_X12_value (x1 : Int32) (z1 : Int) (p1 : x1 = mJ z1) (x2 : Int32) (z2 : Int) (p2 : x2 = mJ z2) (ζ : ZS) (σ : HS) (hr : Rp ζ σ) : Sm QI (g_X12_value z1 z2 ζ) (f_X12_value 0 x1 x2 σ) := by
    unfold g_X12_value f_X12_value
    refine sm_bind (q_X12_isThing _ _ p1 _ _ hr) (fun q1 w1 e1 => ?_)
    refine sm_ieq e1.1 li_0 ?_ ?_
    · exact q_X12_value_27 _ _ p1 _ _ p2 _ _ e1.2
    · refine sm_bind (q_X12_within _ _ p2 _ _ li_0 _ _ (ps (e1.2.1 0 20) li_1) _ _ e1.2) (fun q2 w2 e2 => ?_)
      refine sm_ieq e2.1 li_0 ?_ ?_
      · exact q_X12_value_27 _ _ p1 _ _ p2 _ _ e2.2
      · exact q_X12_value_28 _ _ p1 _ _ p2 _ _ li_0 _ _ e2.2
set_option maxHeartbeats 4000000 in
set_option maxRecDepth 100000 in
theorem q_X12_standing_30 (xs0 : Int32) (zs0 : Int) (ps0 : xs0 = mJ zs0) (ζ : ZS) (σ : HS) (hr : Rp ζ σ) : Sm QI (g_X12_standing_30 zs0 ζ) (f_X12_standing_30 xs0 σ) := by
    unfold g_X12_standing_30 f_X12_standing_30
    exact sm_ri ps0 hr
set_option maxHeartbeats 4000000 in
set_option maxRecDepth 100000 in
theorem q_X12_standing (x1 : Int32) (z1 : Int) (p1 : x1 = mJ z1) (ζ : ZS) (σ : HS) (hr : Rp ζ σ) : Sm QI (g_X12_standing z1 ζ) (f_X12_standing 0 x1 σ) := by
    unfold g_X12_standing f_X12_standing
    have hr101 := rwI (a := 0) (k := 0) hr li_0
    refine sm_bind (q_X12_isThing _ _ p1 _ _ hr101) (fun q2 w2 e2 => ?_)
    refine sm_ieq e2.1 li_0 ?_ ?_
    · exact q_X12_standing_30 _ _ li_m1 _ _ e2.2
    · refine sm_bind (q_X12_isIn _ _ p1 _ _ e2.2) (fun q3 w3 e3 => ?_)
      refine sm_ieq e3.1 li_0 ?_ ?_
      · exact q_X12_standing_30 _ _ li_0 _ _ e3.2
      · exact q_X12_standing_30 _ _ li_1 _ _ e3.2
