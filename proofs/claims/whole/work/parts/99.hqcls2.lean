set_option maxHeartbeats 4000000 in
set_option maxRecDepth 100000 in
theorem q_X4_brokenPlace_24 (c1 : Nat) (k1 : kd c1 = 14) (x2 : Int32) (z2 : Int) (p2 : x2 = mJ z2) : ∀ (n : Nat) (x4 : Int32) (z4 : Int) (p4 : x4 = mJ z4) (ζ : ZS) (σ : HS), Rp ζ σ → Sm QI (g_X4_brokenPlace_24 c1 z2 n z4 ζ) (f_X4_brokenPlace_24 125 c1 x2 72 n x4 σ) := by
  intro n
  induction n with
  | zero =>
    intro x4 z4 p4 ζ σ hr
    exact sm_none
  | succ n ih =>
    intro x4 z4 p4 ζ σ hr
    rw [g_X4_brokenPlace_24.eq_2, f_X4_brokenPlace_24.eq_2]
    refine sm_ile p2 p4 ?_ ?_
    · exact sm_ri li_m1 hr
    · refine sm_rk (a := 30) (pts (rp_s hr) 125 0 30 rfl) kd_30 ?_
      refine sm_ck (ps p4 li_1) rfl (fun b101 => ?_)
      refine sm_ck p4 rfl (fun b102 => ?_)
      refine sm_rk (a := 135) (pts (rp_s hr) 125 3 135 rfl) kd_135 ?_
      refine sm_bind (q_X9_fillLead _ _ (rdI (a := c1) hr (ps p4 li_1) b101 (ln_le _)) _ _ (rdI (a := c1) hr p4 b102 (ln_le _)) _ kd_135 _ _ hr) (fun q3 w3 e3 => ?_)
      refine sm_ck p4 ln_72 (fun b104 => ?_)
      refine sm_rk (aa17 e3 p4 b104) (ak17 b104) ?_
      refine sm_ck (ps p4 li_1) ln_72 (fun b105 => ?_)
      refine sm_rk (aa17 e3 (ps p4 li_1) b105) (ak17 b105) ?_
      refine sm_rk (a := 135) (pts (rp_s e3) 125 3 135 rfl) kd_135 ?_
      refine sm_bind (q_X1_becomeCut _ (ak17 b104) _ (ak17 b105) _ kd_135 _ _ e3) (fun q6 w6 e6 => ?_)
      refine sm_ck p4 ln_72 (fun b107 => ?_)
      refine sm_rk (aa17 e6 p4 b107) (ak17 b107) ?_
      refine sm_ieq (e6.1 (73 + 4 * Int.toNat z4) 5) li_0 ?_ ?_
      · exact sm_ri p4 e6
      · exact ih _ _ (pa p4 li_1) _ _ e6
set_option maxHeartbeats 4000000 in
set_option maxRecDepth 100000 in
theorem q_X4_brokenPlace (c1 : Nat) (k1 : kd c1 = 14) (x2 : Int32) (z2 : Int) (p2 : x2 = mJ z2) (ζ : ZS) (σ : HS) (hr : Rp ζ σ) : Sm QI (g_X4_brokenPlace c1 z2 ζ) (f_X4_brokenPlace 125 c1 x2 σ) := by
    unfold g_X4_brokenPlace f_X4_brokenPlace
    refine sm_rk (a := 50) (pts (rp_s hr) 125 1 50 rfl) kd_50 ?_
    refine sm_rk (a := 72) (pts (rp_s hr) 50 3 72 rfl) kd_72 ?_
    refine sm_ck li_0 ln_72 (fun b101 => ?_)
    refine sm_rk (aa17 hr li_0 b101) (ak17 b101) ?_
    refine sm_rk (a := 50) (pts (rp_s hr) 125 1 50 rfl) kd_50 ?_
    refine sm_rk (a := 68) (pts (rp_s hr) 50 2 68 rfl) kd_68 ?_
    refine sm_bind (q_X1_become _ (ak17 b101) _ kd_68 _ _ hr) (fun q2 w2 e2 => ?_)
    exact q_X4_brokenPlace_24 _ k1 _ _ p2 FU _ _ li_1 _ _ e2
set_option maxHeartbeats 4000000 in
set_option maxRecDepth 100000 in
theorem q_X4_outdoes_60 (r3 : Int → ZS → Option (Int × ZS)) (f3 : Int32 → HS → Option (Int32 × HS)) (h3 : ∀ (x4 : Int32) (z4 : Int) (p4 : x4 = mJ z4) (ζ : ZS) (σ : HS), Rp ζ σ → Sm QI (r3 z4 ζ) (f3 x4 σ)) (x1 : Int32) (z1 : Int) (p1 : x1 = mJ z1) (x2 : Int32) (z2 : Int) (p2 : x2 = mJ z2) (x3 : Int32) (z3 : Int) (p3 : x3 = mJ z3) (x4 : Int32) (z4 : Int) (p4 : x4 = mJ z4) (xs0 : Int32) (zs0 : Int) (ps0 : xs0 = mJ zs0) (xs1 : Int32) (zs1 : Int) (ps1 : xs1 = mJ zs1) (cs2 : Nat) (ks2 : kd cs2 = 14) (ζ : ZS) (σ : HS) (hr : Rp ζ σ) : Sm QI (g_X4_outdoes_60 r3 z1 z2 z3 z4 zs0 zs1 cs2 ζ) (f_X4_outdoes_60 f3 125 x1 x2 x3 x4 xs0 xs1 cs2 σ) := by
    unfold g_X4_outdoes_60 f_X4_outdoes_60
    refine sm_ck ps1 rfl (fun b101 => ?_)
    have hr102 := raI (a := cs2) hr ps1 b101 (ln_le _) (ps ps0 p3)
    exact h3 _ _ (pa p4 li_1) _ _ hr102
set_option maxHeartbeats 4000000 in
set_option maxRecDepth 100000 in
theorem q_X4_outdoes_41 (r3 : Int → ZS → Option (Int × ZS)) (f3 : Int32 → HS → Option (Int32 × HS)) (h3 : ∀ (x4 : Int32) (z4 : Int) (p4 : x4 = mJ z4) (ζ : ZS) (σ : HS), Rp ζ σ → Sm QI (r3 z4 ζ) (f3 x4 σ)) (x1 : Int32) (z1 : Int) (p1 : x1 = mJ z1) (x2 : Int32) (z2 : Int) (p2 : x2 = mJ z2) (x3 : Int32) (z3 : Int) (p3 : x3 = mJ z3) (x4 : Int32) (z4 : Int) (p4 : x4 = mJ z4) (xs0 : Int32) (zs0 : Int) (ps0 : xs0 = mJ zs0) (ζ : ZS) (σ : HS) (hr : Rp ζ σ) : Sm QI (g_X4_outdoes_41 r3 z1 z2 z3 z4 zs0 ζ) (f_X4_outdoes_41 f3 125 x1 x2 x3 x4 xs0 σ) := by
    unfold g_X4_outdoes_41 f_X4_outdoes_41
    refine sm_rk (a := 135) (pts (rp_s hr) 125 3 135 rfl) kd_135 ?_
    refine sm_ieq ps0 li_0 ?_ ?_
    · exact q_X4_outdoes_60 _ _ h3 _ _ p1 _ _ p2 _ _ p3 _ _ p4 _ _ li_0 _ _ p4 _ kd_135 _ _ hr
    · exact q_X4_outdoes_60 _ _ h3 _ _ p1 _ _ p2 _ _ p3 _ _ p4 _ _ li_100 _ _ p4 _ kd_135 _ _ hr
set_option maxHeartbeats 4000000 in
set_option maxRecDepth 100000 in
theorem q_X4_outdoes_3 (x1 : Int32) (z1 : Int) (p1 : x1 = mJ z1) (x2 : Int32) (z2 : Int) (p2 : x2 = mJ z2) (x3 : Int32) (z3 : Int) (p3 : x3 = mJ z3) : ∀ (n : Nat) (x4 : Int32) (z4 : Int) (p4 : x4 = mJ z4) (ζ : ZS) (σ : HS), Rp ζ σ → Sm QI (g_X4_outdoes_3 z1 z2 z3 n z4 ζ) (f_X4_outdoes_3 125 x1 x2 x3 n x4 σ) := by
  intro n
  induction n with
  | zero =>
    intro x4 z4 p4 ζ σ hr
    exact sm_none
  | succ n ih =>
    intro x4 z4 p4 ζ σ hr
    rw [g_X4_outdoes_3.eq_2, f_X4_outdoes_3.eq_2]
    refine sm_ile li_4 p4 ?_ ?_
    · refine sm_rk (a := 50) (pts (rp_s hr) 125 1 50 rfl) kd_50 ?_
      refine sm_rk (a := 68) (pts (rp_s hr) 50 2 68 rfl) kd_68 ?_
      refine sm_rk (a := 135) (pts (rp_s hr) 125 3 135 rfl) kd_135 ?_
      refine sm_bind (q_X1_keeps _ kd_68 _ kd_135 _ _ hr) (fun q1 w1 e1 => ?_)
      exact sm_zr e1.1 e1.2
    · refine sm_rk (a := 30) (pts (rp_s hr) 125 0 30 rfl) kd_30 ?_
      refine sm_rk (a := 40) (pts (rp_s hr) 30 1 40 rfl) kd_40 ?_
      refine sm_ck p1 ln_40 (fun b102 => ?_)
      refine sm_rk (aa18 hr kd_40 ln_40 p1 b102) (ak18 kd_40 ln_40 b102) ?_
      refine sm_ck p4 (al18 kd_40 ln_40 b102) (fun b103 => ?_)
      refine sm_rk (a := 30) (pts (rp_s hr) 125 0 30 rfl) kd_30 ?_
      refine sm_rk (a := 40) (pts (rp_s hr) 30 1 40 rfl) kd_40 ?_
      refine sm_ck p2 ln_40 (fun b104 => ?_)
      refine sm_rk (aa18 hr kd_40 ln_40 p2 b104) (ak18 kd_40 ln_40 b104) ?_
      refine sm_ck p4 (al18 kd_40 ln_40 b104) (fun b105 => ?_)
      refine sm_ilt (rdI (a := 40 + 1 + Int.toNat z1) hr p4 b103 (Nat.le_of_ble_eq_true rfl)) (rdI (a := 40 + 1 + Int.toNat z2) hr p4 b105 (Nat.le_of_ble_eq_true rfl)) ?_ ?_
      · exact q_X4_outdoes_41 _ _ ih _ _ p1 _ _ p2 _ _ p3 _ _ p4 _ _ li_0 _ _ hr
      · exact q_X4_outdoes_41 _ _ ih _ _ p1 _ _ p2 _ _ p3 _ _ p4 _ _ li_1 _ _ hr
set_option maxHeartbeats 4000000 in
set_option maxRecDepth 100000 in
theorem q_X4_outdoes (x1 : Int32) (z1 : Int) (p1 : x1 = mJ z1) (x2 : Int32) (z2 : Int) (p2 : x2 = mJ z2) (x3 : Int32) (z3 : Int) (p3 : x3 = mJ z3) (ζ : ZS) (σ : HS) (hr : Rp ζ σ) : Sm QI (g_X4_outdoes z1 z2 z3 ζ) (f_X4_outdoes 125 x1 x2 x3 σ) := by
    unfold g_X4_outdoes f_X4_outdoes
    exact q_X4_outdoes_3 _ _ p1 _ _ p2 _ _ p3 FU _ _ li_0 _ _ hr
set_option maxHeartbeats 4000000 in
set_option maxRecDepth 100000 in
theorem q_X4_notOutdone_146 (r94 : Int → Int → ZS → Option (Int × ZS)) (f94 : Int32 → Int32 → HS → Option (Int32 × HS)) (h94 : ∀ (x2 : Int32) (z2 : Int) (p2 : x2 = mJ z2) (x3 : Int32) (z3 : Int) (p3 : x3 = mJ z3) (ζ : ZS) (σ : HS), Rp ζ σ → Sm QI (r94 z2 z3 ζ) (f94 x2 x3 σ)) (r103 : Int → Int → ZS → Option (Int × ZS)) (f103 : Int32 → Int32 → HS → Option (Int32 × HS)) (h103 : ∀ (x2 : Int32) (z2 : Int) (p2 : x2 = mJ z2) (x4 : Int32) (z4 : Int) (p4 : x4 = mJ z4) (ζ : ZS) (σ : HS), Rp ζ σ → Sm QI (r103 z2 z4 ζ) (f103 x2 x4 σ)) (x2 : Int32) (z2 : Int) (p2 : x2 = mJ z2) (x3 : Int32) (z3 : Int) (p3 : x3 = mJ z3) (x4 : Int32) (z4 : Int) (p4 : x4 = mJ z4) (ζ : ZS) (σ : HS) (hr : Rp ζ σ) : Sm QI (g_X4_notOutdone_146 r94 r103 z2 z3 z4 ζ) (f_X4_notOutdone_146 f94 f103 125 x2 x3 x4 σ) := by
    unfold g_X4_notOutdone_146 f_X4_notOutdone_146
    exact h103 _ _ p2 _ _ (pa p4 li_1) _ _ hr
set_option maxHeartbeats 4000000 in
set_option maxRecDepth 100000 in
theorem q_X4_notOutdone_103 (x3 : Int32) (z3 : Int) (p3 : x3 = mJ z3) (r94 : Int → Int → ZS → Option (Int × ZS)) (f94 : Int32 → Int32 → HS → Option (Int32 × HS)) (h94 : ∀ (x2 : Int32) (z2 : Int) (p2 : x2 = mJ z2) (x3 : Int32) (z3 : Int) (p3 : x3 = mJ z3) (ζ : ZS) (σ : HS), Rp ζ σ → Sm QI (r94 z2 z3 ζ) (f94 x2 x3 σ)) : ∀ (n : Nat) (x2 : Int32) (z2 : Int) (p2 : x2 = mJ z2) (x4 : Int32) (z4 : Int) (p4 : x4 = mJ z4) (ζ : ZS) (σ : HS), Rp ζ σ → Sm QI (g_X4_notOutdone_103 z3 r94 n z2 z4 ζ) (f_X4_notOutdone_103 125 x3 f94 n x2 x4 σ) := by
  intro n
  induction n with
  | zero =>
    intro x2 z2 p2 x4 z4 p4 ζ σ hr
    exact sm_none
  | succ n ih =>
    intro x2 z2 p2 x4 z4 p4 ζ σ hr
    rw [g_X4_notOutdone_103.eq_2, f_X4_notOutdone_103.eq_2]
    refine sm_ile li_8 p4 ?_ ?_
    · exact h94 _ _ p2 _ _ (pa p3 li_1) _ _ hr
    · refine sm_rk (a := 140) (pts (rp_s hr) 125 8 140 rfl) kd_140 ?_
      refine sm_ck p3 ln_140 (fun b101 => ?_)
      refine sm_ieq (pand (rdI (a := 140) hr p3 b101 (Nat.le_of_ble_eq_true rfl)) (pshl li_1 p4)) li_0 ?_ ?_
      · exact q_X4_notOutdone_146 _ _ h94 _ _ ih _ _ p2 _ _ p3 _ _ p4 _ _ hr
      · refine sm_rk (a := 140) (pts (rp_s hr) 125 8 140 rfl) kd_140 ?_
        refine sm_ck p4 ln_140 (fun b102 => ?_)
        refine sm_ieq (pand (rdI (a := 140) hr p4 b102 (Nat.le_of_ble_eq_true rfl)) (pshl li_1 p3)) li_0 ?_ ?_
        · exact q_X4_notOutdone_146 _ _ h94 _ _ ih _ _ (pand p2 (pxor (pshl li_1 p3) li_m1)) _ _ p3 _ _ p4 _ _ hr
        · exact q_X4_notOutdone_146 _ _ h94 _ _ ih _ _ p2 _ _ p3 _ _ p4 _ _ hr
set_option maxHeartbeats 4000000 in
set_option maxRecDepth 100000 in
theorem q_X4_notOutdone_94  : ∀ (n : Nat) (x2 : Int32) (z2 : Int) (p2 : x2 = mJ z2) (x3 : Int32) (z3 : Int) (p3 : x3 = mJ z3) (ζ : ZS) (σ : HS), Rp ζ σ → Sm QI (g_X4_notOutdone_94 n z2 z3 ζ) (f_X4_notOutdone_94 125 n x2 x3 σ) := by
  intro n
  induction n with
  | zero =>
    intro x2 z2 p2 x3 z3 p3 ζ σ hr
    exact sm_none
  | succ n ih =>
    intro x2 z2 p2 x3 z3 p3 ζ σ hr
    rw [g_X4_notOutdone_94.eq_2, f_X4_notOutdone_94.eq_2]
    refine sm_ile li_8 p3 ?_ ?_
    · exact sm_ri p2 hr
    · exact q_X4_notOutdone_103 _ _ p3 _ _ ih FU _ _ p2 _ _ li_0 _ _ hr
set_option maxHeartbeats 4000000 in
set_option maxRecDepth 100000 in
theorem q_X4_notOutdone_72 (r2 : Int → ZS → Option (Int × ZS)) (f2 : Int32 → HS → Option (Int32 × HS)) (h2 : ∀ (x2 : Int32) (z2 : Int) (p2 : x2 = mJ z2) (ζ : ZS) (σ : HS), Rp ζ σ → Sm QI (r2 z2 ζ) (f2 x2 σ)) (r17 : Int → ZS → Option (Int × ZS)) (f17 : Int32 → HS → Option (Int32 × HS)) (h17 : ∀ (x3 : Int32) (z3 : Int) (p3 : x3 = mJ z3) (ζ : ZS) (σ : HS), Rp ζ σ → Sm QI (r17 z3 ζ) (f17 x3 σ)) (x1 : Int32) (z1 : Int) (p1 : x1 = mJ z1) (x2 : Int32) (z2 : Int) (p2 : x2 = mJ z2) (x3 : Int32) (z3 : Int) (p3 : x3 = mJ z3) (ζ : ZS) (σ : HS) (hr : Rp ζ σ) : Sm QI (g_X4_notOutdone_72 r2 r17 z1 z2 z3 ζ) (f_X4_notOutdone_72 f2 f17 125 x1 x2 x3 σ) := by
    unfold g_X4_notOutdone_72 f_X4_notOutdone_72
    exact h17 _ _ (pa p3 li_1) _ _ hr
set_option maxHeartbeats 4000000 in
set_option maxRecDepth 100000 in
theorem q_X4_notOutdone_17 (x1 : Int32) (z1 : Int) (p1 : x1 = mJ z1) (x2 : Int32) (z2 : Int) (p2 : x2 = mJ z2) (r2 : Int → ZS → Option (Int × ZS)) (f2 : Int32 → HS → Option (Int32 × HS)) (h2 : ∀ (x2 : Int32) (z2 : Int) (p2 : x2 = mJ z2) (ζ : ZS) (σ : HS), Rp ζ σ → Sm QI (r2 z2 ζ) (f2 x2 σ)) : ∀ (n : Nat) (x3 : Int32) (z3 : Int) (p3 : x3 = mJ z3) (ζ : ZS) (σ : HS), Rp ζ σ → Sm QI (g_X4_notOutdone_17 z1 z2 r2 n z3 ζ) (f_X4_notOutdone_17 125 x1 x2 f2 n x3 σ) := by
  intro n
  induction n with
  | zero =>
    intro x3 z3 p3 ζ σ hr
    exact sm_none
  | succ n ih =>
    intro x3 z3 p3 ζ σ hr
    rw [g_X4_notOutdone_17.eq_2, f_X4_notOutdone_17.eq_2]
    refine sm_ile li_8 p3 ?_ ?_
    · exact h2 _ _ (pa p2 li_1) _ _ hr
    · refine sm_ieq p3 p2 ?_ ?_
      · exact q_X4_notOutdone_72 _ _ h2 _ _ ih _ _ p1 _ _ p2 _ _ p3 _ _ hr
      · refine sm_rk (a := 30) (pts (rp_s hr) 125 0 30 rfl) kd_30 ?_
        refine sm_bind (q_X9_isIn _ _ p3 _ _ hr) (fun q1 w1 e1 => ?_)
        refine sm_ieq e1.1 li_0 ?_ ?_
        · exact q_X4_notOutdone_72 _ _ h2 _ _ ih _ _ p1 _ _ p2 _ _ p3 _ _ e1.2
        · refine sm_rk (a := 30) (pts (rp_s e1.2) 125 0 30 rfl) kd_30 ?_
          refine sm_bind (q_X9_isIn _ _ p2 _ _ e1.2) (fun q2 w2 e2 => ?_)
          refine sm_ieq e2.1 li_0 ?_ ?_
          · exact q_X4_notOutdone_72 _ _ h2 _ _ ih _ _ p1 _ _ p2 _ _ p3 _ _ e2.2
          · refine sm_bind (q_X4_outdoes _ _ p3 _ _ p2 _ _ p1 _ _ e2.2) (fun q3 w3 e3 => ?_)
            refine sm_ieq e3.1 li_0 ?_ ?_
            · exact q_X4_notOutdone_72 _ _ h2 _ _ ih _ _ p1 _ _ p2 _ _ p3 _ _ e3.2
            · refine sm_rk (a := 140) (pts (rp_s e3.2) 125 8 140 rfl) kd_140 ?_
              refine sm_ck p2 ln_140 (fun b104 => ?_)
              refine sm_ck p2 ln_140 (fun b105 => ?_)
              have hr106 := raI (a := 140) e3.2 p2 b105 (Nat.le_of_ble_eq_true rfl) (por (rdI (a := 140) e3.2 p2 b104 (Nat.le_of_ble_eq_true rfl)) (pshl li_1 p3))
              exact q_X4_notOutdone_72 _ _ h2 _ _ ih _ _ p1 _ _ p2 _ _ p3 _ _ hr106
set_option maxHeartbeats 4000000 in
set_option maxRecDepth 100000 in
theorem q_X4_notOutdone_2 (x1 : Int32) (z1 : Int) (p1 : x1 = mJ z1) : ∀ (n : Nat) (x2 : Int32) (z2 : Int) (p2 : x2 = mJ z2) (ζ : ZS) (σ : HS), Rp ζ σ → Sm QI (g_X4_notOutdone_2 z1 n z2 ζ) (f_X4_notOutdone_2 125 x1 n x2 σ) := by
  intro n
  induction n with
  | zero =>
    intro x2 z2 p2 ζ σ hr
    exact sm_none
  | succ n ih =>
    intro x2 z2 p2 ζ σ hr
    rw [g_X4_notOutdone_2.eq_2, f_X4_notOutdone_2.eq_2]
    refine sm_ile li_8 p2 ?_ ?_
    · refine sm_rk (a := 30) (pts (rp_s hr) 125 0 30 rfl) kd_30 ?_
      exact q_X4_notOutdone_94 FU _ _ (hr.1 30 4) _ _ li_0 _ _ hr
    · refine sm_rk (a := 140) (pts (rp_s hr) 125 8 140 rfl) kd_140 ?_
      refine sm_ck p2 ln_140 (fun b101 => ?_)
      have hr102 := raI (a := 140) hr p2 b101 (Nat.le_of_ble_eq_true rfl) li_0
      exact q_X4_notOutdone_17 _ _ p1 _ _ p2 _ _ ih FU _ _ li_0 _ _ hr102
set_option maxHeartbeats 4000000 in
set_option maxRecDepth 100000 in
theorem q_X4_notOutdone (x1 : Int32) (z1 : Int) (p1 : x1 = mJ z1) (ζ : ZS) (σ : HS) (hr : Rp ζ σ) : Sm QI (g_X4_notOutdone z1 ζ) (f_X4_notOutdone 125 x1 σ) := by
    unfold g_X4_notOutdone f_X4_notOutdone
    exact q_X4_notOutdone_2 _ _ p1 FU _ _ li_0 _ _ hr
set_option maxHeartbeats 4000000 in
set_option maxRecDepth 100000 in
theorem q_X5_among (c1 : Nat) (k1 : kd c1 = 18) (x2 : Int32) (z2 : Int) (p2 : x2 = mJ z2) (ζ : ZS) (σ : HS) (hr : Rp ζ σ) : Sm QV (g_X5_among c1 z2 ζ) (f_X5_among 141 c1 x2 σ) := by
    unfold g_X5_among f_X5_among
    have hr101 := rwR (a := 141) (k := 1) (v := some c1) hr rfl
    have hr102 := rwI (a := 141) (k := 2) hr101 p2
    exact sm_rv hr102
set_option maxHeartbeats 4000000 in
set_option maxRecDepth 100000 in
theorem q_X5_pickBehind_30 (rc : Int → Int → Int → Nat → ZS → Option (Int × ZS)) (frc : Nat → Int32 → Int32 → Int32 → Nat → HS → Option (Int32 × HS)) (hrc : ∀ (x1 : Int32) (z1 : Int) (p1 : x1 = mJ z1) (x2 : Int32) (z2 : Int) (p2 : x2 = mJ z2) (x3 : Int32) (z3 : Int) (p3 : x3 = mJ z3) (c4 : Nat) (k4 : kd c4 = 14) (ζ : ZS) (σ : HS), Rp ζ σ → Sm QI (rc z1 z2 z3 c4 ζ) (frc 141 x1 x2 x3 c4 σ)) (xs0 : Int32) (zs0 : Int) (ps0 : xs0 = mJ zs0) (ζ : ZS) (σ : HS) (hr : Rp ζ σ) : Sm QI (g_X5_pickBehind_30 rc zs0 ζ) (f_X5_pickBehind_30 frc xs0 σ) := by
    unfold g_X5_pickBehind_30 f_X5_pickBehind_30
    exact sm_ri ps0 hr
set_option maxHeartbeats 4000000 in
set_option maxRecDepth 100000 in
theorem q_X5_pickBehind (rc : Int → Int → Int → Nat → ZS → Option (Int × ZS)) (frc : Nat → Int32 → Int32 → Int32 → Nat → HS → Option (Int32 × HS)) (hrc : ∀ (x1 : Int32) (z1 : Int) (p1 : x1 = mJ z1) (x2 : Int32) (z2 : Int) (p2 : x2 = mJ z2) (x3 : Int32) (z3 : Int) (p3 : x3 = mJ z3) (c4 : Nat) (k4 : kd c4 = 14) (ζ : ZS) (σ : HS), Rp ζ σ → Sm QI (rc z1 z2 z3 c4 ζ) (frc 141 x1 x2 x3 c4 σ)) (x1 : Int32) (z1 : Int) (p1 : x1 = mJ z1) (x2 : Int32) (z2 : Int) (p2 : x2 = mJ z2) (x3 : Int32) (z3 : Int) (p3 : x3 = mJ z3) (c4 : Nat) (k4 : kd c4 = 14) (ζ : ZS) (σ : HS) (hr : Rp ζ σ) : Sm QI (g_X5_pickBehind rc z1 z2 z3 c4 ζ) (f_X5_pickBehind frc 141 x1 x2 x3 c4 σ) := by
    unfold g_X5_pickBehind f_X5_pickBehind
    refine sm_ieq p3 li_1 ?_ ?_
    · refine sm_rk (a := 72) (pts (rp_s hr) 141 0 72 rfl) kd_72 ?_
      refine sm_ck p1 ln_72 (fun b107 => ?_)
      refine sm_rk (aa17 hr p1 b107) (ak17 b107) ?_
      refine sm_rkd (rp_r hr 141 1) (fun c108 kc108 => ?_)
      refine sm_ck p2 rfl (fun b109 => ?_)
      refine sm_rk (aa18 hr kc108 rfl p2 b109) (ak18 kc108 rfl b109) ?_
      refine sm_bind (q_X1_impliesWith _ (ak17 b107) _ (ak18 kc108 rfl b109) _ k4 _ _ hr) (fun q10 w10 e10 => ?_)
      refine sm_ieq e10.1 li_0 ?_ ?_
      · exact q_X5_pickBehind_30 _ _ hrc _ _ li_m1 _ _ e10.2
      · exact q_X5_pickBehind_30 _ _ hrc _ _ li_0 _ _ e10.2
    · refine sm_rk (a := 72) (pts (rp_s hr) 141 0 72 rfl) kd_72 ?_
      refine sm_ilt (pa p1 li_1) (plen (ln 72)) ?_ ?_
      · refine sm_rk (a := 72) (pts (rp_s hr) 141 0 72 rfl) kd_72 ?_
        refine sm_ck (pa p1 li_1) ln_72 (fun b101 => ?_)
        refine sm_rk (aa17 hr (pa p1 li_1) b101) (ak17 b101) ?_
        refine sm_rk (a := 72) (pts (rp_s hr) 141 0 72 rfl) kd_72 ?_
        refine sm_ck p1 ln_72 (fun b102 => ?_)
        refine sm_rk (aa17 hr p1 b102) (ak17 b102) ?_
        refine sm_rkd (rp_r hr 141 1) (fun c103 kc103 => ?_)
        refine sm_ck p2 rfl (fun b104 => ?_)
        refine sm_rk (aa18 hr kc103 rfl p2 b104) (ak18 kc103 rfl b104) ?_
        refine sm_bind (q_X1_becomeCut _ (ak17 b101) _ (ak17 b102) _ (ak18 kc103 rfl b104) _ _ hr) (fun q5 w5 e5 => ?_)
        refine sm_bind (hrc _ _ (pa p1 li_1) _ _ (pa p2 li_1) _ _ (ps p3 li_1) _ k4 _ _ e5) (fun q6 w6 e6 => ?_)
        exact sm_ri e6.1 e6.2
      · exact sm_ri li_m1 hr
set_option maxHeartbeats 4000000 in
set_option maxRecDepth 100000 in
theorem q_X5_pick_75 (rc : Int → Int → Int → Nat → ZS → Option (Int × ZS)) (frc : Nat → Int32 → Int32 → Int32 → Nat → HS → Option (Int32 × HS)) (hrc : ∀ (x1 : Int32) (z1 : Int) (p1 : x1 = mJ z1) (x2 : Int32) (z2 : Int) (p2 : x2 = mJ z2) (x3 : Int32) (z3 : Int) (p3 : x3 = mJ z3) (c4 : Nat) (k4 : kd c4 = 14) (ζ : ZS) (σ : HS), Rp ζ σ → Sm QI (rc z1 z2 z3 c4 ζ) (frc 141 x1 x2 x3 c4 σ)) (r27 : Int → ZS → Option (Int × ZS)) (f27 : Int32 → HS → Option (Int32 × HS)) (h27 : ∀ (x5 : Int32) (z5 : Int) (p5 : x5 = mJ z5) (ζ : ZS) (σ : HS), Rp ζ σ → Sm QI (r27 z5 ζ) (f27 x5 σ)) (x1 : Int32) (z1 : Int) (p1 : x1 = mJ z1) (x3 : Int32) (z3 : Int) (p3 : x3 = mJ z3) (c4 : Nat) (k4 : kd c4 = 14) (x5 : Int32) (z5 : Int) (p5 : x5 = mJ z5) (ζ : ZS) (σ : HS) (hr : Rp ζ σ) : Sm QI (g_X5_pick_75 rc r27 z1 z3 c4 z5 ζ) (f_X5_pick_75 frc f27 141 x1 x3 c4 x5 σ) := by
    unfold g_X5_pick_75 f_X5_pick_75
    exact h27 _ _ (pa p5 li_1) _ _ hr
set_option maxHeartbeats 4000000 in
set_option maxRecDepth 100000 in
theorem q_X5_pick_27 (rc : Int → Int → Int → Nat → ZS → Option (Int × ZS)) (frc : Nat → Int32 → Int32 → Int32 → Nat → HS → Option (Int32 × HS)) (hrc : ∀ (x1 : Int32) (z1 : Int) (p1 : x1 = mJ z1) (x2 : Int32) (z2 : Int) (p2 : x2 = mJ z2) (x3 : Int32) (z3 : Int) (p3 : x3 = mJ z3) (c4 : Nat) (k4 : kd c4 = 14) (ζ : ZS) (σ : HS), Rp ζ σ → Sm QI (rc z1 z2 z3 c4 ζ) (frc 141 x1 x2 x3 c4 σ)) (x1 : Int32) (z1 : Int) (p1 : x1 = mJ z1) (x3 : Int32) (z3 : Int) (p3 : x3 = mJ z3) (c4 : Nat) (k4 : kd c4 = 14) : ∀ (n : Nat) (x5 : Int32) (z5 : Int) (p5 : x5 = mJ z5) (ζ : ZS) (σ : HS), Rp ζ σ → Sm QI (g_X5_pick_27 rc z1 z3 c4 n z5 ζ) (f_X5_pick_27 frc 141 x1 x3 c4 n x5 σ) := by
  intro n
  induction n with
  | zero =>
    intro x5 z5 p5 ζ σ hr
    exact sm_none
  | succ n ih =>
    intro x5 z5 p5 ζ σ hr
    rw [g_X5_pick_27.eq_2, f_X5_pick_27.eq_2]
    refine sm_rkd (rp_r hr 141 1) (fun c101 kc101 => ?_)
    refine sm_ile (plen (ln c101)) p5 ?_ ?_
    · exact sm_ri li_m1 hr
    · refine sm_ieq (pand (hr.1 141 2) (pshl li_1 p5)) li_0 ?_ ?_
      · exact q_X5_pick_75 _ _ hrc _ _ ih _ _ p1 _ _ p3 _ k4 _ _ p5 _ _ hr
      · refine sm_bind (q_X5_pickBehind _ _ hrc _ _ p1 _ _ p5 _ _ p3 _ k4 _ _ hr) (fun q2 w2 e2 => ?_)
        refine sm_ieq e2.1 li_m1 ?_ ?_
        · exact q_X5_pick_75 _ _ hrc _ _ ih _ _ p1 _ _ p3 _ k4 _ _ p5 _ _ e2.2
        · exact sm_ri (por e2.1 (pshl li_1 p5)) e2.2
set_option maxHeartbeats 4000000 in
set_option maxRecDepth 100000 in
theorem q_X5_pick_23 (rc : Int → Int → Int → Nat → ZS → Option (Int × ZS)) (frc : Nat → Int32 → Int32 → Int32 → Nat → HS → Option (Int32 × HS)) (hrc : ∀ (x1 : Int32) (z1 : Int) (p1 : x1 = mJ z1) (x2 : Int32) (z2 : Int) (p2 : x2 = mJ z2) (x3 : Int32) (z3 : Int) (p3 : x3 = mJ z3) (c4 : Nat) (k4 : kd c4 = 14) (ζ : ZS) (σ : HS), Rp ζ σ → Sm QI (rc z1 z2 z3 c4 ζ) (frc 141 x1 x2 x3 c4 σ)) (xs0 : Int32) (zs0 : Int) (ps0 : xs0 = mJ zs0) (ζ : ZS) (σ : HS) (hr : Rp ζ σ) : Sm QI (g_X5_pick_23 rc zs0 ζ) (f_X5_pick_23 frc xs0 σ) := by
    unfold g_X5_pick_23 f_X5_pick_23
    exact sm_ri ps0 hr
set_option maxHeartbeats 4000000 in
set_option maxRecDepth 100000 in
theorem q_X5_pick_0 (rc : Int → Int → Int → Nat → ZS → Option (Int × ZS)) (frc : Nat → Int32 → Int32 → Int32 → Nat → HS → Option (Int32 × HS)) (hrc : ∀ (x1 : Int32) (z1 : Int) (p1 : x1 = mJ z1) (x2 : Int32) (z2 : Int) (p2 : x2 = mJ z2) (x3 : Int32) (z3 : Int) (p3 : x3 = mJ z3) (c4 : Nat) (k4 : kd c4 = 14) (ζ : ZS) (σ : HS), Rp ζ σ → Sm QI (rc z1 z2 z3 c4 ζ) (frc 141 x1 x2 x3 c4 σ)) (x1 : Int32) (z1 : Int) (p1 : x1 = mJ z1) (x2 : Int32) (z2 : Int) (p2 : x2 = mJ z2) (x3 : Int32) (z3 : Int) (p3 : x3 = mJ z3) (c4 : Nat) (k4 : kd c4 = 14) (ζ : ZS) (σ : HS) (hr : Rp ζ σ) : Sm QI (g_X5_pick_0 rc z1 z2 z3 c4 ζ) (f_X5_pick_0 frc 141 x1 x2 x3 c4 σ) := by
    unfold g_X5_pick_0 f_X5_pick_0
    refine sm_ilt li_0 p3 ?_ ?_
    · exact q_X5_pick_27 _ _ hrc _ _ p1 _ _ p3 _ k4 FU _ _ p2 _ _ hr
    · refine sm_rk (a := 72) (pts (rp_s hr) 141 0 72 rfl) kd_72 ?_
      refine sm_ck p1 ln_72 (fun b101 => ?_)
      refine sm_rk (aa17 hr p1 b101) (ak17 b101) ?_
      refine sm_bind (q_X1_keeps _ (ak17 b101) _ k4 _ _ hr) (fun q2 w2 e2 => ?_)
      refine sm_ieq e2.1 li_0 ?_ ?_
      · exact q_X5_pick_23 _ _ hrc _ _ li_m1 _ _ e2.2
      · exact q_X5_pick_23 _ _ hrc _ _ li_0 _ _ e2.2
theorem q_X5_pick : ∀ (d : Nat) (x1 : Int32) (z1 : Int) (p1 : x1 = mJ z1) (x2 : Int32) (z2 : Int) (p2 : x2 = mJ z2) (x3 : Int32) (z3 : Int) (p3 : x3 = mJ z3) (c4 : Nat) (k4 : kd c4 = 14) (ζ : ZS) (σ : HS), Rp ζ σ → Sm QI (g_X5_pick d z1 z2 z3 c4 ζ) (f_X5_pick d 141 x1 x2 x3 c4 σ) := by
  intro d
  induction d with
  | zero => intro x1 z1 p1 x2 z2 p2 x3 z3 p3 c4 k4 ζ σ hr; exact sm_none
  | succ d ih =>
    intro x1 z1 p1 x2 z2 p2 x3 z3 p3 c4 k4 ζ σ hr
    exact q_X5_pick_0 _ _ ih x1 z1 p1 x2 z2 p2 x3 z3 p3 c4 k4 _ _ hr
set_option maxHeartbeats 4000000 in
set_option maxRecDepth 100000 in
theorem q_X5_fewest_13 (x2 : Int32) (z2 : Int) (p2 : x2 = mJ z2) (c3 : Nat) (k3 : kd c3 = 14) : ∀ (n : Nat) (x4 : Int32) (z4 : Int) (p4 : x4 = mJ z4) (ζ : ZS) (σ : HS), Rp ζ σ → Sm QI (g_X5_fewest_13 z2 c3 n z4 ζ) (f_X5_fewest_13 141 x2 c3 n x4 σ) := by
  intro n
  induction n with
  | zero =>
    intro x4 z4 p4 ζ σ hr
    exact sm_none
  | succ n ih =>
    intro x4 z4 p4 ζ σ hr
    rw [g_X5_fewest_13.eq_2, f_X5_fewest_13.eq_2]
    refine sm_ilt p2 p4 ?_ ?_
    · exact sm_ri li_m1 hr
    · refine sm_bind (q_X5_pick DEP _ _ li_0 _ _ li_0 _ _ p4 _ k3 _ _ hr) (fun q1 w1 e1 => ?_)
      refine sm_ieq e1.1 li_m1 ?_ ?_
      · exact ih _ _ (pa p4 li_1) _ _ e1.2
      · exact sm_ri e1.1 e1.2
set_option maxHeartbeats 4000000 in
set_option maxRecDepth 100000 in
theorem q_X5_fewest (c1 : Nat) (k1 : kd c1 = 1) (x2 : Int32) (z2 : Int) (p2 : x2 = mJ z2) (c3 : Nat) (k3 : kd c3 = 14) (ζ : ZS) (σ : HS) (hr : Rp ζ σ) : Sm QI (g_X5_fewest c1 z2 c3 ζ) (f_X5_fewest 141 c1 x2 c3 σ) := by
    unfold g_X5_fewest f_X5_fewest
    refine sm_rk (a := 72) (pts (rp_s hr) 141 0 72 rfl) kd_72 ?_
    refine sm_ck li_0 ln_72 (fun b101 => ?_)
    refine sm_rk (aa17 hr li_0 b101) (ak17 b101) ?_
    refine sm_bind (q_X1_become _ (ak17 b101) _ k1 _ _ hr) (fun q2 w2 e2 => ?_)
    exact q_X5_fewest_13 _ _ p2 _ k3 FU _ _ li_0 _ _ e2
set_option maxHeartbeats 4000000 in
set_option maxRecDepth 100000 in
theorem q_X8_kindOf_39 (xs0 : Int32) (zs0 : Int) (ps0 : xs0 = mJ zs0) (ζ : ZS) (σ : HS) (hr : Rp ζ σ) : Sm QI (g_X8_kindOf_39 zs0 ζ) (f_X8_kindOf_39 xs0 σ) := by
    unfold g_X8_kindOf_39 f_X8_kindOf_39
    exact sm_ri ps0 hr
set_option maxHeartbeats 4000000 in
set_option maxRecDepth 100000 in
theorem q_X8_kindOf_28 (x0 : Int32) (z0 : Int) (p0 : x0 = mJ z0) (ζ : ZS) (σ : HS) (hr : Rp ζ σ) : Sm QI (g_X8_kindOf_28 z0 ζ) (f_X8_kindOf_28 x0 σ) := by
    unfold g_X8_kindOf_28 f_X8_kindOf_28
    refine sm_ieq p0 li_59 ?_ ?_
    · exact q_X8_kindOf_39 _ _ li_3 _ _ hr
    · exact q_X8_kindOf_39 _ _ li_4 _ _ hr
set_option maxHeartbeats 4000000 in
set_option maxRecDepth 100000 in
theorem q_X8_kindOf_14 (x0 : Int32) (z0 : Int) (p0 : x0 = mJ z0) (ζ : ZS) (σ : HS) (hr : Rp ζ σ) : Sm QI (g_X8_kindOf_14 z0 ζ) (f_X8_kindOf_14 x0 σ) := by
    unfold g_X8_kindOf_14 f_X8_kindOf_14
    refine sm_ilt p0 li_48 ?_ ?_
    · exact q_X8_kindOf_28 _ _ p0 _ _ hr
    · refine sm_ilt li_57 p0 ?_ ?_
      · exact q_X8_kindOf_28 _ _ p0 _ _ hr
      · exact sm_ri li_2 hr
set_option maxHeartbeats 4000000 in
set_option maxRecDepth 100000 in
theorem q_X8_kindOf (x0 : Int32) (z0 : Int) (p0 : x0 = mJ z0) (ζ : ZS) (σ : HS) (hr : Rp ζ σ) : Sm QI (g_X8_kindOf z0 ζ) (f_X8_kindOf x0 σ) := by
    unfold g_X8_kindOf f_X8_kindOf
    refine sm_ilt p0 li_97 ?_ ?_
    · exact q_X8_kindOf_14 _ _ p0 _ _ hr
    · refine sm_ilt li_122 p0 ?_ ?_
      · exact q_X8_kindOf_14 _ _ p0 _ _ hr
      · exact sm_ri li_1 hr
set_option maxHeartbeats 4000000 in
set_option maxRecDepth 100000 in
theorem q_X8_step_212  (ζ : ZS) (σ : HS) (hr : Rp ζ σ) : Sm QV (g_X8_step_212 ζ) (f_X8_step_212 σ) := by
    unfold g_X8_step_212 f_X8_step_212
    exact sm_rv hr
set_option maxHeartbeats 4000000 in
set_option maxRecDepth 100000 in
theorem q_X8_step_204 (xs0 : Int32) (zs0 : Int) (ps0 : xs0 = mJ zs0) (xs1 : Int32) (zs1 : Int) (ps1 : xs1 = mJ zs1) (ζ : ZS) (σ : HS) (hr : Rp ζ σ) : Sm QV (g_X8_step_204 zs0 zs1 ζ) (f_X8_step_204 27 xs0 xs1 σ) := by
    unfold g_X8_step_204 f_X8_step_204
    refine sm_ile ps1 ps0 ?_ ?_
    · exact q_X8_step_212 _ _ hr
    · have hr101 := rwI (a := 27) (k := 2) hr li_4
      exact q_X8_step_212 _ _ hr101
set_option maxHeartbeats 4000000 in
set_option maxRecDepth 100000 in
theorem q_X8_step_177 (x1 : Int32) (z1 : Int) (p1 : x1 = mJ z1) (ζ : ZS) (σ : HS) (hr : Rp ζ σ) : Sm QV (g_X8_step_177 z1 ζ) (f_X8_step_177 27 x1 σ) := by
    unfold g_X8_step_177 f_X8_step_177
    refine sm_ieq p1 li_0 ?_ ?_
    · exact q_X8_step_212 _ _ hr
    · refine sm_ieq (hr.1 27 2) li_1 ?_ ?_
      · exact q_X8_step_204 _ _ li_8 _ _ (ps (hr.1 27 4) (hr.1 27 3)) _ _ hr
      · exact q_X8_step_204 _ _ li_3 _ _ (ps (hr.1 27 4) (hr.1 27 3)) _ _ hr
set_option maxHeartbeats 4000000 in
set_option maxRecDepth 100000 in
theorem q_X8_step_130 (x1 : Int32) (z1 : Int) (p1 : x1 = mJ z1) : ∀ (n : Nat)  (ζ : ZS) (σ : HS), Rp ζ σ → Sm QV (g_X8_step_130 z1 n ζ) (f_X8_step_130 27 x1 n σ) := by
  intro n
  induction n with
  | zero =>
    intro ζ σ hr
    exact sm_none
  | succ n ih =>
    intro ζ σ hr
    rw [g_X8_step_130.eq_2, f_X8_step_130.eq_2]
    refine sm_ieq p1 li_0 ?_ ?_
    · exact q_X8_step_177 _ _ p1 _ _ hr
    · refine sm_ile (hr.1 27 1) (hr.1 27 4) ?_ ?_
      · exact q_X8_step_177 _ _ p1 _ _ hr
      · refine sm_rk (a := 28) (pts (rp_s hr) 27 0 28 rfl) kd_28 ?_
        refine sm_ck (hr.1 27 4) ln_28 (fun b101 => ?_)
        refine sm_bind (q_X8_kindOf _ _ (rdI (a := 28) hr (hr.1 27 4) b101 (Nat.le_of_ble_eq_true rfl)) _ _ hr) (fun q2 w2 e2 => ?_)
        refine sm_ieq e2.1 (e2.2.1 27 2) ?_ ?_
        · have hr103 := rwI (a := 27) (k := 4) e2.2 (pa (e2.2.1 27 4) li_1)
          exact ih _ _ hr103
        · exact q_X8_step_177 _ _ p1 _ _ e2.2
set_option maxHeartbeats 4000000 in
set_option maxRecDepth 100000 in
theorem q_X8_step_129 (xs0 : Int32) (zs0 : Int) (ps0 : xs0 = mJ zs0) (ζ : ZS) (σ : HS) (hr : Rp ζ σ) : Sm QV (g_X8_step_129 zs0 ζ) (f_X8_step_129 27 xs0 σ) := by
    unfold g_X8_step_129 f_X8_step_129
    exact q_X8_step_130 _ _ ps0 FU _ _ hr
set_option maxHeartbeats 4000000 in
set_option maxRecDepth 100000 in
theorem q_X8_step_124  (ζ : ZS) (σ : HS) (hr : Rp ζ σ) : Sm QV (g_X8_step_124 ζ) (f_X8_step_124 27 σ) := by
    unfold g_X8_step_124 f_X8_step_124
    exact q_X8_step_129 _ _ li_1 _ _ hr
set_option maxHeartbeats 4000000 in
set_option maxRecDepth 100000 in
theorem q_X8_step_88 (xs0 : Int32) (zs0 : Int) (ps0 : xs0 = mJ zs0) (ζ : ZS) (σ : HS) (hr : Rp ζ σ) : Sm QV (g_X8_step_88 zs0 ζ) (f_X8_step_88 27 xs0 27 σ) := by
    unfold g_X8_step_88 f_X8_step_88
    have hr101 := rwI (a := 27) (k := 2) hr ps0
    refine sm_bind (q_J9_min_7cf53 _ _ (pa (hr101.1 27 3) li_1) _ _ (hr101.1 27 1) _ _ hr101) (fun q2 w2 e2 => ?_)
    have hr103 := rwI (a := 27) (k := 4) e2.2 e2.1
    refine sm_ieq (hr103.1 27 2) li_1 ?_ ?_
    · exact q_X8_step_124 _ _ hr103
    · refine sm_ieq (hr103.1 27 2) li_2 ?_ ?_
      · exact q_X8_step_124 _ _ hr103
      · exact q_X8_step_129 _ _ li_0 _ _ hr103
set_option maxHeartbeats 4000000 in
set_option maxRecDepth 100000 in
theorem q_X8_step_60  (ζ : ZS) (σ : HS) (hr : Rp ζ σ) : Sm QV (g_X8_step_60 ζ) (f_X8_step_60 27 σ) := by
    unfold g_X8_step_60 f_X8_step_60
    refine sm_ile (hr.1 27 1) (hr.1 27 3) ?_ ?_
    · exact q_X8_step_88 _ _ li_0 _ _ hr
    · refine sm_rk (a := 28) (pts (rp_s hr) 27 0 28 rfl) kd_28 ?_
      refine sm_ck (hr.1 27 3) ln_28 (fun b101 => ?_)
      refine sm_bind (q_X8_kindOf _ _ (rdI (a := 28) hr (hr.1 27 3) b101 (Nat.le_of_ble_eq_true rfl)) _ _ hr) (fun q2 w2 e2 => ?_)
      exact q_X8_step_88 _ _ e2.1 _ _ e2.2
set_option maxHeartbeats 4000000 in
set_option maxRecDepth 100000 in
theorem q_X8_step_47 (r8 : ZS → Option ZS) (f8 : HS → Option HS) (h8 : ∀  (ζ : ZS) (σ : HS), Rp ζ σ → Sm QV (r8 ζ) (f8 σ))  (ζ : ZS) (σ : HS) (hr : Rp ζ σ) : Sm QV (g_X8_step_47 r8 ζ) (f_X8_step_47 f8 27 σ) := by
    unfold g_X8_step_47 f_X8_step_47
    have hr101 := rwI (a := 27) (k := 3) hr (pa (hr.1 27 3) li_1)
    exact h8 _ _ hr101
set_option maxHeartbeats 4000000 in
set_option maxRecDepth 100000 in
theorem q_X8_step_8  : ∀ (n : Nat)  (ζ : ZS) (σ : HS), Rp ζ σ → Sm QV (g_X8_step_8 n ζ) (f_X8_step_8 27 n σ) := by
  intro n
  induction n with
  | zero =>
    intro ζ σ hr
    exact sm_none
  | succ n ih =>
    intro ζ σ hr
    rw [g_X8_step_8.eq_2, f_X8_step_8.eq_2]
    refine sm_ile (hr.1 27 1) (hr.1 27 3) ?_ ?_
    · exact q_X8_step_60 _ _ hr
    · refine sm_rk (a := 28) (pts (rp_s hr) 27 0 28 rfl) kd_28 ?_
      refine sm_ck (hr.1 27 3) ln_28 (fun b101 => ?_)
      refine sm_ieq (rdI (a := 28) hr (hr.1 27 3) b101 (Nat.le_of_ble_eq_true rfl)) li_10 ?_ ?_
      · exact q_X8_step_47 _ _ ih _ _ hr
      · refine sm_rk (a := 28) (pts (rp_s hr) 27 0 28 rfl) kd_28 ?_
        refine sm_ck (hr.1 27 3) ln_28 (fun b102 => ?_)
        refine sm_ieq (rdI (a := 28) hr (hr.1 27 3) b102 (Nat.le_of_ble_eq_true rfl)) li_32 ?_ ?_
        · exact q_X8_step_47 _ _ ih _ _ hr
        · exact q_X8_step_60 _ _ hr
set_option maxHeartbeats 4000000 in
set_option maxRecDepth 100000 in
theorem q_X8_step  (ζ : ZS) (σ : HS) (hr : Rp ζ σ) : Sm QV (g_X8_step ζ) (f_X8_step 27 σ) := by
    unfold g_X8_step f_X8_step
    have hr101 := rwI (a := 27) (k := 3) hr (hr.1 27 4)
    exact q_X8_step_8 FU _ _ hr101
set_option maxHeartbeats 4000000 in
set_option maxRecDepth 100000 in
theorem q_X8_rewind  (ζ : ZS) (σ : HS) (hr : Rp ζ σ) : Sm QV (g_X8_rewind ζ) (f_X8_rewind 27 σ) := by
    unfold g_X8_rewind f_X8_rewind
    have hr101 := rwI (a := 27) (k := 4) hr li_0
    refine sm_bind (q_X8_step _ _ hr101) (fun q2 w2 e2 => ?_)
    exact sm_rv e2
set_option maxHeartbeats 4000000 in
set_option maxRecDepth 100000 in
theorem q_X8_number_44 (x1 : Int32) (z1 : Int) (p1 : x1 = mJ z1) (ζ : ZS) (σ : HS) (hr : Rp ζ σ) : Sm QI (g_X8_number_44 z1 ζ) (f_X8_number_44 x1 σ) := by
    unfold g_X8_number_44 f_X8_number_44
    exact sm_ri p1 hr
set_option maxHeartbeats 4000000 in
set_option maxRecDepth 100000 in
theorem q_X8_number_7  : ∀ (n : Nat) (x1 : Int32) (z1 : Int) (p1 : x1 = mJ z1) (x2 : Int32) (z2 : Int) (p2 : x2 = mJ z2) (ζ : ZS) (σ : HS), Rp ζ σ → Sm QI (g_X8_number_7 n z1 z2 ζ) (f_X8_number_7 27 n x1 x2 σ) := by
  intro n
  induction n with
  | zero =>
    intro x1 z1 p1 x2 z2 p2 ζ σ hr
    exact sm_none
  | succ n ih =>
    intro x1 z1 p1 x2 z2 p2 ζ σ hr
    rw [g_X8_number_7.eq_2, f_X8_number_7.eq_2]
    refine sm_ile (hr.1 27 4) p2 ?_ ?_
    · exact q_X8_number_44 _ _ p1 _ _ hr
    · refine sm_ieq (hr.1 27 2) li_2 ?_ ?_
      · refine sm_rk (a := 28) (pts (rp_s hr) 27 0 28 rfl) kd_28 ?_
        refine sm_ck p2 ln_28 (fun b101 => ?_)
        exact ih _ _ (ps (pa (pm p1 li_10) (rdI (a := 28) hr p2 b101 (Nat.le_of_ble_eq_true rfl))) li_48) _ _ (pa p2 li_1) _ _ hr
      · exact q_X8_number_44 _ _ p1 _ _ hr
set_option maxHeartbeats 4000000 in
set_option maxRecDepth 100000 in
theorem q_X8_number  (ζ : ZS) (σ : HS) (hr : Rp ζ σ) : Sm QI (g_X8_number ζ) (f_X8_number 27 σ) := by
    unfold g_X8_number f_X8_number
    exact q_X8_number_7 FU _ _ li_0 _ _ (hr.1 27 3) _ _ hr
set_option maxHeartbeats 4000000 in
set_option maxRecDepth 100000 in
theorem q_X6_wrong (x1 : Int32) (z1 : Int) (p1 : x1 = mJ z1) (ζ : ZS) (σ : HS) (hr : Rp ζ σ) : Sm QV (g_X6_wrong z1 ζ) (f_X6_wrong 29 x1 σ) := by
    unfold g_X6_wrong f_X6_wrong
    refine sm_rk (a := 27) (pts (rp_s hr) 29 0 27 rfl) kd_27 ?_
    have hr101 := rwI (a := 29) (k := 2) hr (pa p1 (pm li_16 (hr.1 27 3)))
    exact sm_rv hr101
set_option maxHeartbeats 4000000 in
set_option maxRecDepth 100000 in
theorem q_X6_takeNumber_81  (ζ : ZS) (σ : HS) (hr : Rp ζ σ) : Sm QI (g_X6_takeNumber_81 ζ) (f_X6_takeNumber_81 σ) := by
    unfold g_X6_takeNumber_81 f_X6_takeNumber_81
    exact sm_ri li_m1 hr
set_option maxHeartbeats 4000000 in
set_option maxRecDepth 100000 in
theorem q_X6_takeNumber_49  (ζ : ZS) (σ : HS) (hr : Rp ζ σ) : Sm QI (g_X6_takeNumber_49 ζ) (f_X6_takeNumber_49 29 σ) := by
    unfold g_X6_takeNumber_49 f_X6_takeNumber_49
    refine sm_bind (q_X6_wrong _ _ li_4 _ _ hr) (fun q1 w1 e1 => ?_)
    exact q_X6_takeNumber_81 _ _ e1
set_option maxHeartbeats 4000000 in
set_option maxRecDepth 100000 in
theorem q_X6_takeNumber (x1 : Int32) (z1 : Int) (p1 : x1 = mJ z1) (x2 : Int32) (z2 : Int) (p2 : x2 = mJ z2) (x3 : Int32) (z3 : Int) (p3 : x3 = mJ z3) (ζ : ZS) (σ : HS) (hr : Rp ζ σ) : Sm QI (g_X6_takeNumber z1 z2 z3 ζ) (f_X6_takeNumber 29 x1 x2 x3 σ) := by
    unfold g_X6_takeNumber f_X6_takeNumber
    refine sm_ieq (hr.1 29 2) li_0 ?_ ?_
    · refine sm_rk (a := 27) (pts (rp_s hr) 29 0 27 rfl) kd_27 ?_
      refine sm_bind (q_X8_number _ _ hr) (fun q1 w1 e1 => ?_)
      refine sm_rk (a := 27) (pts (rp_s e1.2) 29 0 27 rfl) kd_27 ?_
      refine sm_ieq (e1.2.1 27 2) li_2 ?_ ?_
      · refine sm_ilt e1.1 p1 ?_ ?_
        · exact q_X6_takeNumber_49 _ _ e1.2
        · refine sm_ile e1.1 p2 ?_ ?_
          · refine sm_ieq e1.1 p3 ?_ ?_
            · refine sm_bind (q_X6_wrong _ _ li_3 _ _ e1.2) (fun q3 w3 e3 => ?_)
              exact q_X6_takeNumber_81 _ _ e3
            · refine sm_rk (a := 27) (pts (rp_s e1.2) 29 0 27 rfl) kd_27 ?_
              refine sm_bind (q_X8_step _ _ e1.2) (fun q2 w2 e2 => ?_)
              exact sm_ri e1.1 e2
          · exact q_X6_takeNumber_49 _ _ e1.2
      · refine sm_bind (q_X6_wrong _ _ li_1 _ _ e1.2) (fun q4 w4 e4 => ?_)
        exact q_X6_takeNumber_81 _ _ e4
    · exact sm_ri li_m1 hr
set_option maxHeartbeats 4000000 in
set_option maxRecDepth 100000 in
theorem q_X6_takeFreshMeasure_46  (ζ : ZS) (σ : HS) (hr : Rp ζ σ) : Sm QI (g_X6_takeFreshMeasure_46 ζ) (f_X6_takeFreshMeasure_46 29 σ) := by
    unfold g_X6_takeFreshMeasure_46 f_X6_takeFreshMeasure_46
    refine sm_bind (q_X6_takeNumber _ _ li_0 _ _ (ps (hr.1 29 1) li_1) _ _ li_m1 _ _ hr) (fun q1 w1 e1 => ?_)
    exact sm_ri e1.1 e1.2
set_option maxHeartbeats 4000000 in
set_option maxRecDepth 100000 in
theorem q_X6_takeFreshMeasure (c1 : Nat) (k1 : kd c1 = 14) (ζ : ZS) (σ : HS) (hr : Rp ζ σ) : Sm QI (g_X6_takeFreshMeasure c1 ζ) (f_X6_takeFreshMeasure 29 c1 σ) := by
    unfold g_X6_takeFreshMeasure f_X6_takeFreshMeasure
    refine sm_rk (a := 27) (pts (rp_s hr) 29 0 27 rfl) kd_27 ?_
    refine sm_bind (q_X8_number _ _ hr) (fun q1 w1 e1 => ?_)
    refine sm_ieq (e1.2.1 29 2) li_0 ?_ ?_
    · refine sm_rk (a := 27) (pts (rp_s e1.2) 29 0 27 rfl) kd_27 ?_
      refine sm_ieq (e1.2.1 27 2) li_2 ?_ ?_
      · refine sm_ile (e1.2.1 29 1) e1.1 ?_ ?_
        · exact q_X6_takeFreshMeasure_46 _ _ e1.2
        · refine sm_ck e1.1 rfl (fun b102 => ?_)
          refine sm_ieq (rdI (a := c1) e1.2 e1.1 b102 (ln_le _)) li_m1 ?_ ?_
          · exact q_X6_takeFreshMeasure_46 _ _ e1.2
          · refine sm_bind (q_X6_wrong _ _ li_3 _ _ e1.2) (fun q3 w3 e3 => ?_)
            exact q_X6_takeFreshMeasure_46 _ _ e3
      · exact q_X6_takeFreshMeasure_46 _ _ e1.2
    · exact q_X6_takeFreshMeasure_46 _ _ e1.2
set_option maxHeartbeats 4000000 in
set_option maxRecDepth 100000 in
theorem q_X6_readLess_30  (ζ : ZS) (σ : HS) (hr : Rp ζ σ) : Sm QV (g_X6_readLess_30 ζ) (f_X6_readLess_30 σ) := by
    unfold g_X6_readLess_30 f_X6_readLess_30
    exact sm_rv hr
set_option maxHeartbeats 4000000 in
set_option maxRecDepth 100000 in
theorem q_X6_readLess (c1 : Nat) (k1 : kd c1 = 0) (ζ : ZS) (σ : HS) (hr : Rp ζ σ) : Sm QV (g_X6_readLess c1 ζ) (f_X6_readLess 29 c1 σ) := by
    unfold g_X6_readLess f_X6_readLess
    refine sm_rk (a := 27) (pts (rp_s hr) 29 0 27 rfl) kd_27 ?_
    refine sm_bind (q_X8_step _ _ hr) (fun q1 w1 e1 => ?_)
    refine sm_rk (pt0_k (rp_s e1) k1 0 1 (by decide) rfl) (k0_k k1 1 (by decide) (by decide)) ?_
    refine sm_bind (q_X6_takeFreshMeasure _ (k0_k k1 1 (by decide) (by decide)) _ _ e1) (fun q2 w2 e2 => ?_)
    refine sm_ieq (e2.2.1 29 2) li_0 ?_ ?_
    · refine sm_rk (pt0_k (rp_s e2.2) k1 0 1 (by decide) rfl) (k0_k k1 1 (by decide) (by decide)) ?_
      refine sm_ck e2.1 (l0_k k1 1 (by decide) (by decide)) (fun b103 => ?_)
      have hr104 := raI (a := c1 + 1) e2.2 e2.1 b103 (Nat.le_of_ble_eq_true rfl) li_1
      exact q_X6_readLess_30 _ _ hr104
    · exact q_X6_readLess_30 _ _ e2.2
set_option maxHeartbeats 4000000 in
set_option maxRecDepth 100000 in
theorem q_X6_readLimit_33  (ζ : ZS) (σ : HS) (hr : Rp ζ σ) : Sm QV (g_X6_readLimit_33 ζ) (f_X6_readLimit_33 σ) := by
    unfold g_X6_readLimit_33 f_X6_readLimit_33
    exact sm_rv hr
set_option maxHeartbeats 4000000 in
set_option maxRecDepth 100000 in
theorem q_X6_readLimit (c1 : Nat) (k1 : kd c1 = 14) (ζ : ZS) (σ : HS) (hr : Rp ζ σ) : Sm QV (g_X6_readLimit c1 ζ) (f_X6_readLimit 29 c1 σ) := by
    unfold g_X6_readLimit f_X6_readLimit
    refine sm_rk (a := 27) (pts (rp_s hr) 29 0 27 rfl) kd_27 ?_
    refine sm_bind (q_X8_step _ _ hr) (fun q1 w1 e1 => ?_)
    refine sm_bind (q_X6_takeFreshMeasure _ k1 _ _ e1) (fun q2 w2 e2 => ?_)
    refine sm_bind (q_X6_takeNumber _ _ li_0 _ _ li_100 _ _ li_m1 _ _ e2.2) (fun q3 w3 e3 => ?_)
    refine sm_ieq (e3.2.1 29 2) li_0 ?_ ?_
    · refine sm_ck e2.1 rfl (fun b104 => ?_)
      have hr105 := raI (a := c1) e3.2 e2.1 b104 (ln_le _) e3.1
      exact q_X6_readLimit_33 _ _ hr105
    · exact q_X6_readLimit_33 _ _ e3.2
set_option maxHeartbeats 4000000 in
set_option maxRecDepth 100000 in
theorem q_X8_person_32  (ζ : ZS) (σ : HS) (hr : Rp ζ σ) : Sm QI (g_X8_person_32 ζ) (f_X8_person_32 σ) := by
    unfold g_X8_person_32 f_X8_person_32
    exact sm_ri li_m1 hr
set_option maxHeartbeats 4000000 in
set_option maxRecDepth 100000 in
theorem q_X8_person_58 (xs0 : Int32) (zs0 : Int) (ps0 : xs0 = mJ zs0) (ζ : ZS) (σ : HS) (hr : Rp ζ σ) : Sm QI (g_X8_person_58 zs0 ζ) (f_X8_person_58 xs0 σ) := by
    unfold g_X8_person_58 f_X8_person_58
    exact sm_ri ps0 hr
set_option maxHeartbeats 4000000 in
set_option maxRecDepth 100000 in
theorem q_X8_person  (ζ : ZS) (σ : HS) (hr : Rp ζ σ) : Sm QI (g_X8_person ζ) (f_X8_person 27 σ) := by
    unfold g_X8_person f_X8_person
    refine sm_ieq (hr.1 27 2) li_1 ?_ ?_
    · refine sm_ieq (ps (hr.1 27 4) (hr.1 27 3)) li_1 ?_ ?_
      · refine sm_ilt (hr.1 27 3) (hr.1 27 1) ?_ ?_
        · refine sm_rk (a := 28) (pts (rp_s hr) 27 0 28 rfl) kd_28 ?_
          refine sm_ck (hr.1 27 3) ln_28 (fun b101 => ?_)
          refine sm_ile li_8 (ps (rdI (a := 28) hr (hr.1 27 3) b101 (Nat.le_of_ble_eq_true rfl)) li_97) ?_ ?_
          · exact q_X8_person_58 _ _ li_m1 _ _ hr
          · exact q_X8_person_58 _ _ (ps (rdI (a := 28) hr (hr.1 27 3) b101 (Nat.le_of_ble_eq_true rfl)) li_97) _ _ hr
        · exact q_X8_person_32 _ _ hr
      · exact q_X8_person_32 _ _ hr
    · exact q_X8_person_32 _ _ hr
set_option maxHeartbeats 4000000 in
set_option maxRecDepth 100000 in
theorem q_X6_readPair_52  (ζ : ZS) (σ : HS) (hr : Rp ζ σ) : Sm QV (g_X6_readPair_52 ζ) (f_X6_readPair_52 σ) := by
    unfold g_X6_readPair_52 f_X6_readPair_52
    exact sm_rv hr
set_option maxHeartbeats 4000000 in
set_option maxRecDepth 100000 in
theorem q_X6_readPair (c1 : Nat) (k1 : kd c1 = 0) (x2 : Int32) (z2 : Int) (p2 : x2 = mJ z2) (x3 : Int32) (z3 : Int) (p3 : x3 = mJ z3) (x4 : Int32) (z4 : Int) (p4 : x4 = mJ z4) (x5 : Int32) (z5 : Int) (p5 : x5 = mJ z5) (ζ : ZS) (σ : HS) (hr : Rp ζ σ) : Sm QV (g_X6_readPair c1 z2 z3 z4 z5 ζ) (f_X6_readPair 29 c1 x2 x3 x4 x5 σ) := by
    unfold g_X6_readPair f_X6_readPair
    refine sm_rk (a := 27) (pts (rp_s hr) 29 0 27 rfl) kd_27 ?_
    refine sm_bind (q_X8_step _ _ hr) (fun q1 w1 e1 => ?_)
    refine sm_bind (q_X6_takeNumber _ _ li_0 _ _ (ps p4 li_1) _ _ li_m1 _ _ e1) (fun q2 w2 e2 => ?_)
    refine sm_bind (q_X6_takeNumber _ _ li_0 _ _ (ps p4 li_1) _ _ e2.1 _ _ e2.2) (fun q3 w3 e3 => ?_)
    refine sm_ieq (e3.2.1 29 2) li_0 ?_ ?_
    · refine sm_bind (q_X0_say _ k1 _ _ p2 _ _ p3 _ _ e2.1 _ _ e3.1 _ _ li_1 _ _ p5 _ _ e3.2) (fun q4 w4 e4 => ?_)
      exact q_X6_readPair_52 _ _ e4
    · exact q_X6_readPair_52 _ _ e3.2
set_option maxHeartbeats 4000000 in
set_option maxRecDepth 100000 in
theorem q_X6_readStep_75  (ζ : ZS) (σ : HS) (hr : Rp ζ σ) : Sm QV (g_X6_readStep_75 ζ) (f_X6_readStep_75 σ) := by
    unfold g_X6_readStep_75 f_X6_readStep_75
    exact sm_rv hr
set_option maxHeartbeats 4000000 in
set_option maxRecDepth 100000 in
theorem q_X6_readStep (c1 : Nat) (k1 : kd c1 = 0) (x2 : Int32) (z2 : Int) (p2 : x2 = mJ z2) (ζ : ZS) (σ : HS) (hr : Rp ζ σ) : Sm QV (g_X6_readStep c1 z2 ζ) (f_X6_readStep 29 c1 x2 σ) := by
    unfold g_X6_readStep f_X6_readStep
    refine sm_rk (a := 27) (pts (rp_s hr) 29 0 27 rfl) kd_27 ?_
    refine sm_bind (q_X8_step _ _ hr) (fun q1 w1 e1 => ?_)
    refine sm_bind (q_X6_takeNumber _ _ li_1 _ _ li_100 _ _ li_m1 _ _ e1) (fun q2 w2 e2 => ?_)
    refine sm_bind (q_X6_takeNumber _ _ li_0 _ _ (ps (e2.2.1 29 1) li_1) _ _ li_m1 _ _ e2.2) (fun q3 w3 e3 => ?_)
    refine sm_bind (q_X6_takeNumber _ _ li_1 _ _ li_100 _ _ li_m1 _ _ e3.2) (fun q4 w4 e4 => ?_)
    refine sm_bind (q_X6_takeNumber _ _ li_0 _ _ (ps (e4.2.1 29 1) li_1) _ _ e3.1 _ _ e4.2) (fun q5 w5 e5 => ?_)
    refine sm_ieq (e5.2.1 29 2) li_0 ?_ ?_
    · refine sm_bind (q_X0_say _ k1 _ _ p2 _ _ li_0 _ _ e3.1 _ _ e5.1 _ _ e2.1 _ _ e4.1 _ _ e5.2) (fun q6 w6 e6 => ?_)
      exact q_X6_readStep_75 _ _ e6
    · exact q_X6_readStep_75 _ _ e5.2
set_option maxHeartbeats 4000000 in
set_option maxRecDepth 100000 in
theorem q_X6_readBound_51  (ζ : ZS) (σ : HS) (hr : Rp ζ σ) : Sm QV (g_X6_readBound_51 ζ) (f_X6_readBound_51 σ) := by
    unfold g_X6_readBound_51 f_X6_readBound_51
    exact sm_rv hr
set_option maxHeartbeats 4000000 in
set_option maxRecDepth 100000 in
theorem q_X6_readBound (c1 : Nat) (k1 : kd c1 = 0) (x2 : Int32) (z2 : Int) (p2 : x2 = mJ z2) (x3 : Int32) (z3 : Int) (p3 : x3 = mJ z3) (ζ : ZS) (σ : HS) (hr : Rp ζ σ) : Sm QV (g_X6_readBound c1 z2 z3 ζ) (f_X6_readBound 29 c1 x2 x3 σ) := by
    unfold g_X6_readBound f_X6_readBound
    refine sm_rk (a := 27) (pts (rp_s hr) 29 0 27 rfl) kd_27 ?_
    refine sm_bind (q_X8_step _ _ hr) (fun q1 w1 e1 => ?_)
    refine sm_bind (q_X6_takeNumber _ _ li_0 _ _ (ps (e1.1 29 1) li_1) _ _ li_m1 _ _ e1) (fun q2 w2 e2 => ?_)
    refine sm_bind (q_X6_takeNumber _ _ li_0 _ _ li_100 _ _ li_m1 _ _ e2.2) (fun q3 w3 e3 => ?_)
    refine sm_ieq (e3.2.1 29 2) li_0 ?_ ?_
    · refine sm_bind (q_X0_say _ k1 _ _ p2 _ _ p3 _ _ e2.1 _ _ e2.1 _ _ e3.1 _ _ li_0 _ _ e3.2) (fun q4 w4 e4 => ?_)
      exact q_X6_readBound_51 _ _ e4
    · exact q_X6_readBound_51 _ _ e3.2
set_option maxHeartbeats 4000000 in
set_option maxRecDepth 100000 in
theorem q_X6_takeSemicolon_34  (ζ : ZS) (σ : HS) (hr : Rp ζ σ) : Sm QV (g_X6_takeSemicolon_34 ζ) (f_X6_takeSemicolon_34 σ) := by
    unfold g_X6_takeSemicolon_34 f_X6_takeSemicolon_34
    exact sm_rv hr
set_option maxHeartbeats 4000000 in
set_option maxRecDepth 100000 in
theorem q_X6_takeSemicolon  (ζ : ZS) (σ : HS) (hr : Rp ζ σ) : Sm QV (g_X6_takeSemicolon ζ) (f_X6_takeSemicolon 29 σ) := by
    unfold g_X6_takeSemicolon f_X6_takeSemicolon
    refine sm_ieq (hr.1 29 2) li_0 ?_ ?_
    · refine sm_rk (a := 27) (pts (rp_s hr) 29 0 27 rfl) kd_27 ?_
      refine sm_ieq (hr.1 27 2) li_3 ?_ ?_
      · refine sm_rk (a := 27) (pts (rp_s hr) 29 0 27 rfl) kd_27 ?_
        refine sm_bind (q_X8_step _ _ hr) (fun q2 w2 e2 => ?_)
        exact q_X6_takeSemicolon_34 _ _ e2
      · refine sm_bind (q_X6_wrong _ _ li_1 _ _ hr) (fun q1 w1 e1 => ?_)
        exact q_X6_takeSemicolon_34 _ _ e1
    · exact sm_rv hr
set_option maxHeartbeats 4000000 in
set_option maxRecDepth 100000 in
theorem q_X7_open_49 (xs0 : Int32) (zs0 : Int) (ps0 : xs0 = mJ zs0) (ζ : ZS) (σ : HS) (hr : Rp ζ σ) : Sm QV (g_X7_open_49 zs0 ζ) (f_X7_open_49 144 xs0 144 σ) := by
    unfold g_X7_open_49 f_X7_open_49
    have hr101 := rwI (a := 144) (k := 4) hr ps0
    have hr102 := rwI (a := 144) (k := 5) hr101 (hr101.1 144 1)
    exact sm_rv hr102
set_option maxHeartbeats 4000000 in
set_option maxRecDepth 100000 in
theorem q_X7_open (x1 : Int32) (z1 : Int) (p1 : x1 = mJ z1) (x2 : Int32) (z2 : Int) (p2 : x2 = mJ z2) (x3 : Int32) (z3 : Int) (p3 : x3 = mJ z3) (x4 : Int32) (z4 : Int) (p4 : x4 = mJ z4) (ζ : ZS) (σ : HS) (hr : Rp ζ σ) : Sm QV (g_X7_open z1 z2 z3 z4 ζ) (f_X7_open 144 x1 x2 x3 x4 σ) := by
    unfold g_X7_open f_X7_open
    have hr101 := rwI (a := 144) (k := 0) hr (ps p1 li_1)
    have hr102 := rwI (a := 144) (k := 2) hr101 p3
    have hr103 := rwI (a := 144) (k := 3) hr102 p4
    have hr104 := rwI (a := 144) (k := 1) hr103 (ps (ps p2 (hr103.1 144 2)) (hr103.1 144 3))
    refine sm_ieq (hr104.1 144 0) li_0 ?_ ?_
    · exact q_X7_open_49 _ _ (hr104.1 144 1) _ _ hr104
    · exact q_X7_open_49 _ _ li_0 _ _ hr104
set_option maxHeartbeats 4000000 in
set_option maxRecDepth 100000 in
theorem q_X7_narrow_98  (ζ : ZS) (σ : HS) (hr : Rp ζ σ) : Sm QV (g_X7_narrow_98 ζ) (f_X7_narrow_98 σ) := by
    unfold g_X7_narrow_98 f_X7_narrow_98
    exact sm_rv hr
set_option maxHeartbeats 4000000 in
set_option maxRecDepth 100000 in
theorem q_X7_narrow (c1 : Nat) (k1 : kd c1 = 14) (ζ : ZS) (σ : HS) (hr : Rp ζ σ) : Sm QV (g_X7_narrow c1 ζ) (f_X7_narrow 144 c1 σ) := by
    unfold g_X7_narrow f_X7_narrow
    refine sm_ck li_0 rfl (fun b101 => ?_)
    refine sm_ck (hr.1 144 0) rfl (fun b102 => ?_)
    refine sm_ck li_1 rfl (fun b103 => ?_)
    refine sm_ck li_2 rfl (fun b104 => ?_)
    refine sm_ck (hr.1 144 0) rfl (fun b105 => ?_)
    refine sm_ile (ps (rdI (a := c1) hr li_0 b101 (ln_le _)) (rdI (a := c1) hr (hr.1 144 0) b102 (ln_le _))) li_0 ?_ ?_
    · refine sm_ile li_0 (ps (rdI (a := c1) hr li_0 b101 (ln_le _)) (rdI (a := c1) hr (hr.1 144 0) b102 (ln_le _))) ?_ ?_
      · refine sm_ile li_0 (pa (pa (pm (rdI (a := c1) hr li_1 b103 (ln_le _)) (hr.1 144 2)) (pm (rdI (a := c1) hr li_2 b104 (ln_le _)) (hr.1 144 3))) (pm (rdI (a := c1) hr (hr.1 144 0) b105 (ln_le _)) (hr.1 144 1))) ?_ ?_
        · exact q_X7_narrow_98 _ _ hr
        · have hr106 := rwI (a := 144) (k := 5) hr li_m1
          exact q_X7_narrow_98 _ _ hr106
      · refine sm_bind (q_J9_floorDiv_7cf53 _ _ (pa (pa (pm (rdI (a := c1) hr li_1 b103 (ln_le _)) (hr.1 144 2)) (pm (rdI (a := c1) hr li_2 b104 (ln_le _)) (hr.1 144 3))) (pm (rdI (a := c1) hr (hr.1 144 0) b105 (ln_le _)) (hr.1 144 1))) _ _ (pn (ps (rdI (a := c1) hr li_0 b101 (ln_le _)) (rdI (a := c1) hr (hr.1 144 0) b102 (ln_le _)))) _ _ hr) (fun q7 w7 e7 => ?_)
        refine sm_bind (q_J9_min_7cf53 _ _ (hr.1 144 5) _ _ e7.1 _ _ e7.2) (fun q8 w8 e8 => ?_)
        have hr109 := rwI (a := 144) (k := 5) e8.2 e8.1
        exact q_X7_narrow_98 _ _ hr109
    · refine sm_bind (q_J9_floorDiv_7cf53 _ _ (pa (pa (pm (rdI (a := c1) hr li_1 b103 (ln_le _)) (hr.1 144 2)) (pm (rdI (a := c1) hr li_2 b104 (ln_le _)) (hr.1 144 3))) (pm (rdI (a := c1) hr (hr.1 144 0) b105 (ln_le _)) (hr.1 144 1))) _ _ (ps (rdI (a := c1) hr li_0 b101 (ln_le _)) (rdI (a := c1) hr (hr.1 144 0) b102 (ln_le _))) _ _ hr) (fun q10 w10 e10 => ?_)
      refine sm_bind (q_J9_max_7cf53 _ _ (hr.1 144 4) _ _ (pn e10.1) _ _ e10.2) (fun q11 w11 e11 => ?_)
      have hr112 := rwI (a := 144) (k := 4) e11.2 e11.1
      exact q_X7_narrow_98 _ _ hr112
set_option maxHeartbeats 4000000 in
set_option maxRecDepth 100000 in
theorem q_X7_narrowBy_23 (r2 : Int → ZS → Option ZS) (f2 : Int32 → HS → Option HS) (h2 : ∀ (x3 : Int32) (z3 : Int) (p3 : x3 = mJ z3) (ζ : ZS) (σ : HS), Rp ζ σ → Sm QV (r2 z3 ζ) (f2 x3 σ)) (c1 : Nat) (k1 : kd c1 = 18) (x2 : Int32) (z2 : Int) (p2 : x2 = mJ z2) (x3 : Int32) (z3 : Int) (p3 : x3 = mJ z3) (ζ : ZS) (σ : HS) (hr : Rp ζ σ) : Sm QV (g_X7_narrowBy_23 r2 c1 z2 z3 ζ) (f_X7_narrowBy_23 f2 144 c1 x2 x3 σ) := by
    unfold g_X7_narrowBy_23 f_X7_narrowBy_23
    exact h2 _ _ (pa p3 li_1) _ _ hr
set_option maxHeartbeats 4000000 in
set_option maxRecDepth 100000 in
theorem q_X7_narrowBy_2 (c1 : Nat) (k1 : kd c1 = 18) (x2 : Int32) (z2 : Int) (p2 : x2 = mJ z2) : ∀ (n : Nat) (x3 : Int32) (z3 : Int) (p3 : x3 = mJ z3) (ζ : ZS) (σ : HS), Rp ζ σ → Sm QV (g_X7_narrowBy_2 c1 z2 n z3 ζ) (f_X7_narrowBy_2 144 c1 x2 n x3 σ) := by
  intro n
  induction n with
  | zero =>
    intro x3 z3 p3 ζ σ hr
    exact sm_none
  | succ n ih =>
    intro x3 z3 p3 ζ σ hr
    rw [g_X7_narrowBy_2.eq_2, f_X7_narrowBy_2.eq_2]
    refine sm_ile (plen (ln c1)) p3 ?_ ?_
    · exact sm_rv hr
    · refine sm_ieq (pand p2 (pshl li_1 p3)) li_0 ?_ ?_
      · exact q_X7_narrowBy_23 _ _ ih _ k1 _ _ p2 _ _ p3 _ _ hr
      · refine sm_ck p3 rfl (fun b101 => ?_)
        refine sm_rk (aa18 hr k1 rfl p3 b101) (ak18 k1 rfl b101) ?_
        refine sm_bind (q_X7_narrow _ (ak18 k1 rfl b101) _ _ hr) (fun q2 w2 e2 => ?_)
        exact q_X7_narrowBy_23 _ _ ih _ k1 _ _ p2 _ _ p3 _ _ e2
set_option maxHeartbeats 4000000 in
set_option maxRecDepth 100000 in
theorem q_X7_narrowBy (c1 : Nat) (k1 : kd c1 = 18) (x2 : Int32) (z2 : Int) (p2 : x2 = mJ z2) (ζ : ZS) (σ : HS) (hr : Rp ζ σ) : Sm QV (g_X7_narrowBy c1 z2 ζ) (f_X7_narrowBy 144 c1 x2 σ) := by
    unfold g_X7_narrowBy f_X7_narrowBy
    exact q_X7_narrowBy_2 _ k1 _ _ p2 FU _ _ li_0 _ _ hr
set_option maxHeartbeats 4000000 in
set_option maxRecDepth 100000 in
theorem q_X7_width  (ζ : ZS) (σ : HS) (hr : Rp ζ σ) : Sm QI (g_X7_width ζ) (f_X7_width 144 σ) := by
    unfold g_X7_width f_X7_width
    refine sm_bind (q_J9_max_7cf53 _ _ li_0 _ _ (pa (ps (hr.1 144 5) (hr.1 144 4)) li_1) _ _ hr) (fun q1 w1 e1 => ?_)
    exact sm_ri e1.1 e1.2
set_option maxHeartbeats 4000000 in
set_option maxRecDepth 100000 in
theorem q_X8_put_82 (r3 : Int → ZS → Option ZS) (f3 : Int32 → HS → Option HS) (h3 : ∀ (x3 : Int32) (z3 : Int) (p3 : x3 = mJ z3) (ζ : ZS) (σ : HS), Rp ζ σ → Sm QV (r3 z3 ζ) (f3 x3 σ)) (x1 : Int64) (z1 : Int) (p1 : x1 = mL z1) (x3 : Int32) (z3 : Int) (p3 : x3 = mJ z3) (ζ : ZS) (σ : HS) (hr : Rp ζ σ) : Sm QV (g_X8_put_82 r3 z1 z3 ζ) (f_X8_put_82 f3 27 x1 x3 σ) := by
    unfold g_X8_put_82 f_X8_put_82
    exact h3 _ _ (pa p3 li_m8) _ _ hr
set_option maxHeartbeats 4000000 in
set_option maxRecDepth 100000 in
theorem q_X8_put_43 (r3 : Int → ZS → Option ZS) (f3 : Int32 → HS → Option HS) (h3 : ∀ (x3 : Int32) (z3 : Int) (p3 : x3 = mJ z3) (ζ : ZS) (σ : HS), Rp ζ σ → Sm QV (r3 z3 ζ) (f3 x3 σ)) (x1 : Int64) (z1 : Int) (p1 : x1 = mL z1) (x3 : Int32) (z3 : Int) (p3 : x3 = mJ z3) (x4 : Int32) (z4 : Int) (p4 : x4 = mJ z4) (xs0 : Int32) (zs0 : Int) (ps0 : xs0 = mJ zs0) (ζ : ZS) (σ : HS) (hr : Rp ζ σ) : Sm QV (g_X8_put_43 r3 z1 z3 z4 zs0 ζ) (f_X8_put_43 f3 27 x1 x3 x4 xs0 σ) := by
    unfold g_X8_put_43 f_X8_put_43
    refine sm_ieq ps0 li_0 ?_ ?_
    · exact q_X8_put_82 _ _ h3 _ _ p1 _ _ p3 _ _ hr
    · refine sm_ile li_1000 (hr.1 27 1) ?_ ?_
      · exact q_X8_put_82 _ _ h3 _ _ p1 _ _ p3 _ _ hr
      · refine sm_rk (a := 28) (pts (rp_s hr) 27 0 28 rfl) kd_28 ?_
        refine sm_ck (hr.1 27 1) ln_28 (fun b101 => ?_)
        have hr102 := raI (a := 28) hr (hr.1 27 1) b101 (Nat.le_of_ble_eq_true rfl) (pbyt (pi2b p4))
        have hr103 := rwI (a := 27) (k := 1) hr102 (pa (hr102.1 27 1) li_1)
        exact q_X8_put_82 _ _ h3 _ _ p1 _ _ p3 _ _ hr103
set_option maxHeartbeats 4000000 in
set_option maxRecDepth 100000 in
theorem q_X8_put_38 (r3 : Int → ZS → Option ZS) (f3 : Int32 → HS → Option HS) (h3 : ∀ (x3 : Int32) (z3 : Int) (p3 : x3 = mJ z3) (ζ : ZS) (σ : HS), Rp ζ σ → Sm QV (r3 z3 ζ) (f3 x3 σ)) (x1 : Int64) (z1 : Int) (p1 : x1 = mL z1) (x3 : Int32) (z3 : Int) (p3 : x3 = mJ z3) (x4 : Int32) (z4 : Int) (p4 : x4 = mJ z4) (ζ : ZS) (σ : HS) (hr : Rp ζ σ) : Sm QV (g_X8_put_38 r3 z1 z3 z4 ζ) (f_X8_put_38 f3 27 x1 x3 x4 σ) := by
    unfold g_X8_put_38 f_X8_put_38
    exact q_X8_put_43 _ _ h3 _ _ p1 _ _ p3 _ _ p4 _ _ li_1 _ _ hr
set_option maxHeartbeats 4000000 in
set_option maxRecDepth 100000 in
theorem q_X8_put_42 (r3 : Int → ZS → Option ZS) (f3 : Int32 → HS → Option HS) (h3 : ∀ (x3 : Int32) (z3 : Int) (p3 : x3 = mJ z3) (ζ : ZS) (σ : HS), Rp ζ σ → Sm QV (r3 z3 ζ) (f3 x3 σ)) (x1 : Int64) (z1 : Int) (p1 : x1 = mL z1) (x3 : Int32) (z3 : Int) (p3 : x3 = mJ z3) (x4 : Int32) (z4 : Int) (p4 : x4 = mJ z4) (ζ : ZS) (σ : HS) (hr : Rp ζ σ) : Sm QV (g_X8_put_42 r3 z1 z3 z4 ζ) (f_X8_put_42 f3 27 x1 x3 x4 σ) := by
    unfold g_X8_put_42 f_X8_put_42
    exact q_X8_put_43 _ _ h3 _ _ p1 _ _ p3 _ _ p4 _ _ li_0 _ _ hr
set_option maxHeartbeats 4000000 in
set_option maxRecDepth 100000 in
theorem q_X8_put_3 (x1 : Int64) (z1 : Int) (p1 : x1 = mL z1) : ∀ (n : Nat) (x3 : Int32) (z3 : Int) (p3 : x3 = mJ z3) (ζ : ZS) (σ : HS), Rp ζ σ → Sm QV (g_X8_put_3 z1 n z3 ζ) (f_X8_put_3 27 x1 n x3 σ) := by
  intro n
  induction n with
  | zero =>
    intro x3 z3 p3 ζ σ hr
    exact sm_none
  | succ n ih =>
    intro x3 z3 p3 ζ σ hr
    rw [g_X8_put_3.eq_2, f_X8_put_3.eq_2]
    refine sm_ilt p3 li_0 ?_ ?_
    · exact sm_rv hr
    · refine sm_ieq (pand (pl2i (plur p1 p3)) li_255) li_10 ?_ ?_
      · exact q_X8_put_38 _ _ ih _ _ p1 _ _ p3 _ _ (pand (pl2i (plur p1 p3)) li_255) _ _ hr
      · refine sm_ilt (pand (pl2i (plur p1 p3)) li_255) li_32 ?_ ?_
        · exact q_X8_put_42 _ _ ih _ _ p1 _ _ p3 _ _ (pand (pl2i (plur p1 p3)) li_255) _ _ hr
        · refine sm_ilt li_126 (pand (pl2i (plur p1 p3)) li_255) ?_ ?_
          · exact q_X8_put_42 _ _ ih _ _ p1 _ _ p3 _ _ (pand (pl2i (plur p1 p3)) li_255) _ _ hr
          · exact q_X8_put_38 _ _ ih _ _ p1 _ _ p3 _ _ (pand (pl2i (plur p1 p3)) li_255) _ _ hr
set_option maxHeartbeats 4000000 in
set_option maxRecDepth 100000 in
theorem q_X8_put (x1 : Int64) (z1 : Int) (p1 : x1 = mL z1) (ζ : ZS) (σ : HS) (hr : Rp ζ σ) : Sm QV (g_X8_put z1 ζ) (f_X8_put 27 x1 σ) := by
    unfold g_X8_put f_X8_put
    exact q_X8_put_3 _ _ p1 FU _ _ li_56 _ _ hr
set_option maxHeartbeats 4000000 in
set_option maxRecDepth 100000 in
theorem q_X9_tell_2 (x1 : Int32) (z1 : Int) (p1 : x1 = mJ z1) (c2 : Nat) (k2 : kd c2 = 14) : ∀ (n : Nat) (x3 : Int32) (z3 : Int) (p3 : x3 = mJ z3) (ζ : ZS) (σ : HS), Rp ζ σ → Sm QV (g_X9_tell_2 z1 c2 n z3 ζ) (f_X9_tell_2 30 x1 c2 n x3 σ) := by
  intro n
  induction n with
  | zero =>
    intro x3 z3 p3 ζ σ hr
    exact sm_none
  | succ n ih =>
    intro x3 z3 p3 ζ σ hr
    rw [g_X9_tell_2.eq_2, f_X9_tell_2.eq_2]
    refine sm_ile li_4 p3 ?_ ?_
    · have hr101 := rwI (a := 30) (k := 3) hr (por (hr.1 30 3) (pshl li_1 p1))
      exact sm_rv hr101
    · refine sm_rk (a := 31) (pts (rp_s hr) 30 0 31 rfl) kd_31 ?_
      refine sm_ck p1 ln_31 (fun b102 => ?_)
      refine sm_rk (aa18 hr kd_31 ln_31 p1 b102) (ak18 kd_31 ln_31 b102) ?_
      refine sm_ck p3 rfl (fun b103 => ?_)
      refine sm_ck p3 (al18 kd_31 ln_31 b102) (fun b104 => ?_)
      have hr105 := raI (a := 31 + 1 + Int.toNat z1) hr p3 b104 (Nat.le_of_ble_eq_true rfl) (rdI (a := c2) hr p3 b103 (ln_le _))
      exact ih _ _ (pa p3 li_1) _ _ hr105
set_option maxHeartbeats 4000000 in
set_option maxRecDepth 100000 in
theorem q_X9_tell (x1 : Int32) (z1 : Int) (p1 : x1 = mJ z1) (c2 : Nat) (k2 : kd c2 = 14) (ζ : ZS) (σ : HS) (hr : Rp ζ σ) : Sm QV (g_X9_tell z1 c2 ζ) (f_X9_tell 30 x1 c2 σ) := by
    unfold g_X9_tell f_X9_tell
    exact q_X9_tell_2 _ _ p1 _ k2 FU _ _ li_0 _ _ hr
set_option maxHeartbeats 4000000 in
set_option maxRecDepth 100000 in
theorem q_X9_valueBy_126 (r10 : Int → ZS → Option ZS) (f10 : Int32 → HS → Option HS) (h10 : ∀ (x3 : Int32) (z3 : Int) (p3 : x3 = mJ z3) (ζ : ZS) (σ : HS), Rp ζ σ → Sm QV (r10 z3 ζ) (f10 x3 σ)) (r19 : Int → ZS → Option ZS) (f19 : Int32 → HS → Option HS) (h19 : ∀ (x4 : Int32) (z4 : Int) (p4 : x4 = mJ z4) (ζ : ZS) (σ : HS), Rp ζ σ → Sm QV (r19 z4 ζ) (f19 x4 σ)) (c1 : Nat) (k1 : kd c1 = 0) (x2 : Int32) (z2 : Int) (p2 : x2 = mJ z2) (x3 : Int32) (z3 : Int) (p3 : x3 = mJ z3) (x4 : Int32) (z4 : Int) (p4 : x4 = mJ z4) (xs0 : Int32) (zs0 : Int) (ps0 : xs0 = mJ zs0) (xs1 : Int32) (zs1 : Int) (ps1 : xs1 = mJ zs1) (cs2 : Nat) (ks2 : kd cs2 = 14) (ζ : ZS) (σ : HS) (hr : Rp ζ σ) : Sm QV (g_X9_valueBy_126 r10 r19 c1 z2 z3 z4 zs0 zs1 cs2 ζ) (f_X9_valueBy_126 f10 f19 30 c1 x2 x3 x4 xs0 xs1 cs2 σ) := by
    unfold g_X9_valueBy_126 f_X9_valueBy_126
    refine sm_ck ps1 rfl (fun b101 => ?_)
    have hr102 := raI (a := cs2) hr ps1 b101 (ln_le _) ps0
    exact h19 _ _ (pa p4 li_1) _ _ hr102
set_option maxHeartbeats 4000000 in
set_option maxRecDepth 100000 in
theorem q_X9_valueBy_90 (r10 : Int → ZS → Option ZS) (f10 : Int32 → HS → Option HS) (h10 : ∀ (x3 : Int32) (z3 : Int) (p3 : x3 = mJ z3) (ζ : ZS) (σ : HS), Rp ζ σ → Sm QV (r10 z3 ζ) (f10 x3 σ)) (r19 : Int → ZS → Option ZS) (f19 : Int32 → HS → Option HS) (h19 : ∀ (x4 : Int32) (z4 : Int) (p4 : x4 = mJ z4) (ζ : ZS) (σ : HS), Rp ζ σ → Sm QV (r19 z4 ζ) (f19 x4 σ)) (c1 : Nat) (k1 : kd c1 = 0) (x2 : Int32) (z2 : Int) (p2 : x2 = mJ z2) (x3 : Int32) (z3 : Int) (p3 : x3 = mJ z3) (x4 : Int32) (z4 : Int) (p4 : x4 = mJ z4) (x5 : Int32) (z5 : Int) (p5 : x5 = mJ z5) (ζ : ZS) (σ : HS) (hr : Rp ζ σ) : Sm QV (g_X9_valueBy_90 r10 r19 c1 z2 z3 z4 z5 ζ) (f_X9_valueBy_90 f10 f19 30 c1 x2 x3 x4 x5 σ) := by
    unfold g_X9_valueBy_90 f_X9_valueBy_90
    refine sm_rk (a := 40) (pts (rp_s hr) 30 1 40 rfl) kd_40 ?_
    refine sm_ck p3 ln_40 (fun b101 => ?_)
    refine sm_rk (aa18 hr kd_40 ln_40 p3 b101) (ak18 kd_40 ln_40 b101) ?_
    refine sm_rk (pt0_k (rp_s hr) k1 1 2 (by decide) rfl) (k0_k k1 2 (by decide) (by decide)) ?_
    refine sm_ck p4 (l0_k k1 2 (by decide) (by decide)) (fun b102 => ?_)
    refine sm_ieq (rdI (a := c1 + 2) hr p4 b102 (Nat.le_of_ble_eq_true rfl)) li_m1 ?_ ?_
    · exact q_X9_valueBy_126 _ _ h10 _ _ h19 _ k1 _ _ p2 _ _ p3 _ _ p4 _ _ p5 _ _ p4 _ (ak18 kd_40 ln_40 b101) _ _ hr
    · refine sm_rk (pt0_k (rp_s hr) k1 1 2 (by decide) rfl) (k0_k k1 2 (by decide) (by decide)) ?_
      refine sm_ck p4 (l0_k k1 2 (by decide) (by decide)) (fun b103 => ?_)
      refine sm_bind (q_J9_min_7cf53 _ _ p5 _ _ (rdI (a := c1 + 2) hr p4 b103 (Nat.le_of_ble_eq_true rfl)) _ _ hr) (fun q4 w4 e4 => ?_)
      exact q_X9_valueBy_126 _ _ h10 _ _ h19 _ k1 _ _ p2 _ _ p3 _ _ p4 _ _ e4.1 _ _ p4 _ (ak18 kd_40 ln_40 b101) _ _ e4.2
set_option maxHeartbeats 4000000 in
set_option maxRecDepth 100000 in
theorem q_X9_valueBy_64 (r10 : Int → ZS → Option ZS) (f10 : Int32 → HS → Option HS) (h10 : ∀ (x3 : Int32) (z3 : Int) (p3 : x3 = mJ z3) (ζ : ZS) (σ : HS), Rp ζ σ → Sm QV (r10 z3 ζ) (f10 x3 σ)) (r19 : Int → ZS → Option ZS) (f19 : Int32 → HS → Option HS) (h19 : ∀ (x4 : Int32) (z4 : Int) (p4 : x4 = mJ z4) (ζ : ZS) (σ : HS), Rp ζ σ → Sm QV (r19 z4 ζ) (f19 x4 σ)) (c1 : Nat) (k1 : kd c1 = 0) (x2 : Int32) (z2 : Int) (p2 : x2 = mJ z2) (x3 : Int32) (z3 : Int) (p3 : x3 = mJ z3) (x4 : Int32) (z4 : Int) (p4 : x4 = mJ z4) (x5 : Int32) (z5 : Int) (p5 : x5 = mJ z5) (ζ : ZS) (σ : HS) (hr : Rp ζ σ) : Sm QV (g_X9_valueBy_64 r10 r19 c1 z2 z3 z4 z5 ζ) (f_X9_valueBy_64 f10 f19 30 c1 x2 x3 x4 x5 σ) := by
    unfold g_X9_valueBy_64 f_X9_valueBy_64
    refine sm_rk (pt0_k (rp_s hr) k1 2 3 (by decide) rfl) (k0_k k1 3 (by decide) (by decide)) ?_
    refine sm_ck p4 (l0_k k1 3 (by decide) (by decide)) (fun b101 => ?_)
    refine sm_ile (rdI (a := c1 + 3) hr p4 b101 (Nat.le_of_ble_eq_true rfl)) p5 ?_ ?_
    · exact q_X9_valueBy_90 _ _ h10 _ _ h19 _ k1 _ _ p2 _ _ p3 _ _ p4 _ _ p5 _ _ hr
    · have hr102 := rwI (a := 30) (k := 4) hr (pand (hr.1 30 4) (pxor (pshl li_1 p3) li_m1))
      exact q_X9_valueBy_90 _ _ h10 _ _ h19 _ k1 _ _ p2 _ _ p3 _ _ p4 _ _ p5 _ _ hr102
set_option maxHeartbeats 4000000 in
set_option maxRecDepth 100000 in
theorem q_X9_valueBy_44 (r10 : Int → ZS → Option ZS) (f10 : Int32 → HS → Option HS) (h10 : ∀ (x3 : Int32) (z3 : Int) (p3 : x3 = mJ z3) (ζ : ZS) (σ : HS), Rp ζ σ → Sm QV (r10 z3 ζ) (f10 x3 σ)) (r19 : Int → ZS → Option ZS) (f19 : Int32 → HS → Option HS) (h19 : ∀ (x4 : Int32) (z4 : Int) (p4 : x4 = mJ z4) (ζ : ZS) (σ : HS), Rp ζ σ → Sm QV (r19 z4 ζ) (f19 x4 σ)) (c1 : Nat) (k1 : kd c1 = 0) (x2 : Int32) (z2 : Int) (p2 : x2 = mJ z2) (x3 : Int32) (z3 : Int) (p3 : x3 = mJ z3) (x4 : Int32) (z4 : Int) (p4 : x4 = mJ z4) (xs0 : Int32) (zs0 : Int) (ps0 : xs0 = mJ zs0) (ζ : ZS) (σ : HS) (hr : Rp ζ σ) : Sm QV (g_X9_valueBy_44 r10 r19 c1 z2 z3 z4 zs0 ζ) (f_X9_valueBy_44 f10 f19 30 c1 x2 x3 x4 xs0 σ) := by
    unfold g_X9_valueBy_44 f_X9_valueBy_44
    refine sm_rk (pt0_k (rp_s hr) k1 0 1 (by decide) rfl) (k0_k k1 1 (by decide) (by decide)) ?_
    refine sm_ck p4 (l0_k k1 1 (by decide) (by decide)) (fun b101 => ?_)
    refine sm_ieq (rdI (a := c1 + 1) hr p4 b101 (Nat.le_of_ble_eq_true rfl)) li_m1 ?_ ?_
    · exact q_X9_valueBy_64 _ _ h10 _ _ h19 _ k1 _ _ p2 _ _ p3 _ _ p4 _ _ ps0 _ _ hr
    · exact q_X9_valueBy_64 _ _ h10 _ _ h19 _ k1 _ _ p2 _ _ p3 _ _ p4 _ _ (ps li_100 ps0) _ _ hr
set_option maxHeartbeats 4000000 in
set_option maxRecDepth 100000 in
theorem q_X9_valueBy_19 (c1 : Nat) (k1 : kd c1 = 0) (x2 : Int32) (z2 : Int) (p2 : x2 = mJ z2) (x3 : Int32) (z3 : Int) (p3 : x3 = mJ z3) (r10 : Int → ZS → Option ZS) (f10 : Int32 → HS → Option HS) (h10 : ∀ (x3 : Int32) (z3 : Int) (p3 : x3 = mJ z3) (ζ : ZS) (σ : HS), Rp ζ σ → Sm QV (r10 z3 ζ) (f10 x3 σ)) : ∀ (n : Nat) (x4 : Int32) (z4 : Int) (p4 : x4 = mJ z4) (ζ : ZS) (σ : HS), Rp ζ σ → Sm QV (g_X9_valueBy_19 c1 z2 z3 r10 n z4 ζ) (f_X9_valueBy_19 30 c1 x2 x3 f10 n x4 σ) := by
  intro n
  induction n with
  | zero =>
    intro x4 z4 p4 ζ σ hr
    exact sm_none
  | succ n ih =>
    intro x4 z4 p4 ζ σ hr
    rw [g_X9_valueBy_19.eq_2, f_X9_valueBy_19.eq_2]
    refine sm_ile li_4 p4 ?_ ?_
    · exact h10 _ _ (pa p3 li_1) _ _ hr
    · refine sm_ile p2 p4 ?_ ?_
      · exact q_X9_valueBy_44 _ _ h10 _ _ ih _ k1 _ _ p2 _ _ p3 _ _ p4 _ _ li_0 _ _ hr
      · refine sm_rk (a := 31) (pts (rp_s hr) 30 0 31 rfl) kd_31 ?_
        refine sm_ck p3 ln_31 (fun b101 => ?_)
        refine sm_rk (aa18 hr kd_31 ln_31 p3 b101) (ak18 kd_31 ln_31 b101) ?_
        refine sm_ck p4 (al18 kd_31 ln_31 b101) (fun b102 => ?_)
        exact q_X9_valueBy_44 _ _ h10 _ _ ih _ k1 _ _ p2 _ _ p3 _ _ p4 _ _ (rdI (a := 31 + 1 + Int.toNat z3) hr p4 b102 (Nat.le_of_ble_eq_true rfl)) _ _ hr
set_option maxHeartbeats 4000000 in
set_option maxRecDepth 100000 in
theorem q_X9_valueBy_10 (c1 : Nat) (k1 : kd c1 = 0) (x2 : Int32) (z2 : Int) (p2 : x2 = mJ z2) : ∀ (n : Nat) (x3 : Int32) (z3 : Int) (p3 : x3 = mJ z3) (ζ : ZS) (σ : HS), Rp ζ σ → Sm QV (g_X9_valueBy_10 c1 z2 n z3 ζ) (f_X9_valueBy_10 30 c1 x2 n x3 σ) := by
  intro n
  induction n with
  | zero =>
    intro x3 z3 p3 ζ σ hr
    exact sm_none
  | succ n ih =>
    intro x3 z3 p3 ζ σ hr
    rw [g_X9_valueBy_10.eq_2, f_X9_valueBy_10.eq_2]
    refine sm_ile li_8 p3 ?_ ?_
    · exact sm_rv hr
    · exact q_X9_valueBy_19 _ k1 _ _ p2 _ _ p3 _ _ ih FU _ _ li_0 _ _ hr
set_option maxHeartbeats 4000000 in
set_option maxRecDepth 100000 in
theorem q_X9_valueBy (c1 : Nat) (k1 : kd c1 = 0) (x2 : Int32) (z2 : Int) (p2 : x2 = mJ z2) (ζ : ZS) (σ : HS) (hr : Rp ζ σ) : Sm QV (g_X9_valueBy c1 z2 ζ) (f_X9_valueBy 30 c1 x2 σ) := by
    unfold g_X9_valueBy f_X9_valueBy
    have hr101 := rwI (a := 30) (k := 4) hr (hr.1 30 3)
    exact q_X9_valueBy_10 _ k1 _ _ p2 FU _ _ li_0 _ _ hr101
set_option maxHeartbeats 4000000 in
set_option maxRecDepth 100000 in
theorem q_X9_topOf_2 (x1 : Int32) (z1 : Int) (p1 : x1 = mJ z1) (x2 : Int32) (z2 : Int) (p2 : x2 = mJ z2) : ∀ (n : Nat) (x3 : Int32) (z3 : Int) (p3 : x3 = mJ z3) (ζ : ZS) (σ : HS), Rp ζ σ → Sm QI (g_X9_topOf_2 z1 z2 n z3 ζ) (f_X9_topOf_2 30 x1 x2 n x3 σ) := by
  intro n
  induction n with
  | zero =>
    intro x3 z3 p3 ζ σ hr
    exact sm_none
  | succ n ih =>
    intro x3 z3 p3 ζ σ hr
    rw [g_X9_topOf_2.eq_2, f_X9_topOf_2.eq_2]
    refine sm_ile li_8 p3 ?_ ?_
    · refine sm_rk (a := 49) (pts (rp_s hr) 30 2 49 rfl) kd_49 ?_
      refine sm_bind (q_X9_greatestOf _ _ p1 _ kd_49 _ _ hr) (fun q1 w1 e1 => ?_)
      exact sm_ri e1.1 e1.2
    · refine sm_rk (a := 49) (pts (rp_s hr) 30 2 49 rfl) kd_49 ?_
      refine sm_rk (a := 40) (pts (rp_s hr) 30 1 40 rfl) kd_40 ?_
      refine sm_ck p3 ln_40 (fun b102 => ?_)
      refine sm_rk (aa18 hr kd_40 ln_40 p3 b102) (ak18 kd_40 ln_40 b102) ?_
      refine sm_ck p2 (al18 kd_40 ln_40 b102) (fun b103 => ?_)
      refine sm_gw (fun b104 => ?_)
      refine sm_ck p3 ln_49 (fun b105 => ?_)
      have hr106 := raJ (a := 49) hr p3 b105 (Nat.le_of_ble_eq_true rfl) (pi2l (rdI (a := 40 + 1 + Int.toNat z3) hr p2 b103 (Nat.le_of_ble_eq_true rfl)) b104)
      exact ih _ _ (pa p3 li_1) _ _ hr106
set_option maxHeartbeats 4000000 in
set_option maxRecDepth 100000 in
theorem q_X9_topOf (x1 : Int32) (z1 : Int) (p1 : x1 = mJ z1) (x2 : Int32) (z2 : Int) (p2 : x2 = mJ z2) (ζ : ZS) (σ : HS) (hr : Rp ζ σ) : Sm QI (g_X9_topOf z1 z2 ζ) (f_X9_topOf 30 x1 x2 σ) := by
    unfold g_X9_topOf f_X9_topOf
    exact q_X9_topOf_2 _ _ p1 _ _ p2 FU _ _ li_0 _ _ hr
set_option maxHeartbeats 4000000 in
set_option maxRecDepth 100000 in
theorem q_X9_leastValue_6 (x1 : Int32) (z1 : Int) (p1 : x1 = mJ z1) (x2 : Int32) (z2 : Int) (p2 : x2 = mJ z2) : ∀ (n : Nat) (x3 : Int32) (z3 : Int) (p3 : x3 = mJ z3) (x4 : Int32) (z4 : Int) (p4 : x4 = mJ z4) (ζ : ZS) (σ : HS), Rp ζ σ → Sm QI (g_X9_leastValue_6 z1 z2 n z3 z4 ζ) (f_X9_leastValue_6 30 x1 x2 n x3 x4 σ) := by
  intro n
  induction n with
  | zero =>
    intro x3 z3 p3 x4 z4 p4 ζ σ hr
    exact sm_none
  | succ n ih =>
    intro x3 z3 p3 x4 z4 p4 ζ σ hr
    rw [g_X9_leastValue_6.eq_2, f_X9_leastValue_6.eq_2]
    refine sm_ile p2 p4 ?_ ?_
    · exact sm_ri p3 hr
    · refine sm_rk (a := 40) (pts (rp_s hr) 30 1 40 rfl) kd_40 ?_
      refine sm_ck p1 ln_40 (fun b101 => ?_)
      refine sm_rk (aa18 hr kd_40 ln_40 p1 b101) (ak18 kd_40 ln_40 b101) ?_
      refine sm_ck p4 (al18 kd_40 ln_40 b101) (fun b102 => ?_)
      refine sm_bind (q_J9_min_7cf53 _ _ p3 _ _ (rdI (a := 40 + 1 + Int.toNat z1) hr p4 b102 (Nat.le_of_ble_eq_true rfl)) _ _ hr) (fun q3 w3 e3 => ?_)
      exact ih _ _ e3.1 _ _ (pa p4 li_1) _ _ e3.2
set_option maxHeartbeats 4000000 in
set_option maxRecDepth 100000 in
theorem q_X9_leastValue (x1 : Int32) (z1 : Int) (p1 : x1 = mJ z1) (x2 : Int32) (z2 : Int) (p2 : x2 = mJ z2) (ζ : ZS) (σ : HS) (hr : Rp ζ σ) : Sm QI (g_X9_leastValue z1 z2 ζ) (f_X9_leastValue 30 x1 x2 σ) := by
    unfold g_X9_leastValue f_X9_leastValue
    exact q_X9_leastValue_6 _ _ p1 _ _ p2 FU _ _ li_100 _ _ li_0 _ _ hr
set_option maxHeartbeats 4000000 in
set_option maxRecDepth 100000 in
theorem q_X9_bestAtWorst_2 (x1 : Int32) (z1 : Int) (p1 : x1 = mJ z1) : ∀ (n : Nat) (x2 : Int32) (z2 : Int) (p2 : x2 = mJ z2) (ζ : ZS) (σ : HS), Rp ζ σ → Sm QI (g_X9_bestAtWorst_2 z1 n z2 ζ) (f_X9_bestAtWorst_2 30 x1 n x2 σ) := by
  intro n
  induction n with
  | zero =>
    intro x2 z2 p2 ζ σ hr
    exact sm_none
  | succ n ih =>
    intro x2 z2 p2 ζ σ hr
    rw [g_X9_bestAtWorst_2.eq_2, f_X9_bestAtWorst_2.eq_2]
    refine sm_ile li_8 p2 ?_ ?_
    · refine sm_rk (a := 49) (pts (rp_s hr) 30 2 49 rfl) kd_49 ?_
      refine sm_bind (q_X9_greatestOf _ _ (hr.1 30 4) _ kd_49 _ _ hr) (fun q1 w1 e1 => ?_)
      exact sm_ri e1.1 e1.2
    · refine sm_rk (a := 49) (pts (rp_s hr) 30 2 49 rfl) kd_49 ?_
      refine sm_bind (q_X9_leastValue _ _ p2 _ _ p1 _ _ hr) (fun q2 w2 e2 => ?_)
      refine sm_gw (fun b103 => ?_)
      refine sm_ck p2 ln_49 (fun b104 => ?_)
      have hr105 := raJ (a := 49) e2.2 p2 b104 (Nat.le_of_ble_eq_true rfl) (pi2l e2.1 b103)
      exact ih _ _ (pa p2 li_1) _ _ hr105
set_option maxHeartbeats 4000000 in
set_option maxRecDepth 100000 in
theorem q_X9_bestAtWorst (x1 : Int32) (z1 : Int) (p1 : x1 = mJ z1) (ζ : ZS) (σ : HS) (hr : Rp ζ σ) : Sm QI (g_X9_bestAtWorst z1 ζ) (f_X9_bestAtWorst 30 x1 σ) := by
    unfold g_X9_bestAtWorst f_X9_bestAtWorst
    exact q_X9_bestAtWorst_2 _ _ p1 FU _ _ li_0 _ _ hr
set_option maxHeartbeats 4000000 in
set_option maxRecDepth 100000 in
theorem q_X10_theyCan_15 (xs0 : Int32) (zs0 : Int) (ps0 : xs0 = mJ zs0) (ζ : ZS) (σ : HS) (hr : Rp ζ σ) : Sm QI (g_X10_theyCan_15 zs0 ζ) (f_X10_theyCan_15 xs0 σ) := by
    unfold g_X10_theyCan_15 f_X10_theyCan_15
    exact sm_zr ps0 hr
set_option maxHeartbeats 4000000 in
set_option maxRecDepth 100000 in
theorem q_X10_theyCan  (ζ : ZS) (σ : HS) (hr : Rp ζ σ) : Sm QI (g_X10_theyCan ζ) (f_X10_theyCan 50 σ) := by
    unfold g_X10_theyCan f_X10_theyCan
    refine sm_rk (a := 68) (pts (rp_s hr) 50 2 68 rfl) kd_68 ?_
    refine sm_ile (hr.1 68 5) li_0 ?_ ?_
    · exact q_X10_theyCan_15 _ _ li_0 _ _ hr
    · exact q_X10_theyCan_15 _ _ li_1 _ _ hr
set_option maxHeartbeats 4000000 in
set_option maxRecDepth 100000 in
theorem q_X10_cutBy_57 (r17 : Int → Int → ZS → Option (Nat × ZS)) (f17 : Int32 → Int32 → HS → Option (Nat × HS)) (h17 : ∀ (x2 : Int32) (z2 : Int) (p2 : x2 = mJ z2) (x3 : Int32) (z3 : Int) (p3 : x3 = mJ z3) (ζ : ZS) (σ : HS), Rp ζ σ → Sm QR (r17 z2 z3 ζ) (f17 x2 x3 σ)) (x1 : Int32) (z1 : Int) (p1 : x1 = mJ z1) (x2 : Int32) (z2 : Int) (p2 : x2 = mJ z2) (x3 : Int32) (z3 : Int) (p3 : x3 = mJ z3) (ζ : ZS) (σ : HS) (hr : Rp ζ σ) : Sm QR (g_X10_cutBy_57 r17 z1 z2 z3 ζ) (f_X10_cutBy_57 f17 50 x1 x2 x3 σ) := by
    unfold g_X10_cutBy_57 f_X10_cutBy_57
    exact h17 _ _ p2 _ _ (pa p3 li_1) _ _ hr
set_option maxHeartbeats 4000000 in
set_option maxRecDepth 100000 in
theorem q_X10_cutBy_17 (x1 : Int32) (z1 : Int) (p1 : x1 = mJ z1) : ∀ (n : Nat) (x2 : Int32) (z2 : Int) (p2 : x2 = mJ z2) (x3 : Int32) (z3 : Int) (p3 : x3 = mJ z3) (ζ : ZS) (σ : HS), Rp ζ σ → Sm QR (g_X10_cutBy_17 z1 n z2 z3 ζ) (f_X10_cutBy_17 50 x1 n x2 x3 σ) := by
  intro n
  induction n with
  | zero =>
    intro x2 z2 p2 x3 z3 p3 ζ σ hr
    exact sm_none
  | succ n ih =>
    intro x2 z2 p2 x3 z3 p3 ζ σ hr
    rw [g_X10_cutBy_17.eq_2, f_X10_cutBy_17.eq_2]
    refine sm_ile li_12 p3 ?_ ?_
    · refine sm_rk (a := 72) (pts (rp_s hr) 50 3 72 rfl) kd_72 ?_
      refine sm_ck p2 ln_72 (fun b101 => ?_)
      refine sm_rk (aa17 hr p2 b101) (ak17 b101) ?_
      exact sm_rr hr
    · refine sm_ieq (pand p1 (pshl li_1 p3)) li_0 ?_ ?_
      · exact q_X10_cutBy_57 _ _ ih _ _ p1 _ _ p2 _ _ p3 _ _ hr
      · refine sm_rk (a := 72) (pts (rp_s hr) 50 3 72 rfl) kd_72 ?_
        refine sm_ck (pa p2 li_1) ln_72 (fun b102 => ?_)
        refine sm_rk (aa17 hr (pa p2 li_1) b102) (ak17 b102) ?_
        refine sm_rk (a := 72) (pts (rp_s hr) 50 3 72 rfl) kd_72 ?_
        refine sm_ck p2 ln_72 (fun b103 => ?_)
        refine sm_rk (aa17 hr p2 b103) (ak17 b103) ?_
        refine sm_rk (a := 51) (pts (rp_s hr) 50 0 51 rfl) kd_51 ?_
        refine sm_ck p3 ln_51 (fun b104 => ?_)
        refine sm_rk (aa18 hr kd_51 ln_51 p3 b104) (ak18 kd_51 ln_51 b104) ?_
        refine sm_bind (q_X1_becomeCut _ (ak17 b102) _ (ak17 b103) _ (ak18 kd_51 ln_51 b104) _ _ hr) (fun q5 w5 e5 => ?_)
        exact q_X10_cutBy_57 _ _ ih _ _ p1 _ _ (pa p2 li_1) _ _ p3 _ _ e5
set_option maxHeartbeats 4000000 in
set_option maxRecDepth 100000 in
theorem q_X10_cutBy (x1 : Int32) (z1 : Int) (p1 : x1 = mJ z1) (ζ : ZS) (σ : HS) (hr : Rp ζ σ) : Sm QR (g_X10_cutBy z1 ζ) (f_X10_cutBy 50 x1 σ) := by
    unfold g_X10_cutBy f_X10_cutBy
    refine sm_rk (a := 72) (pts (rp_s hr) 50 3 72 rfl) kd_72 ?_
    refine sm_ck li_0 ln_72 (fun b101 => ?_)
    refine sm_rk (aa17 hr li_0 b101) (ak17 b101) ?_
    refine sm_rk (a := 64) (pts (rp_s hr) 50 1 64 rfl) kd_64 ?_
    refine sm_bind (q_X1_become _ (ak17 b101) _ kd_64 _ _ hr) (fun q2 w2 e2 => ?_)
    exact q_X10_cutBy_17 _ _ p1 FU _ _ li_0 _ _ li_0 _ _ e2
set_option maxHeartbeats 4000000 in
set_option maxRecDepth 100000 in
theorem q_X10_workOut_3 (c1 : Nat) (k1 : kd c1 = 0) (x3 : Int32) (z3 : Int) (p3 : x3 = mJ z3) (x4 : Int32) (z4 : Int) (p4 : x4 = mJ z4) : ∀ (n : Nat) (x5 : Int32) (z5 : Int) (p5 : x5 = mJ z5) (ζ : ZS) (σ : HS), Rp ζ σ → Sm QV (g_X10_workOut_3 c1 z3 z4 n z5 ζ) (f_X10_workOut_3 50 c1 30 x3 x4 n x5 σ) := by
  intro n
  induction n with
  | zero =>
    intro x5 z5 p5 ζ σ hr
    exact sm_none
  | succ n ih =>
    intro x5 z5 p5 ζ σ hr
    rw [g_X10_workOut_3.eq_2, f_X10_workOut_3.eq_2]
    refine sm_ile (hr.1 c1 9) p5 ?_ ?_
    · refine sm_bind (q_X0_sayingsOf _ k1 _ _ p3 _ _ hr) (fun q1 w1 e1 => ?_)
      have hr102 := rwI (a := 50) (k := 4) e1.2 e1.1
      refine sm_rk (a := 64) (pts (rp_s hr102) 50 1 64 rfl) kd_64 ?_
      refine sm_bind (q_X1_becomeWhole _ kd_64 _ _ p4 _ _ hr102) (fun q3 w3 e3 => ?_)
      refine sm_rk (a := 68) (pts (rp_s e3) 50 2 68 rfl) kd_68 ?_
      refine sm_bind (q_X10_cutBy _ _ (e3.1 50 4) _ _ e3) (fun q4 w4 e4 => ?_)
      refine sm_rkd (congrArg some e4.1) (fun c105 kc105 => ?_)
      refine sm_bind (q_X1_become _ kd_68 _ kc105 _ _ e4.2) (fun q6 w6 e6 => ?_)
      refine sm_rk (a := 68) (pts (rp_s e6) 50 2 68 rfl) kd_68 ?_
      refine sm_bind (q_X1_sort _ kd_68 _ _ e6) (fun q7 w7 e7 => ?_)
      exact sm_rv e7
    · refine sm_rk (a := 51) (pts (rp_s hr) 50 0 51 rfl) kd_51 ?_
      refine sm_ck p5 ln_51 (fun b108 => ?_)
      refine sm_rk (aa18 hr kd_51 ln_51 p5 b108) (ak18 kd_51 ln_51 b108) ?_
      refine sm_bind (q_X0_fillRow _ k1 _ _ p5 _ (ak18 kd_51 ln_51 b108) _ _ p4 _ _ hr) (fun q9 w9 e9 => ?_)
      exact ih _ _ (pa p5 li_1) _ _ e9
set_option maxHeartbeats 4000000 in
set_option maxRecDepth 100000 in
theorem q_X10_workOut (c1 : Nat) (k1 : kd c1 = 0) (x3 : Int32) (z3 : Int) (p3 : x3 = mJ z3) (x4 : Int32) (z4 : Int) (p4 : x4 = mJ z4) (ζ : ZS) (σ : HS) (hr : Rp ζ σ) : Sm QV (g_X10_workOut c1 z3 z4 ζ) (f_X10_workOut 50 c1 30 x3 x4 σ) := by
    unfold g_X10_workOut f_X10_workOut
    exact q_X10_workOut_3 _ k1 _ _ p3 _ _ p4 FU _ _ li_0 _ _ hr
