/-! the class's text methods: functions (printed by tools/gen.py txt) and rows (by gen2.py txt); choice -/
def f_X8_sayl (t : Nat) (σ : HS) : Int32 → List Int32 → Option (Int32 × HS)
  | _, [] => some (1, σ)
  | i, c :: w =>
    rk (σ.2.2 t 0) 13 fun a =>
    ck (σ.1 t 3 + i) (ln a) (
    if σ.1 a (σ.1 t 3 + i).toNatClampNeg = c then
      f_X8_sayl t σ (i + 1) w
    else
      some (0, σ))
def f_X8_says (w : List Int32) (t : Nat) (σ : HS) : Option (Int32 × HS) :=
    if σ.1 t 2 = 1 then
      if σ.1 t 4 - σ.1 t 3 = Int32.ofNat w.length then
        f_X8_sayl t σ 0 w
      else
        some (0, σ)
    else
      some (0, σ)
theorem q_X8_sayl {ζ : ZS} {σ : HS} (hr : Rp ζ σ) : ∀ (w : List Int) (i : Nat) (x : Int32), x = mJ (i : Int) → Sm QI (g_X8_sayl ζ i w) (f_X8_sayl 27 σ x (List.map mJ w))
  | [], _, _, _ => sm_ri li_1 hr
  | c :: w, i, x, hx => by
    unfold g_X8_sayl
    rw [List.map_cons]
    unfold f_X8_sayl
    refine sm_rk (a := 28) (pts (rp_s hr) 27 0 28 rfl) kd_28 ?_
    refine sm_ck (pa (hr.1 27 3) hx) ln_28 (fun hb => ?_)
    refine sm_ieq (rdI (a := 28) hr (pa (hr.1 27 3) hx) hb (Nat.le_of_ble_eq_true rfl)) rfl ?_ ?_
    · exact q_X8_sayl hr w (i + 1) (x + 1) (by rw [Int.natCast_add]; exact pa hx li_1)
    · exact sm_ri li_0 hr
theorem q_X8_says (w : List Int) (ζ : ZS) (σ : HS) (hr : Rp ζ σ) : Sm QI (g_X8_says w ζ) (f_X8_says (List.map mJ w) 27 σ) := by
  unfold g_X8_says f_X8_says
  rw [List.length_map]
  refine sm_ieq (hr.1 27 2) li_1 ?_ ?_
  · refine sm_ieq (ps (hr.1 27 4) (hr.1 27 3)) (plen w.length) ?_ ?_
    · exact q_X8_sayl hr w 0 0 li_0
    · exact sm_ri li_0 hr
  · exact sm_ri li_0 hr
def f_X6_readSaying_156 (σ : HS) : Option HS :=
    some σ
def f_X6_readSaying (t : Nat) (x1 : Nat) (x2 : Int32) (σ : HS) : Option HS :=
    rk (σ.2.2 t 0) 8 fun a1 =>
    (f_X8_step a1 σ).bind fun q2 =>
    rk (q2.2.2 t 0) 8 fun a3 =>
    (f_X8_says (List.map mJ [109, 111, 114, 101]) a3 q2).bind fun q4 =>
    if q4.1 = 0 then
      rk (q4.2.2.2 t 0) 8 fun a5 =>
      (f_X8_says (List.map mJ [116, 119, 105, 99, 101]) a5 q4.2).bind fun q6 =>
      if q6.1 = 0 then
        rk (q6.2.2.2 t 0) 8 fun a7 =>
        (f_X8_says (List.map mJ [98, 101, 116, 116, 101, 114]) a7 q6.2).bind fun q8 =>
        if q8.1 = 0 then
          rk (q8.2.2.2 t 0) 8 fun a9 =>
          (f_X8_says (List.map mJ [115, 116, 101, 112]) a9 q8.2).bind fun q10 =>
          if q10.1 = 0 then
            rk (q10.2.2.2 t 0) 8 fun a11 =>
            (f_X8_says (List.map mJ [108, 101, 97, 115, 116]) a11 q10.2).bind fun q12 =>
            if q12.1 = 0 then
              rk (q12.2.2.2 t 0) 8 fun a13 =>
              (f_X8_says (List.map mJ [109, 111, 115, 116]) a13 q12.2).bind fun q14 =>
              if q14.1 = 0 then
                (f_X6_wrong t 1 q14.2).bind fun q15 =>
                f_X6_readSaying_156 q15
              else
                (f_X6_readBound t x1 x2 2 q14.2).bind fun q16 =>
                f_X6_readSaying_156 q16
            else
              (f_X6_readBound t x1 x2 1 q12.2).bind fun q17 =>
              f_X6_readSaying_156 q17
          else
            (f_X6_readStep t x1 x2 q10.2).bind fun q18 =>
            f_X6_readSaying_156 q18
        else
          (f_X6_readPair t x1 x2 3 8 1 q8.2).bind fun q19 =>
          f_X6_readSaying_156 q19
      else
        (f_X6_readPair t x1 x2 0 (q6.2.1 t 1) 2 q6.2).bind fun q20 =>
        f_X6_readSaying_156 q20
    else
      (f_X6_readPair t x1 x2 0 (q4.2.1 t 1) 1 q4.2).bind fun q21 =>
      f_X6_readSaying_156 q21
def f_X6_readStatement_114 (t : Nat) (σ : HS) : Option HS :=
    (f_X6_takeSemicolon t σ).bind fun q1 =>
    some q1
def f_X6_readStatement (t : Nat) (x1 : Nat) (σ : HS) : Option HS :=
    rk (σ.2.2 t 0) 8 fun a1 =>
    (f_X8_says (List.map mJ [108, 101, 115, 115]) a1 σ).bind fun q2 =>
    if q2.1 = 0 then
      rk (q2.2.2.2 t 0) 8 fun a3 =>
      (f_X8_says (List.map mJ [99, 97, 112]) a3 q2.2).bind fun q4 =>
      if q4.1 = 0 then
        rk (q4.2.2.2 t 0) 8 fun a5 =>
        (f_X8_says (List.map mJ [109, 117, 115, 116]) a5 q4.2).bind fun q6 =>
        if q6.1 = 0 then
          rk (q6.2.2.2 t 0) 8 fun a7 =>
          (f_X8_person a7 q6.2).bind fun q8 =>
          if q8.1 = (-1) then
            (f_X6_wrong t 1 q8.2).bind fun q13 =>
            f_X6_readStatement_114 t q13
          else
            if (q8.2.1 x1 9) < 12 then
              rk (q8.2.2.2 t 0) 8 fun a9 =>
              (f_X8_person a9 q8.2).bind fun q10 =>
              (f_X6_readSaying t x1 q10.1 q10.2).bind fun q11 =>
              f_X6_readStatement_114 t q11
            else
              (f_X6_wrong t 5 q8.2).bind fun q12 =>
              f_X6_readStatement_114 t q12
        else
          rk (q6.2.2.2 x1 2) 14 fun a14 =>
          (f_X6_readLimit t a14 q6.2).bind fun q15 =>
          f_X6_readStatement_114 t q15
      else
        rk (q4.2.2.2 x1 1) 14 fun a16 =>
        (f_X6_readLimit t a16 q4.2).bind fun q17 =>
        f_X6_readStatement_114 t q17
    else
      (f_X6_readLess t x1 q2.2).bind fun q18 =>
      f_X6_readStatement_114 t q18
def f_X6_read_58 (t : Nat) (σ : HS) : Option (Int32 × HS) :=
    some (σ.1 t 2, σ)
def f_X6_read_23 (t : Nat) (x1 : Nat) : Nat → Int32 → HS → Option (Int32 × HS)
  | 0, _, _ => none
  | n + 1, x3, σ =>
    if 1000 ≤ x3 then
      f_X6_read_58 t σ
    else
      if (σ.1 t 2) = 0 then
        rk (σ.2.2 t 0) 8 fun a1 =>
        if (σ.1 a1 2) = 0 then
          f_X6_read_58 t σ
        else
          (f_X6_readStatement t x1 σ).bind fun q2 =>
          (f_X6_read_23 t x1 n) (x3 + 1) q2
      else
        f_X6_read_58 t σ
def f_X6_read (t : Nat) (x1 : Nat) (x2 : Int32) (σ : HS) : Option (Int32 × HS) :=
    (f_X0_clear x1 (sI (sI σ t 1 x2) t 2 0)).bind fun q1 =>
    rk (q1.2.2 t 0) 8 fun a2 =>
    (f_X8_rewind a2 q1).bind fun q3 =>
    f_X6_read_23 t x1 FU 0 q3
def f_X11_choice_51 (x1 : Int32) (σ : HS) : Option (Int32 × HS) :=
    some (x1, σ)
def f_X11_choice (t : Nat) (σ : HS) : Option (Int32 × HS) :=
    rk (σ.2.2 t 1) 6 fun a1 =>
    rk (σ.2.2 t 15) 0 fun a2 =>
    (f_X6_read a1 a2 (σ.1 t 16) σ).bind fun q3 =>
    rk (q3.2.2.2 t 0) 8 fun a4 =>
    if q3.1 = 0 then
      rk ((sI q3.2 a4 1 0).2.2 t 14) 0 fun a5 =>
      rk ((sI q3.2 a4 1 0).2.2 t 15) 0 fun a6 =>
      f_X11_choice_51 q3.1 (sI (sR (sR (sI q3.2 a4 1 0) t 14 (some a6)) t 15 (some a5)) t 18 1)
    else
      f_X11_choice_51 q3.1 (sI q3.2 a4 1 0)
set_option maxHeartbeats 4000000 in
set_option maxRecDepth 100000 in
theorem q_X6_readSaying_156  (ζ : ZS) (σ : HS) (hr : Rp ζ σ) : Sm QV (g_X6_readSaying_156 ζ) (f_X6_readSaying_156 σ) := by
    unfold g_X6_readSaying_156 f_X6_readSaying_156
    exact sm_rv hr
set_option maxHeartbeats 4000000 in
set_option maxRecDepth 100000 in
theorem q_X6_readSaying (c1 : Nat) (k1 : kd c1 = 0) (x2 : Int32) (z2 : Int) (p2 : x2 = mJ z2) (ζ : ZS) (σ : HS) (hr : Rp ζ σ) : Sm QV (g_X6_readSaying c1 z2 ζ) (f_X6_readSaying 29 c1 x2 σ) := by
    unfold g_X6_readSaying f_X6_readSaying
    refine sm_rk (a := 27) (pts (rp_s hr) 29 0 27 rfl) kd_27 ?_
    refine sm_bind (q_X8_step _ _ hr) (fun q1 w1 e1 => ?_)
    refine sm_rk (a := 27) (pts (rp_s e1) 29 0 27 rfl) kd_27 ?_
    refine sm_bind (q_X8_says [109, 111, 114, 101] _ _ e1) (fun q2 w2 e2 => ?_)
    refine sm_ieq e2.1 li_0 ?_ ?_
    · refine sm_rk (a := 27) (pts (rp_s e2.2) 29 0 27 rfl) kd_27 ?_
      refine sm_bind (q_X8_says [116, 119, 105, 99, 101] _ _ e2.2) (fun q3 w3 e3 => ?_)
      refine sm_ieq e3.1 li_0 ?_ ?_
      · refine sm_rk (a := 27) (pts (rp_s e3.2) 29 0 27 rfl) kd_27 ?_
        refine sm_bind (q_X8_says [98, 101, 116, 116, 101, 114] _ _ e3.2) (fun q4 w4 e4 => ?_)
        refine sm_ieq e4.1 li_0 ?_ ?_
        · refine sm_rk (a := 27) (pts (rp_s e4.2) 29 0 27 rfl) kd_27 ?_
          refine sm_bind (q_X8_says [115, 116, 101, 112] _ _ e4.2) (fun q5 w5 e5 => ?_)
          refine sm_ieq e5.1 li_0 ?_ ?_
          · refine sm_rk (a := 27) (pts (rp_s e5.2) 29 0 27 rfl) kd_27 ?_
            refine sm_bind (q_X8_says [108, 101, 97, 115, 116] _ _ e5.2) (fun q6 w6 e6 => ?_)
            refine sm_ieq e6.1 li_0 ?_ ?_
            · refine sm_rk (a := 27) (pts (rp_s e6.2) 29 0 27 rfl) kd_27 ?_
              refine sm_bind (q_X8_says [109, 111, 115, 116] _ _ e6.2) (fun q7 w7 e7 => ?_)
              refine sm_ieq e7.1 li_0 ?_ ?_
              · refine sm_bind (q_X6_wrong _ _ li_1 _ _ e7.2) (fun q8 w8 e8 => ?_)
                exact q_X6_readSaying_156 _ _ e8
              · refine sm_bind (q_X6_readBound _ k1 _ _ p2 _ _ li_2 _ _ e7.2) (fun q9 w9 e9 => ?_)
                exact q_X6_readSaying_156 _ _ e9
            · refine sm_bind (q_X6_readBound _ k1 _ _ p2 _ _ li_1 _ _ e6.2) (fun q10 w10 e10 => ?_)
              exact q_X6_readSaying_156 _ _ e10
          · refine sm_bind (q_X6_readStep _ k1 _ _ p2 _ _ e5.2) (fun q11 w11 e11 => ?_)
            exact q_X6_readSaying_156 _ _ e11
        · refine sm_bind (q_X6_readPair _ k1 _ _ p2 _ _ li_3 _ _ li_8 _ _ li_1 _ _ e4.2) (fun q12 w12 e12 => ?_)
          exact q_X6_readSaying_156 _ _ e12
      · refine sm_bind (q_X6_readPair _ k1 _ _ p2 _ _ li_0 _ _ (e3.2.1 29 1) _ _ li_2 _ _ e3.2) (fun q13 w13 e13 => ?_)
        exact q_X6_readSaying_156 _ _ e13
    · refine sm_bind (q_X6_readPair _ k1 _ _ p2 _ _ li_0 _ _ (e2.2.1 29 1) _ _ li_1 _ _ e2.2) (fun q14 w14 e14 => ?_)
      exact q_X6_readSaying_156 _ _ e14
set_option maxHeartbeats 4000000 in
set_option maxRecDepth 100000 in
theorem q_X6_readStatement_114  (ζ : ZS) (σ : HS) (hr : Rp ζ σ) : Sm QV (g_X6_readStatement_114 ζ) (f_X6_readStatement_114 29 σ) := by
    unfold g_X6_readStatement_114 f_X6_readStatement_114
    refine sm_bind (q_X6_takeSemicolon _ _ hr) (fun q1 w1 e1 => ?_)
    exact sm_rv e1
set_option maxHeartbeats 4000000 in
set_option maxRecDepth 100000 in
theorem q_X6_readStatement (c1 : Nat) (k1 : kd c1 = 0) (ζ : ZS) (σ : HS) (hr : Rp ζ σ) : Sm QV (g_X6_readStatement c1 ζ) (f_X6_readStatement 29 c1 σ) := by
    unfold g_X6_readStatement f_X6_readStatement
    refine sm_rk (a := 27) (pts (rp_s hr) 29 0 27 rfl) kd_27 ?_
    refine sm_bind (q_X8_says [108, 101, 115, 115] _ _ hr) (fun q1 w1 e1 => ?_)
    refine sm_ieq e1.1 li_0 ?_ ?_
    · refine sm_rk (a := 27) (pts (rp_s e1.2) 29 0 27 rfl) kd_27 ?_
      refine sm_bind (q_X8_says [99, 97, 112] _ _ e1.2) (fun q2 w2 e2 => ?_)
      refine sm_ieq e2.1 li_0 ?_ ?_
      · refine sm_rk (a := 27) (pts (rp_s e2.2) 29 0 27 rfl) kd_27 ?_
        refine sm_bind (q_X8_says [109, 117, 115, 116] _ _ e2.2) (fun q3 w3 e3 => ?_)
        refine sm_ieq e3.1 li_0 ?_ ?_
        · refine sm_rk (a := 27) (pts (rp_s e3.2) 29 0 27 rfl) kd_27 ?_
          refine sm_bind (q_X8_person _ _ e3.2) (fun q4 w4 e4 => ?_)
          refine sm_ieq e4.1 li_m1 ?_ ?_
          · refine sm_bind (q_X6_wrong _ _ li_1 _ _ e4.2) (fun q8 w8 e8 => ?_)
            exact q_X6_readStatement_114 _ _ e8
          · refine sm_ilt (e4.2.1 c1 9) li_12 ?_ ?_
            · refine sm_rk (a := 27) (pts (rp_s e4.2) 29 0 27 rfl) kd_27 ?_
              refine sm_bind (q_X8_person _ _ e4.2) (fun q5 w5 e5 => ?_)
              refine sm_bind (q_X6_readSaying _ k1 _ _ e5.1 _ _ e5.2) (fun q6 w6 e6 => ?_)
              exact q_X6_readStatement_114 _ _ e6
            · refine sm_bind (q_X6_wrong _ _ li_5 _ _ e4.2) (fun q7 w7 e7 => ?_)
              exact q_X6_readStatement_114 _ _ e7
        · refine sm_rk (pt0_k (rp_s e3.2) k1 2 3 (by decide) rfl) (k0_k k1 3 (by decide) (by decide)) ?_
          refine sm_bind (q_X6_readLimit _ (k0_k k1 3 (by decide) (by decide)) _ _ e3.2) (fun q9 w9 e9 => ?_)
          exact q_X6_readStatement_114 _ _ e9
      · refine sm_rk (pt0_k (rp_s e2.2) k1 1 2 (by decide) rfl) (k0_k k1 2 (by decide) (by decide)) ?_
        refine sm_bind (q_X6_readLimit _ (k0_k k1 2 (by decide) (by decide)) _ _ e2.2) (fun q10 w10 e10 => ?_)
        exact q_X6_readStatement_114 _ _ e10
    · refine sm_bind (q_X6_readLess _ k1 _ _ e1.2) (fun q11 w11 e11 => ?_)
      exact q_X6_readStatement_114 _ _ e11
set_option maxHeartbeats 4000000 in
set_option maxRecDepth 100000 in
theorem q_X6_read_58  (ζ : ZS) (σ : HS) (hr : Rp ζ σ) : Sm QI (g_X6_read_58 ζ) (f_X6_read_58 29 σ) := by
    unfold g_X6_read_58 f_X6_read_58
    exact sm_ri (hr.1 29 2) hr
set_option maxHeartbeats 4000000 in
set_option maxRecDepth 100000 in
theorem q_X6_read_23 (c1 : Nat) (k1 : kd c1 = 0) : ∀ (n : Nat) (x3 : Int32) (z3 : Int) (p3 : x3 = mJ z3) (ζ : ZS) (σ : HS), Rp ζ σ → Sm QI (g_X6_read_23 c1 n z3 ζ) (f_X6_read_23 29 c1 n x3 σ) := by
  intro n
  induction n with
  | zero =>
    intro x3 z3 p3 ζ σ hr
    exact sm_none
  | succ n ih =>
    intro x3 z3 p3 ζ σ hr
    rw [g_X6_read_23.eq_2, f_X6_read_23.eq_2]
    refine sm_ile li_1000 p3 ?_ ?_
    · exact q_X6_read_58 _ _ hr
    · refine sm_ieq (hr.1 29 2) li_0 ?_ ?_
      · refine sm_rk (a := 27) (pts (rp_s hr) 29 0 27 rfl) kd_27 ?_
        refine sm_ieq (hr.1 27 2) li_0 ?_ ?_
        · exact q_X6_read_58 _ _ hr
        · refine sm_bind (q_X6_readStatement _ k1 _ _ hr) (fun q1 w1 e1 => ?_)
          exact ih _ _ (pa p3 li_1) _ _ e1
      · exact q_X6_read_58 _ _ hr
set_option maxHeartbeats 4000000 in
set_option maxRecDepth 100000 in
theorem q_X6_read (c1 : Nat) (k1 : kd c1 = 0) (x2 : Int32) (z2 : Int) (p2 : x2 = mJ z2) (ζ : ZS) (σ : HS) (hr : Rp ζ σ) : Sm QI (g_X6_read c1 z2 ζ) (f_X6_read 29 c1 x2 σ) := by
    unfold g_X6_read f_X6_read
    have hr101 := rwI (a := 29) (k := 1) hr p2
    have hr102 := rwI (a := 29) (k := 2) hr101 li_0
    refine sm_bind (q_X0_clear _ k1 _ _ hr102) (fun q3 w3 e3 => ?_)
    refine sm_rk (a := 27) (pts (rp_s e3) 29 0 27 rfl) kd_27 ?_
    refine sm_bind (q_X8_rewind _ _ e3) (fun q4 w4 e4 => ?_)
    exact q_X6_read_23 _ k1 FU _ _ li_0 _ _ e4
set_option maxHeartbeats 4000000 in
set_option maxRecDepth 100000 in
theorem q_X11_choice_51 (x1 : Int32) (z1 : Int) (p1 : x1 = mJ z1) (ζ : ZS) (σ : HS) (hr : Rp ζ σ) : Sm QI (g_X11_choice_51 z1 ζ) (f_X11_choice_51 x1 σ) := by
    unfold g_X11_choice_51 f_X11_choice_51
    exact sm_ri p1 hr
set_option maxHeartbeats 4000000 in
set_option maxRecDepth 100000 in
theorem q_X11_choice  (ζ : ZS) (σ : HS) (hr : Rp ζ σ) : Sm QI (g_X11_choice ζ) (f_X11_choice 26 σ) := by
    unfold g_X11_choice f_X11_choice
    refine sm_rk (a := 29) (pts (rp_s hr) 26 1 29 rfl) kd_29 ?_
    refine sm_rkd (rp_r hr 26 15) (fun c101 kc101 => ?_)
    refine sm_bind (q_X6_read _ kc101 _ _ (hr.1 26 16) _ _ hr) (fun q2 w2 e2 => ?_)
    refine sm_rk (a := 27) (pts (rp_s e2.2) 26 0 27 rfl) kd_27 ?_
    have hr103 := rwI (a := 27) (k := 1) e2.2 li_0
    refine sm_ieq e2.1 li_0 ?_ ?_
    · refine sm_rkd (rp_r hr103 26 14) (fun c104 kc104 => ?_)
      refine sm_rkd (rp_r hr103 26 15) (fun c105 kc105 => ?_)
      have hr106 := rwR (a := 26) (k := 14) (v := some c105) hr103 rfl
      have hr107 := rwR (a := 26) (k := 15) (v := some c104) hr106 rfl
      have hr108 := rwI (a := 26) (k := 18) hr107 li_1
      exact q_X11_choice_51 _ _ e2.1 _ _ hr108
    · exact q_X11_choice_51 _ _ e2.1 _ _ hr103
theorem inv_choice {σ : HS} (h : Inv σ) : ∃ v σ1 σ2, f_X11_choice 26 σ = some (v, σ1) ∧ f_X12_choice 0 σ1 = some (v, σ2) ∧ Inv σ2 :=
  inv_call (cv := mJ) (X := g_X11_choice) (Y := g_X12_choice) (F := f_X11_choice 26) (G := f_X12_choice 0) (R := QCh) (fun ζ σ hr => q_X11_choice ζ σ hr) (fun ζ σ hr => q_X12_choice ζ σ hr) (fun A ζ h hW hw => a_choice h hW hw) (fun A B v ζ h hW q => b_choice h hW q) (fun A B v hW q => wall_choice hW q) h
