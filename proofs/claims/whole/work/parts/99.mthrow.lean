/-! value and gap: functions and rows (printed by tools/gen.py txt thr, gen2.py txt thr) -/
def QOI (p : Option Int × ZS) (q : Option Int32 × HS) : Prop := q.1 = p.1.map mJ ∧ Rp p.2 q.2
def QOJ (p : Option Int × ZS) (q : Option Int64 × HS) : Prop := q.1 = p.1.map mL ∧ Rp p.2 q.2
theorem sm_so {α β : Type} {R : α → β → Prop} {x : α} {y : β} (h : R x y) : Sm R (some x) (some y) := fun _ e => ⟨y, rfl, by cases e; exact h⟩
def f_X11_value_23 (σ : HS) : Option (Option Int32 × HS) :=
    some (none, σ)
def f_X11_value (t : Nat) (x1 : Int32) (x2 : Int32) (σ : HS) : Option (Option Int32 × HS) :=
    (f_X11_freshen t σ).bind fun q1 =>
    rk (q1.2.2 t 2) 9 fun a2 =>
    (f_X9_isTold a2 x1 q1).bind fun q3 =>
    if q3.1 = 0 then
      f_X11_value_23 q3.2
    else
      (f_X11_hasMeasure t x2 q3.2).bind fun q4 =>
      if q4.1 = 0 then
        f_X11_value_23 q4.2
      else
        rk (q4.2.2.2 t 2) 9 fun a5 =>
        rk (q4.2.2.2 a5 1) 18 fun a6 =>
        ck x1 (ln a6) (rk (q4.2.2.2 a6 x1.toNatClampNeg) 14 fun a7 =>
        ck x2 (ln a7) (
        some (some (q4.2.1 a7 x2.toNatClampNeg), q4.2)))
def f_X11_gap_31 (σ : HS) : Option (Option Int64 × HS) :=
    some (none, σ)
def f_X11_gap (t : Nat) (x1 : Int32) (x2 : Int32) (x3 : Int32) (σ : HS) : Option (Option Int64 × HS) :=
    (f_X11_freshen t σ).bind fun q1 =>
    (f_X11_isPart x3 q1).bind fun q2 =>
    if q2.1 = 0 then
      f_X11_gap_31 q2.2
    else
      rk (q2.2.2.2 t 4) 4 fun a3 =>
      rk (q2.2.2.2 t 3) 10 fun a4 =>
      rk (q2.2.2.2 a4 2) 1 fun a5 =>
      (f_X4_compare a3 a5 x1 x2 q2.2).bind fun q6 =>
      if q6.1 = (-1) then
        f_X11_gap_31 q6.2
      else
        rk (q6.2.2.2 t 4) 4 fun a7 =>
        rk (q6.2.2.2 t 8) 3 fun a8 =>
        (f_X4_fillGap a7 x1 x2 a8 q6.2).bind fun q9 =>
        rk (q9.2.2 t 8) 3 fun a10 =>
        (f_X3_reduce a10 q9).bind fun q11 =>
        rk (q11.2.2 t 8) 3 fun a12 =>
        (f_X3_part a12 x3 q11).bind fun q13 =>
        some (some q13.1, q13.2)
set_option maxHeartbeats 4000000 in
set_option maxRecDepth 100000 in
theorem q_X11_value_23  (ζ : ZS) (σ : HS) (hr : Rp ζ σ) : Sm QOI (g_X11_value_23 ζ) (f_X11_value_23 σ) := by
    unfold g_X11_value_23 f_X11_value_23
    exact sm_so ⟨rfl, hr⟩
set_option maxHeartbeats 4000000 in
set_option maxRecDepth 100000 in
theorem q_X11_value (x1 : Int32) (z1 : Int) (p1 : x1 = mJ z1) (x2 : Int32) (z2 : Int) (p2 : x2 = mJ z2) (ζ : ZS) (σ : HS) (hr : Rp ζ σ) : Sm QOI (g_X11_value z1 z2 ζ) (f_X11_value 26 x1 x2 σ) := by
    unfold g_X11_value f_X11_value
    refine sm_bind (q_X11_freshen _ _ hr) (fun q1 w1 e1 => ?_)
    refine sm_rk (a := 30) (pts (rp_s e1) 26 2 30 rfl) kd_30 ?_
    refine sm_bind (q_X9_isTold _ _ p1 _ _ e1) (fun q2 w2 e2 => ?_)
    refine sm_ieq e2.1 li_0 ?_ ?_
    · exact q_X11_value_23 _ _ e2.2
    · refine sm_bind (q_X11_hasMeasure _ _ p2 _ _ e2.2) (fun q3 w3 e3 => ?_)
      refine sm_ieq e3.1 li_0 ?_ ?_
      · exact q_X11_value_23 _ _ e3.2
      · refine sm_rk (a := 30) (pts (rp_s e3.2) 26 2 30 rfl) kd_30 ?_
        refine sm_rk (a := 40) (pts (rp_s e3.2) 30 1 40 rfl) kd_40 ?_
        refine sm_ck p1 ln_40 (fun b104 => ?_)
        refine sm_rk (aa18 e3.2 kd_40 ln_40 p1 b104) (ak18 kd_40 ln_40 b104) ?_
        refine sm_ck p2 (al18 kd_40 ln_40 b104) (fun b105 => ?_)
        exact sm_so ⟨congrArg some (rdI (a := 40 + 1 + Int.toNat z1) e3.2 p2 b105 (Nat.le_of_ble_eq_true rfl)), e3.2⟩
set_option maxHeartbeats 4000000 in
set_option maxRecDepth 100000 in
theorem q_X11_gap_31  (ζ : ZS) (σ : HS) (hr : Rp ζ σ) : Sm QOJ (g_X11_gap_31 ζ) (f_X11_gap_31 σ) := by
    unfold g_X11_gap_31 f_X11_gap_31
    exact sm_so ⟨rfl, hr⟩
set_option maxHeartbeats 4000000 in
set_option maxRecDepth 100000 in
theorem q_X11_gap (x1 : Int32) (z1 : Int) (p1 : x1 = mJ z1) (x2 : Int32) (z2 : Int) (p2 : x2 = mJ z2) (x3 : Int32) (z3 : Int) (p3 : x3 = mJ z3) (ζ : ZS) (σ : HS) (hr : Rp ζ σ) : Sm QOJ (g_X11_gap z1 z2 z3 ζ) (f_X11_gap 26 x1 x2 x3 σ) := by
    unfold g_X11_gap f_X11_gap
    refine sm_bind (q_X11_freshen _ _ hr) (fun q1 w1 e1 => ?_)
    refine sm_bind (q_X11_isPart _ _ p3 _ _ e1) (fun q2 w2 e2 => ?_)
    refine sm_ieq e2.1 li_0 ?_ ?_
    · exact q_X11_gap_31 _ _ e2.2
    · refine sm_rk (a := 125) (pts (rp_s e2.2) 26 4 125 rfl) kd_125 ?_
      refine sm_rk (a := 50) (pts (rp_s e2.2) 26 3 50 rfl) kd_50 ?_
      refine sm_rk (a := 68) (pts (rp_s e2.2) 50 2 68 rfl) kd_68 ?_
      refine sm_bind (q_X4_compare _ kd_68 _ _ p1 _ _ p2 _ _ e2.2) (fun q3 w3 e3 => ?_)
      refine sm_ieq e3.1 li_m1 ?_ ?_
      · exact q_X11_gap_31 _ _ e3.2
      · refine sm_rk (a := 125) (pts (rp_s e3.2) 26 4 125 rfl) kd_125 ?_
        refine sm_rk (a := 145) (pts (rp_s e3.2) 26 8 145 rfl) kd_145 ?_
        refine sm_bind (q_X4_fillGap _ _ p1 _ _ p2 _ _ e3.2) (fun q4 w4 e4 => ?_)
        refine sm_rk (a := 145) (pts (rp_s e4) 26 8 145 rfl) kd_145 ?_
        refine sm_bind (q_X3_reduce _ _ e4) (fun q5 w5 e5 => ?_)
        refine sm_rk (a := 145) (pts (rp_s e5) 26 8 145 rfl) kd_145 ?_
        refine sm_bind (q_X3_part _ _ p3 _ _ e5) (fun q6 w6 e6 => ?_)
        exact sm_so ⟨congrArg some e6.1, e6.2⟩
theorem inv_value (x1 x2 : Int32) {σ : HS} (h : Inv σ) : ∃ o σ1 b σ2, f_X11_value 26 x1 x2 σ = some (o, σ1) ∧ f_X12_value 0 x1 x2 σ1 = some (b, σ2) ∧ Inv σ2 ∧ ((o = some b ∧ σ2.1 0 0 = 0) ∨ (o = none ∧ σ2.1 0 0 = 1)) :=
  inv_throw (cv := mJ) (X := g_X11_value x1.toInt x2.toInt) (Y := g_X12_value x1.toInt x2.toInt) (F := f_X11_value 26 x1 x2) (G := f_X12_value 0 x1 x2) (Q := fun A => QVa A x1.toInt x2.toInt) (fun ζ σ hr => q_X11_value x1 x1.toInt (jt x1) x2 x2.toInt (jt x2) ζ σ hr) (fun ζ σ hr => q_X12_value x1 x1.toInt (jt x1) x2 x2.toInt (jt x2) ζ σ hr) (fun A ζ h hW => a_value h hW (jr x1) (jr x2)) (fun A ζ h hW => b_value h hW (jr x1) (jr x2)) (fun A s t v w _ p q => qva_fun p q) h
theorem inv_gap (x1 x2 x3 : Int32) {σ : HS} (h : Inv σ) : ∃ o σ1 b σ2, f_X11_gap 26 x1 x2 x3 σ = some (o, σ1) ∧ f_X12_gap 0 x1 x2 x3 σ1 = some (b, σ2) ∧ Inv σ2 ∧ ((o = some b ∧ σ2.1 0 0 = 0) ∨ (o = none ∧ σ2.1 0 0 = 1)) :=
  inv_throw (cv := mL) (X := g_X11_gap x1.toInt x2.toInt x3.toInt) (Y := g_X12_gap x1.toInt x2.toInt x3.toInt) (F := f_X11_gap 26 x1 x2 x3) (G := f_X12_gap 0 x1 x2 x3) (Q := fun A => QGp A x1.toInt x2.toInt x3.toInt) (fun ζ σ hr => q_X11_gap x1 x1.toInt (jt x1) x2 x2.toInt (jt x2) x3 x3.toInt (jt x3) ζ σ hr) (fun ζ σ hr => q_X12_gap x1 x1.toInt (jt x1) x2 x2.toInt (jt x2) x3 x3.toInt (jt x3) ζ σ hr) (fun A ζ h hW => a_gap h hW (jr x1) (jr x2) (jr x3)) (fun A ζ h hW => b_gap h hW (jr x1) (jr x2) (jr x3)) (fun A s t v w _ p q => qgp_fun p q) h
theorem inv_thrown {σ : HS} : f_X12_thrown 0 σ = some (σ.1 0 0, σ) := rfl
