/-! value and gap: an answer or none -/
def QVa (A : Nat → Nat → Int) (x y thr v : Int) : Prop := ((thz A x = true ∧ 0 ≤ y ∧ y < A 0 20) ∧ thr = 0 ∧ v = val A x.toNat y.toNat) ∨ (¬ (thz A x = true ∧ 0 ≤ y ∧ y < A 0 20) ∧ thr = 1)
theorem qva_fun {A : Nat → Nat → Int} {x y s t v w : Int} (h : QVa A x y s v) (g : QVa A x y t w) : s = t ∧ (s = 0 → v = w) := by
  rcases h with ⟨a, b, c⟩ | ⟨a, b⟩ <;> rcases g with ⟨d, e, f⟩ | ⟨d, e⟩
  · exact ⟨by omega, fun _ => c.trans f.symm⟩
  · exact absurd a d
  · exact absurd d a
  · exact ⟨by omega, fun q => by omega⟩
theorem a_value {A : Nat → Nat → Int} {ζ : ZS} (h : Rf A ζ) (hW : Wall A) {x y : Int} (hx : r32 x) (hy : r32 y) : Ok (g_X12_value x y ζ) (fun r => RP A ζ (QVa A x y (r.2.1 0 0)) r) := by
  have hw := hW.1
  have qk := hw.1
  have no : ¬ (thz A x = true ∧ 0 ≤ y ∧ y < A 0 20) → Ok (g_X12_value_27 x y ζ) (fun r => RP A ζ (QVa A x y (r.2.1 0 0)) r) := fun hn => by
    unfold g_X12_value_27 g_X12_value_28 g_X12_value_48
    have e : (zI ζ 0 0 1).1 0 0 = 1 := by rw [zI_1, if_pos ⟨rfl, rfl⟩]
    rw [e]
    exact ok_gI (by omega) (by omega) (by omega) (by omega) (fun q => by omega) (fun _ => ok_some ⟨Or.inr ⟨hn, e⟩, rf_0 h 1, fx_I (fx_refl _ _) (by decide)⟩)
  unfold g_X12_value
  refine ok_beq (s_isThing h hw hx) (ok_bi (fun e => no (fun q => by rw [q.1] at e; cases e)) (fun e => ?_))
  rw [rf_k h]
  refine ok_beq (s_within ζ hy (by omega) (by omega)) (ok_bi (fun e2 => no (fun q => ?_)) (fun e2 => ?_))
  · rw [decide_eq_true q.2.1, decide_eq_true (show y ≤ A 0 20 - 1 by omega)] at e2; cases e2
  · have yb := bd_t e2
    have xb : 0 ≤ x ∧ x ≤ 7 := by
      unfold thz at e
      simp only [Bool.and_eq_true, decide_eq_true_eq] at e
      exact e.1
    unfold g_X12_value_28 g_X12_value_48
    have e0 : (zI ζ 0 0 0).1 0 0 = 0 := by rw [zI_1, if_pos ⟨rfl, rfl⟩]
    rw [e0]
    refine ok_gI (by omega) (by omega) (by omega) (by omega) (fun _ => ok_beq (s_valueOf (rf_0 h 0) hw (t := x.toNat) (m := y.toNat) (by omega) (by omega) (by omega) (by omega)) (ok_some ⟨Or.inl ⟨⟨e, by omega, by omega⟩, e0, rfl⟩, rf_0 h 0, fx_I (fx_refl _ _) (by decide)⟩)) (fun q => by omega)
/-- an answer, or none: it was thrown -/
def CPt (A : Nat → Nat → Int) (ζ : ZS) (Q : Int → Int → Prop) (r : Option Int × ZS) : Prop := ((∃ v, r.1 = some v ∧ Q 0 v) ∨ (r.1 = none ∧ Q 1 0)) ∧ Cls A r.2 ∧ Fx (fun x _ => 26 ≤ x) ζ r.2
def g_X11_value_23  (ζ : ZS) : Option (Option Int × ZS) :=
    some (none, ζ)
def g_X11_value (z1 : Int) (z2 : Int) (ζ : ZS) : Option (Option Int × ZS) :=
    (g_X11_freshen ζ).bind fun q1 =>
    (g_X9_isTold z1 q1).bind fun q2 =>
    gI q2.1 0 (q2.1 = 0) (
      g_X11_value_23 q2.2) (
      (g_X11_hasMeasure z2 q2.2).bind fun q3 =>
      gI q3.1 0 (q3.1 = 0) (
        g_X11_value_23 q3.2) (
        gk z1 8 (
        gk z2 4 (
        some (some (q3.2.1 (40 + 1 + Int.toNat z1) (Int.toNat z2)), q3.2)))))
def g_X11_gap_31  (ζ : ZS) : Option (Option Int × ZS) :=
    some (none, ζ)
def g_X11_gap (z1 : Int) (z2 : Int) (z3 : Int) (ζ : ZS) : Option (Option Int × ZS) :=
    (g_X11_freshen ζ).bind fun q1 =>
    (g_X11_isPart z3 q1).bind fun q2 =>
    gI q2.1 0 (q2.1 = 0) (
      g_X11_gap_31 q2.2) (
      (g_X4_compare 68 z1 z2 q2.2).bind fun q3 =>
      gI q3.1 (-1) (q3.1 = (-1)) (
        g_X11_gap_31 q3.2) (
        (g_X4_fillGap z1 z2 q3.2).bind fun q4 =>
        (g_X3_reduce q4).bind fun q5 =>
        (g_X3_part z3 q5).bind fun q6 =>
        some (some q6.1, q6.2)))
theorem b_value {A : Nat → Nat → Int} {ζ : ZS} (h : Cls A ζ) (hW : Wall A) {x y : Int} (hx : r32 x) (hy : r32 y) : Ok (g_X11_value x y ζ) (CPt A ζ (QVa A x y)) := by
  have hw := hW.1
  have qk := hw.1
  unfold g_X11_value g_X11_value_23
  refine ok_bind (s_fresh hW h) (fun ζ1 ⟨c1, f1⟩ => ?_)
  have no : ¬ (thz A x = true ∧ 0 ≤ y ∧ y < A 0 20) → Ok (some ((none : Option Int), ζ1)) (CPt A ζ (QVa A x y)) := fun q => ok_some ⟨Or.inr ⟨rfl, Or.inr ⟨q, rfl⟩⟩, cf_cls c1, f1⟩
  refine ok_beq (s_isTold c1.1.2.1.1 hx) (ok_bi (fun e => no (fun q => by rw [q.1] at e; cases e)) (fun e => ?_))
  refine ok_beq (s_hasMeasure c1.1.2.2.1 hw hy) (ok_bi (fun e2 => no (fun q => ?_)) (fun e2 => ?_))
  · rw [decide_eq_true q.2.1, decide_eq_true q.2.2] at e2; cases e2
  · simp only [Bool.and_eq_true, decide_eq_true_eq] at e2
    have xb : 0 ≤ x ∧ x ≤ 7 := by
      unfold thz at e
      simp only [Bool.and_eq_true, decide_eq_true_eq] at e
      exact e.1
    refine ok_gk (by omega) (by omega) (ok_gk (by omega) (by omega) (ok_some ⟨Or.inl ⟨_, rfl, Or.inl ⟨⟨e, e2⟩, rfl, ?_⟩⟩, cf_cls c1, f1⟩))
    have := c1.2.1.1.1 x.toNat y.toNat (by omega) (by omega)
    rw [show 40 + 1 + x.toNat = 41 + x.toNat by omega]
    exact this
theorem b_gap {A : Nat → Nat → Int} {ζ : ZS} (h : Cls A ζ) (hW : Wall A) {x y z : Int} (hx : r32 x) (hy : r32 y) (hz : r32 z) : Ok (g_X11_gap x y z ζ) (CPt A ζ (QGp A x y z)) := by
  have qk := hW.1.1
  obtain ⟨k, hk⟩ : ∃ k : Nat, A 0 20 = k := ⟨(A 0 20).toNat, by omega⟩
  unfold g_X11_gap g_X11_gap_31
  refine ok_bind (s_fresh hW h) (fun ζ1 ⟨c1, f1⟩ => ok_beq (s_isPart ζ1 hz) (ok_bi (fun e => ok_some ⟨Or.inr ⟨rfl, Or.inr ⟨fun q => ?_, rfl⟩⟩, cf_cls c1, f1⟩) (fun e => ?_)))
  · exact bd_f e q.2.1
  have ez := bd_t e
  refine ok_bind (s_compare hW.1 c1.2.1.1 (cf_fit c1 hk) (by omega) (by omega) hx hy) (fun r ⟨r1, r2⟩ => ?_)
  have fs : Fx Wsc ζ1 r.2 := fx_mono r2 (fun x y q => by unfold We at q; unfold Wsc; omega)
  have c2 := cf_sc hW.2.1 c1 fs
  have f12 := fx_trans f1 (wsc_26 fs)
  have rb : -1 ≤ r.1 ∧ r.1 ≤ 2 := by
    rcases r1 with ⟨_, _, q⟩ | ⟨_, q⟩
    · rcases q with ⟨q, _⟩ | ⟨q, _⟩ | ⟨q, _⟩ <;> omega
    · omega
  refine ok_gI (by omega) (by omega) (by omega) (by omega) (fun g => ok_some ⟨Or.inr ⟨rfl, Or.inr ⟨fun q => ?_, rfl⟩⟩, cf_cls c2, f12⟩) (fun g => ?_)
  · rcases r1 with ⟨_, _, c⟩ | ⟨a, _⟩
    · rcases c with ⟨c, _⟩ | ⟨c, _⟩ | ⟨c, _⟩ <;> omega
    · exact a ⟨q.1, q.2.2⟩
  · obtain ⟨tw, nv⟩ : two A x y = true ∧ NV (Sc A (hrd A)) := by
      rcases r1 with ⟨a, b, _⟩ | ⟨_, c⟩
      · exact ⟨a, b⟩
      · omega
    have e2 := tw
    unfold two at e2
    simp only [Bool.and_eq_true] at e2
    have ix := inz_r e2.1.1
    have iy := inz_r e2.1.2
    refine ok_bind (s_fillGap hW.1 c2.2.1.1 (a := x.toNat) (b := y.toNat) (by omega) (by omega) (by omega) (by omega) (cf_fit c2 hk) sc_xp nv) (fun ζ2 ⟨q1, q2, q3⟩ => ?_)
    have b1 := q2.1
    have b2 := q2.2
    refine ok_bind (s_reduce rfl rfl b2.1 (by omega) (by omega)) (fun ζ3 ⟨d1, d2, f3⟩ => ok_beq (s_part hz) (ok_some ?_))
    have fs3 : Fx Wsc r.2 ζ3 := fx_trans (gp_sc q3) (fx_mono f3 (fun x y q => by unfold We at q; unfold Wsc; omega))
    refine ⟨Or.inl ⟨_, rfl, Or.inl ⟨⟨tw, ez, nv⟩, rfl, _, _, q1, ?_⟩⟩, cf_cls (cf_sc hW.2.1 c2 fs3), fx_trans f12 (wsc_26 fs3)⟩
    rw [d1, d2]
    exact red_e ez
