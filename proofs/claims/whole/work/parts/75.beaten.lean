/-! beaten -/
def W6 (lv R : Nat) (x y : Nat) : Prop := Wm lv R x y ∨ (x = 0 ∧ y = 36)
theorem rf_W6 {A : Nat → Nat → Int} {ζ ζ' : ZS} {lv R : Nat} (h : Rf A ζ) (hf : Fx (W6 lv R) ζ ζ') : Rf A ζ' := rf_fx h hf (fun c k hp => by unfold psl at hp; unfold W6 Wm; omega)
theorem w6_25 {ζ ζ' : ZS} {lv R : Nat} (h : Fx (W6 lv R) ζ ζ') : Fx (fun x _ => x < 25 ∧ x ≠ 5) ζ ζ' := fx_mono h (fun x y g => by unfold W6 Wm at g; show x < 25 ∧ x ≠ 5; omega)
theorem lb_W6 {A : Nat → Nat → Int} {ζ ζ' : ZS} {lv q R : Nat} {X : V4 → Prop} (h : Lb A ζ lv X q) (hq : q ≤ 20) (hR : ζ.1 21 lv = R) (hf : Fx (W6 lv R) ζ ζ') : Lb A ζ' lv X q ∧ ζ'.1 21 lv = R := by
  obtain ⟨k, R', n, ρ, hk, hr, hRk, hRs, hsem, hL⟩ := h
  have e : R' = R := by have := hL.2.1; omega
  subst e
  have h4 := hRk.2.1
  have n44 := (cntR hRk (by omega) hL.2.2.1 hL.2.2.2.1).1
  have e21 : ζ'.1 21 lv = R' := by rw [(hf.1 21 lv (by unfold W6 Wm; omega)).1]; exact hL.2.1
  refine ⟨⟨k, R', n, ρ, hk, fun b hb m hm => ?_, hRk, hRs, hsem, by rw [(hf.1 20 lv (by unfold W6 Wm; omega)).1]; exact hL.1, e21, isc_e4 Ak_pos hL.2.2 (fun i hi m hm => ?_)⟩, e21⟩
  · rw [← hr b hb m hm]; exact (hf.1 19 _ (by unfold W6 Wm; omega)).2
  · exact ((hf.1 22 _ (by unfold W6 Wm; omega)).2).symm
theorem lw_congr {A : Nat → Nat → Int} {ζ : ZS} {lv q q' : Nat} {X Y : V4 → Prop} (h : Lw A ζ lv X q) (e : ∀ w, X w ↔ Y w) (hq : q ≤ q') : Lw A ζ lv Y q' := by
  obtain ⟨⟨k, R, n, ρ, a1, a2, a3, a4, a5, a6⟩, a7⟩ := h
  exact ⟨⟨k, R, n, ρ, a1, a2, a3, by omega, fun w => (a5 w).trans (e w), a6⟩, a7⟩
/-- others that are in -/
def oth (A : Nat → Nat → Int) (t : Nat) : Nat → Bool := fun u => inb A u && !decide (u = t)
noncomputable def Db (A : Nat → Nat → Int) (t : Nat) (P : Nat → Bool) : Bool := cdec (¬ NV (XP (Sc A (hrd A)) (leadv A t) 8 P))
/-- of a search over levels -/
def SrL (A : Nat → Nat → Int) (ζ : ZS) (lv R : Nat) (P : Nat → Bool) (o : Option (Nat → Bool)) (r : Int × ZS) : Prop := Fx (W6 lv R) ζ r.2 ∧ r.2.1 0 26 = R ∧ match o with
  | some q => r.1 = 1 ∧ r.2.1 0 36 = ((msk (fun i => P i || q i) 8 : Nat) : Int)
  | none => r.1 = 0
theorem s_beatenFrom {A : Nat → Nat → Int} (hW : Wall A) {t : Nat} (ht : t < 8) : ∀ (d l : Nat), l < d → l ≤ 3 → ∀ (fr lv R : Nat) (P : Nat → Bool) (z y x u : Int) (ζ : ZS), z = l → y = fr → x = ((msk P 8 : Nat) : Int) → u = lv → fr ≤ 8 → lv + l ≤ 3 → Rf A ζ → Lw A ζ lv (XP (Sc A (hrd A)) (leadv A t) 8 P) (12 + lv) → ζ.1 21 lv = R → Ok (g_X12_beatenFrom d (t : Int) z y x u ζ) (SrL A ζ lv R P (fsp (Db A t) (oth A t) 8 l fr P)) := by
  have hx := hW.2.2.2.1
  have h32 := hW.2.2.2.2.1
  intro d
  induction d with
  | zero => intro l h; omega
  | succ d ihd =>
    intro l hl hl3 fr lv R P z y x u ζ hz hy hxx hu hfr hlv h hL hR
    subst hz; subst hy; subst hxx; subst hu
    unfold g_X12_beatenFrom g_X12_beatenFrom_0
    have h26 : ζ.1 0 26 = R := by rw [hL.2, hR]
    cases l with
    | zero =>
      refine ok_gI (by omega) (by omega) (by omega) (by omega) (fun _ => ?_) (fun g => absurd rfl g)
      obtain ⟨n, hn, n44, hne, _⟩ := lb_n hL.1 (by omega)
      unfold g_X12_beatenFrom_24 g_X12_beatenFrom_42 fsp
      rw [show Int.toNat (lv : Int) = lv by omega, hn]
      have r20 : ∀ v, (zI ζ 0 36 v).1 20 lv = n := fun v => by rw [zI_1, if_neg (by omega)]; exact hn
      have r26 : ∀ v, (zI ζ 0 36 v).1 0 26 = R := fun v => by rw [zI_1, if_neg (by omega)]; exact h26
      have fx : ∀ v, Fx (W6 lv R) ζ (zI ζ 0 36 v) := fun v => fx_I (fx_refl _ _) (Or.inr ⟨rfl, rfl⟩)
      refine ok_gk (by omega) (by omega) (ok_gI (by omega) (by omega) (by omega) (by omega) (fun g => ?_) (fun g => ?_))
      · rw [r20]
        have dn : Db A t P = true := cdec_iff.mpr (fun q => by have := hne.mpr q; omega)
        rw [dn, if_pos rfl]
        refine ok_gk (by omega) (by omega) (ok_gI (by omega) (by omega) (by omega) (by omega) (fun _ => ok_gz (Or.inr rfl) (ok_some ⟨fx _, r26 _, rfl, ?_⟩)) (fun g2 => absurd g g2))
        rw [zI_1, if_pos ⟨rfl, rfl⟩, msk_or0]
      · rw [r20]
        have dn : Db A t P = false := cdec_f.mpr (fun q => q (hne.mp (by omega)))
        rw [dn, if_neg (by decide)]
        exact ok_gk (by omega) (by omega) (ok_gI (by omega) (by omega) (by omega) (by omega) (fun g2 => absurd g2 g) (fun _ => ok_gz (Or.inl rfl) (ok_some ⟨fx _, r26 _, rfl⟩)))
    | succ l =>
      refine ok_gI (by omega) (by omega) (by omega) (by omega) (fun g => by omega) (fun _ => ?_)
      unfold fsp
      -- found already
      have done : ∀ (n : Nat) (w : Int) (ζ1 : ZS), r32 w → 0 < n → Ok (g_X12_beatenFrom_49 (g_X12_beatenFrom d) (t : Int) ((l + 1 : Nat) : Int) ((msk P 8 : Nat) : Int) (lv : Int) n 1 w ζ1) (fun r => r = (1, ζ1)) := by
        intro n w ζ1 hw hn
        obtain ⟨n', e⟩ : ∃ n', n = n' + 1 := ⟨n - 1, by omega⟩
        subst e
        unfold g_X12_beatenFrom_49 g_X12_beatenFrom_128
        exact ok_gI (by omega) (by omega) hw.1 hw.2 (fun _ => ok_gz (Or.inr rfl) (ok_some rfl)) (fun _ => ok_gI (by omega) (by omega) (by omega) (by omega) (fun g => absurd g (by omega)) (fun _ => ok_gz (Or.inr rfl) (ok_some rfl)))
      have key : ∀ (n : Nat) (w : Int) (s : Nat) (ζ1 : ZS), w = s → s ≤ 8 → 9 - s < n → Fx (W6 lv R) ζ ζ1 → ζ1.1 0 26 = R → Ok (g_X12_beatenFrom_49 (g_X12_beatenFrom d) (t : Int) ((l + 1 : Nat) : Int) ((msk P 8 : Nat) : Int) (lv : Int) n 0 w ζ1) (SrL A ζ lv R P (lop (oth A t) (fun s => (fsp (Db A t) (oth A t) 8 l (s + 1) (ins P s)).map (fun q => ins q s)) (8 - s) s)) := by
        intro n
        induction n with
        | zero => intro _ _ _ _ _ h; omega
        | succ n ih =>
          intro w s ζ1 hw hs hn f1 e26
          subst hw
          have h1 := rf_W6 h f1
          have L1 := lb_W6 hL.1 (by omega) hR f1
          unfold g_X12_beatenFrom_49 g_X12_beatenFrom_122 g_X12_beatenFrom_128
          refine ok_gI (by omega) (by omega) (by omega) (by omega) (fun g => ?_) (fun g => ok_gI (by omega) (by omega) (by omega) (by omega) (fun _ => ?_) (fun g2 => absurd rfl g2))
          · rw [show 8 - s = 0 by omega]
            exact ok_gz (Or.inl rfl) (ok_some ⟨f1, e26, rfl⟩)
          · have hs8 : s < 8 := by omega
            rw [show 8 - s = (8 - (s + 1)) + 1 by omega]
            refine ok_gI (by omega) (by omega) (by omega) (by omega) (fun g1 => ?_) (fun g1 => ?_)
            · rw [lop_skip (by unfold oth; rw [decide_eq_true (show s = t by omega)]; simp)]
              exact ih _ (s + 1) ζ1 (by omega) (by omega) (by omega) f1 e26
            · refine ok_beq (s_isInN h1 hW.1 rfl hs8) (ok_bi (fun e => ?_) (fun e => ?_))
              · rw [lop_skip (by unfold oth; rw [e]; rfl)]
                exact ih _ (s + 1) ζ1 (by omega) (by omega) (by omega) f1 e26
              · have eu : oth A t s = true := by unfold oth; rw [e, decide_eq_false (show ¬ s = t by omega)]; rfl
                obtain ⟨ζ2, e2, g1, g3, g4, g5⟩ := s_deeper (x := (lv : Int)) h1 hW.1 hx (a := t) (b := s) rfl rfl rfl ht hs8 (by omega) ⟨L1.1, by rw [e26, L1.2]⟩ (by omega) L1.2
                cases hc : g_X12_addsAbove (t : Int) (s : Int) ζ1 with
                | none => rw [hc] at e2; cases e2
                | some q3 =>
                  rw [hc] at e2
                  have e2 : g_X12_findMore ((lv : Int) + 1) q3 = some ζ2 := e2
                  refine ok_beq rfl (ok_beq e2 ?_)
                  have L2 : Lw A ζ2 (lv + 1) (XP (Sc A (hrd A)) (leadv A t) 8 (ins P s)) (12 + (lv + 1)) := lw_congr g1 (fun w => by rw [abv_lead h32]; exact xp_ins hs8) (by omega)
                  obtain ⟨R', hR'⟩ : ∃ R' : Nat, ζ2.1 21 (lv + 1) = R' := ⟨(ζ2.1 21 (lv + 1)).toNat, by omega⟩
                  refine ok_bind (ihd l (by omega) (by omega) (s + 1) (lv + 1) R' (ins P s) _ _ _ _ ζ2 (by omega) (by omega) (by rw [z_in P (by omega) hs8]; rfl) (by omega) (by omega) (by omega) g3 L2 hR') (fun r ⟨r1, r2, r3⟩ => ?_)
                  have f2 : Fx (W6 lv R) ζ1 ζ2 := fx_mono g4 (fun x y q => Or.inl q)
                  have f3 : Fx (W6 lv R) ζ2 r.2 := fx_mono r1 (fun x y q => by
                    rcases q with q | q
                    · exact Or.inl (wm_mono (by omega) (by omega) x y q)
                    · exact Or.inr q)
                  have L3 := lb_W6 L1.1 (by omega) L1.2 (fx_trans f2 f3)
                  have bk := s_backTo (x := (lv : Int)) rfl (by omega) L3.1 L3.2
                  refine ok_beq bk.1 ?_
                  have f4 : Fx (W6 lv R) ζ (zI r.2 0 26 (R : Int)) := fx_I (fx_trans f1 (fx_trans f2 f3)) (by unfold W6 Wm; omega)
                  have e26' : (zI r.2 0 26 (R : Int)).1 0 26 = R := by rw [zI_1, if_pos ⟨rfl, rfl⟩]
                  cases ef : fsp (Db A t) (oth A t) 8 l (s + 1) (ins P s) with
                  | none =>
                    rw [ef] at r3
                    have r3 : r.1 = 0 := r3
                    rw [r3, lop_miss eu (by rw [ef]; rfl)]
                    exact ih _ (s + 1) _ (by omega) (by omega) (by omega) f4 e26'
                  | some q =>
                    rw [ef] at r3
                    have r3 : r.1 = 1 ∧ r.2.1 0 36 = ((msk (fun i => ins P s i || q i) 8 : Nat) : Int) := r3
                    rw [r3.1, lop_hit (x := ins q s) eu (by rw [ef]; rfl)]
                    refine ok_mono (done n _ _ (by omega) (by omega)) (fun z hz => ?_)
                    rw [hz]
                    refine ⟨f4, e26', rfl, ?_⟩
                    show (zI r.2 0 26 (R : Int)).1 0 36 = _
                    rw [zI_1, if_neg (by omega), r3.2, msk_ins]
      exact key FU _ fr ζ rfl hfr (by rw [FU_e]; omega) (fx_refl _ _) h26
def beC (A : Nat → Nat → Int) (z : Int) : Prop := inz A z = true ∧ NV (Sc A (hrd A)) ∧ ¬ may A (Sc A (hrd A)) z.toNat
def QBe (A : Nat → Nat → Int) (z v : Int) : Prop := (beC A z ∧ Qz (fz (Db A z.toNat) (oth A z.toNat) 8 3 1) 8 1 v) ∨ (¬ beC A z ∧ v = -1)
theorem qbe_fun {A : Nat → Nat → Int} {z v w : Int} (h : QBe A z v) (g : QBe A z w) : v = w := by
  rcases h with ⟨p, q⟩ | ⟨p, q⟩ <;> rcases g with ⟨p', q'⟩ | ⟨p', q'⟩
  · exact Qz_fun q q'
  · exact absurd p p'
  · exact absurd p' p
  · omega
theorem a_beaten {A : Nat → Nat → Int} {ζ : ZS} (h : Rf A ζ) (hW : Wall A) {z : Int} (hz : r32 z) : Ok (g_X12_beaten z ζ) (RP A ζ (QBe A z)) := by
  have f0 : Fx (fun x _ => x < 25 ∧ x ≠ 5) ζ (zI ζ 0 0 0) := fx_I (fx_refl _ _) (by decide)
  have h0 := rf_0 h 0
  unfold g_X12_beaten g_X12_beaten_29
  refine ok_beq (s_isThingIn h0 hW.1 hz) (ok_bi (fun e => ok_some (rp_same h (Or.inr ⟨fun q => (by have := q.1; rw [e] at this; cases this), rfl⟩))) (fun e => ?_))
  have iz := inz_r e
  obtain ⟨t, hzt⟩ : ∃ t : Nat, z = t := ⟨z.toNat, by omega⟩
  subst hzt
  have et : Int.toNat (t : Int) = t := by omega
  refine ok_bind (s_findNow h0 hW) (fun r ⟨lw, hr, hf, r01, r1⟩ => ?_)
  have f1 := fx_trans f0 (wq_25 hf)
  refine ok_gI (by omega) (by omega) (by omega) (by omega) (fun g => ok_some ⟨Or.inr ⟨fun q => (by have := r1.mpr q.2.1; omega), rfl⟩, hr, f1⟩) (fun g => ?_)
  have hcan := r1.mp (by omega)
  obtain ⟨R, hR⟩ : ∃ R : Nat, r.2.1 21 0 = R := by
    obtain ⟨⟨k, R', n', ρ, a1, a2, a3, a4, a5, a6⟩, a7⟩ := lw
    exact ⟨R', a6.2.1⟩
  refine ok_bind (s_mayBe hr hW.1 hW.2.2.2.1 (t := t) (lv := 0) rfl rfl (by omega) (by omega) lw (by omega) hR) (fun q ⟨⟨p, q1, q2⟩, q3, q4, q5⟩ => ?_)
  rw [q1]
  have f2 := fx_trans f1 (wm_25 q5)
  refine ok_bi (fun e2 => ?_) (fun e2 => ok_some ⟨Or.inr ⟨fun q => q.2.2 (by rw [et]; exact q2.mp e2), rfl⟩, q4, f2⟩)
  have bc' : beC A t := ⟨e, hcan, fun c => by rw [et] at c; rw [q2.mpr c] at e2; cases e2⟩
  obtain ⟨R2, hR2⟩ : ∃ R : Nat, q.2.1 21 0 = R := by
    obtain ⟨⟨k, R', n', ρ, a1, a2, a3, a4, a5, a6⟩, a7⟩ := q3
    exact ⟨R', a6.2.1⟩
  generalize q.2 = ζ0 at q3 q4 q5 f2 hR2
  have L0 : Lw A ζ0 0 (XP (Sc A (hrd A)) (leadv A t) 8 (fun _ => false)) (12 + 0) := lw_congr q3 (fun w => xpz_0.symm) (by omega)
  have key : ∀ (n : Nat) (w : Int) (j : Nat) (ζ1 : ZS), w = j → 1 ≤ j → j ≤ 4 → 4 - j < n → Fx (W6 0 R2) ζ0 ζ1 → ζ1.1 0 26 = R2 → Ok (g_X12_beaten_33 (t : Int) n w ζ1) (RP A ζ (fun v => Qz (fz (Db A t) (oth A t) 8 (4 - j) j) 8 1 v)) := by
    intro n
    induction n with
    | zero => intro _ _ _ _ _ _ h; omega
    | succ n ih =>
      intro w j ζ1 hw hj1 hj hn hf1 e26
      subst hw
      have h1 := rf_W6 q4 hf1
      have L1 := lb_W6 L0.1 (by omega) hR2 hf1
      unfold g_X12_beaten_33
      refine ok_gI (by omega) (by omega) (by omega) (by omega) (fun g => ?_) (fun g => ?_)
      · have : j = 4 := by omega
        subst this
        exact ok_some ⟨rfl, h1, fx_trans f2 (w6_25 hf1)⟩
      · rw [show 4 - j = (4 - (j + 1)) + 1 by omega]
        refine ok_bind (s_beatenFrom hW (by omega) DEP j (by rw [DEP_e]; omega) (by omega) 0 0 R2 (fun _ => false) _ _ _ _ ζ1 rfl rfl (by rw [msk_0 _ (fun _ _ => rfl)]; rfl) rfl (by omega) (by omega) h1 ⟨L1.1, by rw [e26, L1.2]⟩ L1.2) (fun q ⟨q1, q2, q3⟩ => ?_)
        have f3 := fx_trans hf1 q1
        have hq := rf_W6 h1 q1
        unfold fz
        cases ef : fsp (Db A t) (oth A t) 8 j 0 (fun _ => false) with
        | none =>
          rw [ef] at q3
          have q3 : q.1 = 0 := q3
          rw [q3]
          exact ok_gI (by omega) (by omega) (by omega) (by omega) (fun _ => ih _ (j + 1) q.2 (by omega) (by omega) (by omega) (by omega) f3 q2) (fun g => absurd rfl g)
        | some s =>
          rw [ef] at q3
          have q3 : q.1 = 1 ∧ q.2.1 0 36 = ((msk (fun i => (fun _ => false) i || s i) 8 : Nat) : Int) := q3
          have es : msk (fun i => (fun _ => false) i || s i) 8 = msk s 8 := msk_congr (fun i _ => rfl)
          rw [q3.1]
          refine ok_gI (by omega) (by omega) (by omega) (by omega) (fun g => absurd g (by omega)) (fun _ => ok_some ⟨?_, hq, fx_trans f2 (w6_25 f3)⟩)
          show q.2.1 0 36 = if (1 : Int) = 0 then (j : Int) else ((msk s 8 : Nat) : Int)
          rw [if_neg (by decide), q3.2, es]
  refine ok_mono (key FU 1 1 ζ0 rfl (by omega) (by omega) (by rw [FU_e]; omega) (fx_refl _ _) (by rw [q3.2, hR2])) (fun q hq => ⟨Or.inl ⟨bc', by rw [et]; exact hq.1⟩, hq.2⟩)
/-! the class -/
theorem s_leadsOf {A : Nat → Nat → Int} {ζ : ZS} {t : Nat} {z : Int} (hva : Va A ζ) (hz : z = t) (ht : t < 8) : Ok (g_X4_leadsOf z ζ) (fun r => r.1 = 126 ∧ (∀ u m, u < 8 → m < 4 → r.2.1 (127 + u) m = leadv A t u m) ∧ Fx (fun x _ => 127 ≤ x ∧ x ≤ 134) ζ r.2) := by
  have l8 : ∀ u, u < 8 → ln (127 + u) = 4 := by decide
  have key : ∀ (n : Nat) (w : Int) (j : Nat) (ζ1 : ZS), w = j → j ≤ 8 → 8 - j < n → Fx (fun x _ => 127 ≤ x ∧ x ≤ 134) ζ ζ1 → (∀ u m, u < j → m < 4 → ζ1.1 (127 + u) m = leadv A t u m) → Ok (g_X4_leadsOf_2 z n w ζ1) (fun r => r.1 = 126 ∧ (∀ u m, u < 8 → m < 4 → r.2.1 (127 + u) m = leadv A t u m) ∧ Fx (fun x _ => 127 ≤ x ∧ x ≤ 134) ζ r.2) := by
    intro n
    induction n with
    | zero => intro _ _ _ _ _ h; omega
    | succ n ih =>
      intro w j ζ1 hw hj hn hf hold
      subst hw
      unfold g_X4_leadsOf_2
      refine ok_gI (by omega) (by omega) (by omega) (by omega) (fun g => ok_some ⟨rfl, fun u m hu hm => hold u m (by omega) hm, hf⟩) (fun g => ok_gk (by omega) (by omega) ?_)
      rw [show 126 + 1 + Int.toNat (j : Int) = 127 + j by omega]
      have va1 : ∀ t m, t < 8 → m < 4 → ζ1.1 (41 + t) m = val A t m := fun t m g1 g2 => by rw [(hf.1 _ _ (by omega)).1]; exact hva.1 t m g1 g2
      refine ok_bind (s_fillLead (A := A) (a := t) (b := j) (e := 127 + j) va1 hz rfl ht (by omega) (by omega) (l8 j (by omega))) (fun ζ2 ⟨h2, f2⟩ => ih _ (j + 1) ζ2 (by omega) (by omega) (by omega) (fx_trans hf (fx_mono f2 (fun x y q => by unfold We at q; show 127 ≤ x ∧ x ≤ 134; omega))) (fun u m hu hm => ?_))
      by_cases c : u = j
      · subst c; exact h2 m hm
      · rw [(f2.1 _ _ (by unfold We; omega)).1]; exact hold u m (by omega) hm
  unfold g_X4_leadsOf
  exact key FU 0 0 ζ rfl (by omega) (by rw [FU_e]; omega) (fx_refl _ _) (fun u m hu => by omega)
theorem b_beaten {A : Nat → Nat → Int} {ζ : ZS} (h : Cls A ζ) (hW : Wall A) {z : Int} (hz : r32 z) : Ok (g_X11_beaten z ζ) (CPw A ζ (QBe A z)) := by
  have qk := hW.1.1
  obtain ⟨k, hk⟩ : ∃ k : Nat, A 0 20 = k := ⟨(A 0 20).toNat, by omega⟩
  unfold g_X11_beaten g_X11_beaten_36 g_X5_among
  refine ok_bind (s_fresh hW h) (fun ζ1 ⟨c1, f1⟩ => ok_beq (s_isInC c1.2.1.1.2 hz) (ok_bi (fun e => ok_some (cp_w ⟨Or.inr ⟨fun q => (by have := q.1; rw [e] at this; cases this), rfl⟩, cf_cls c1, f1⟩)) (fun e => ?_)))
  have iz := inz_r e
  refine ok_bind (s_theyCan (A := A) (cf_fit c1 hk) (by omega)) (fun r ⟨r1, b, r2, r3⟩ => ?_)
  rw [r2, r1]
  refine ok_bi (fun e2 => ok_some (cp_w ⟨Or.inr ⟨fun q => (by have := r3.mpr q.2.1; rw [e2] at this; cases this), rfl⟩, cf_cls c1, f1⟩)) (fun e2 => ?_)
  have hcan := r3.mp e2
  refine ok_bind (s_mayBeBest1 hW.1 hW.2.2.2.2.1 c1.2.1.1 (cf_fit c1 hk) (t := z.toNat) (by omega) (by omega)) (fun q ⟨⟨p, q1, q2⟩, q3⟩ => ?_)
  have fs : Fx Wsc ζ1 q.2 := fx_mono q3 (fun x y q => by unfold Ww at q; unfold Wsc; omega)
  have c2 := cf_sc hW.2.1 c1 fs
  have f12 := fx_trans f1 (wsc_26 fs)
  rw [q1]
  refine ok_bi (fun e3 => ?_) (fun e3 => ok_some (cp_w ⟨Or.inr ⟨fun c => c.2.2 (q2.mp e3), rfl⟩, cf_cls c2, f12⟩))
  have bc' : beC A z := ⟨e, hcan, fun c => by rw [q2.mpr c] at e3; cases e3⟩
  refine ok_bind (s_leadsOf c2.2.1.1 (t := z.toNat) (by omega) (by omega)) (fun s ⟨s1, s2, s3⟩ => ?_)
  have fs3 : Fx Wsc q.2 s.2 := fx_mono s3 (fun x y q => by unfold Wsc; omega)
  have c3 := cf_sc hW.2.1 c2 fs3
  have f13 := fx_trans f12 (wsc_26 fs3)
  rw [s1]
  refine ok_rk rfl (by decide) (ok_beq rfl ?_)
  have eu : zand (s.2.1 30 4) (zxor (zshl 1 z) (-1)) = ((msk (oth A z.toNat) 8 : Nat) : Int) := by
    have := z_out (inb A) (n := 8) (t := z.toNat) (by omega) (by omega)
    rw [show ((z.toNat : Nat) : Int) = z by omega] at this
    rw [c3.2.1.1.2]; exact this
  rw [eu]
  have ca := cf_among hW.2.1 c3 126 ((msk (oth A z.toNat) 8 : Nat) : Int)
  have ae := among_e s.2 126 ((msk (oth A z.toNat) 8 : Nat) : Int)
  have pk : Pk (zI (zR s.2 141 1 (some 126)) 141 2 ((msk (oth A z.toNat) 8 : Nat) : Int)) 126 148 (oth A z.toNat) 8 (leadv A z.toNat) (fun _ => -1) := by
    refine ⟨among_r _ _ _, Or.inr ⟨rfl, rfl⟩, among_2 _ _ _, fun r hr hu => ⟨fun m hm => ?_, leadv_bd hW.1 (by omega) hr⟩, Or.inr rfl, fun m hm => ?_, nev_bd⟩
    · rw [ae _ _ (by omega), show 126 + 1 + r = 127 + r by omega]; exact s2 r m hr hm
    · rw [ae _ _ (by omega)]; exact c3.1.2.2.2.2.2.2.2.2 m hm
  have al : ∀ x y, (zI (zR s.2 141 1 (some 126)) 141 2 ((msk (oth A z.toNat) 8 : Nat) : Int)).2.1 x y = s.2.2.1 x y := fun _ _ => rfl
  generalize zI (zR s.2 141 1 (some 126)) 141 2 ((msk (oth A z.toNat) 8 : Nat) : Int) = ζa at ca pk ae al
  refine ok_bind (s_fewest (M := 3) rfl (by omega) (by omega) (Or.inr rfl) pk (cf_fit ca hk)) (fun r ⟨fr, hr⟩ => ok_some ⟨Or.inl ⟨bc', ?_⟩, ?_, fun x y hx => ?_⟩)
  · have eD : Dg' (Sc A (hrd A)) (leadv A z.toNat) 8 (fun _ => -1) = Db A z.toNat := by
      funext P
      unfold Dg' Db
      congr 1
      exact propext (al_never (fun w hw => sc_xp w hw.1))
    rw [eD] at hr
    have d : Db A z.toNat (fun _ => false) = false := cdec_f.mpr (fun q => q (by obtain ⟨w, a, b⟩ := hcan; exact ⟨w, xpz_0.mpr a, b⟩))
    have e0 : fsp (Db A z.toNat) (oth A z.toNat) 8 0 0 (fun _ => false) = none := by unfold fsp; rw [d, if_neg (by decide)]
    have e5 : fz (Db A z.toNat) (oth A z.toNat) 8 (3 + 1) 0 = fz (Db A z.toNat) (oth A z.toNat) 8 3 1 := by
      show (match fsp (Db A z.toNat) (oth A z.toNat) 8 0 0 (fun _ => false) with | some q => some (0, q) | none => fz (Db A z.toNat) (oth A z.toNat) 8 3 1) = _
      rw [e0]
    rw [← e5]; exact hr
  · exact cf_cls (cf_sc hW.2.1 ca (fx_mono fr (fun x y q => by unfold Wst at q; unfold Wsc; omega)))
  · show r.2.1 x y = _ ∧ r.2.2.1 x y = _
    rw [(fr.1 x y (by unfold Wst; omega)).1, ae x y (by omega), (fr.1 x y (by unfold Wst; omega)).2, al]
    exact f13.1 x y (by show ¬ 26 ≤ x; omega)
