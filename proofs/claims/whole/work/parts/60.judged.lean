/-! an order told by hand -/
def ro (A : Nat → Nat → Int) (p : Nat) : Nat := (A 18 p).toNat
def Jx (A : Nat → Nat → Int) (X : V4 → Prop) (p : Nat) (w : V4) : Prop := X w ∧ ∀ i, i < p → 0 ≤ dt (leadv A (ro A i) (ro A (i + 1))) w
theorem jx_s {A : Nat → Nat → Int} {X : V4 → Prop} {p : Nat} {w : V4} : Jx A X (p + 1) w ↔ (Jx A X p w ∧ 0 ≤ dt (leadv A (ro A p) (ro A (p + 1))) w) :=
  ⟨fun g => ⟨⟨g.1, fun i hi => g.2 i (by omega)⟩, g.2 p (by omega)⟩, fun g => ⟨g.1.1, fun i hi => by
    by_cases e : i = p
    · rw [e]; exact g.2
    · exact g.1.2 i (by omega)⟩⟩
/-- the first place at which the order breaks -/
def Bk (A : Nat → Nat → Int) (X : V4 → Prop) (v : Int) : Prop := (∃ p : Nat, 1 ≤ p ∧ (p : Int) < A 0 24 ∧ ¬ NV (Jx A X p) ∧ (∀ p', 1 ≤ p' → p' < p → NV (Jx A X p')) ∧ v = p) ∨ ((∀ p : Nat, 1 ≤ p → (p : Int) < A 0 24 → NV (Jx A X p)) ∧ v = -1)
theorem bk_fun {A : Nat → Nat → Int} {X : V4 → Prop} {v w : Int} (h : Bk A X v) (g : Bk A X w) : v = w := by
  rcases h with ⟨p, a, b, c, d, e⟩ | ⟨a, b⟩ <;> rcases g with ⟨p', a', b', c', d', e'⟩ | ⟨a', b'⟩
  · rcases Nat.lt_trichotomy p p' with q | q | q
    · exact absurd (d' p a q) c
    · omega
    · exact absurd (d p' a' q) c'
  · exact absurd (a' p a b) c
  · exact absurd (a p' a' b') c'
  · omega
def QJd (A : Nat → Nat → Int) (z v : Int) : Prop := (((0 ≤ z ∧ z ≤ 1) ∧ NV (Sc A (hrd A)) ∧ ∀ p : Nat, (p : Int) < A 0 24 → inb A (ro A p) = true) ∧ ∃ b, Bk A (Sc A (hrd A)) b ∧ v = (if z = 1 then b else if b = -1 then 1 else 0)) ∨ (¬ ((0 ≤ z ∧ z ≤ 1) ∧ NV (Sc A (hrd A)) ∧ ∀ p : Nat, (p : Int) < A 0 24 → inb A (ro A p) = true) ∧ v = -1)
theorem qj_fun {A : Nat → Nat → Int} {z v w : Int} (h : QJd A z v) (g : QJd A z w) : v = w := by
  rcases h with ⟨a, b, c, d⟩ | ⟨a, b⟩ <;> rcases g with ⟨a', b', c', d'⟩ | ⟨a', b'⟩
  · rw [d, d', bk_fun c c']
  · exact absurd a a'
  · exact absurd a' a
  · omega
theorem a_judged {A : Nat → Nat → Int} {ζ : ZS} (h : Rf A ζ) (hW : Wall A) {z : Int} (hz : r32 z) : Ok (g_X12_judged z ζ) (RP A ζ (QJd A z)) := by
  have hW' := hW
  obtain ⟨hw, hs, hv, hx, h32, hwo, _⟩ := hW
  have q24 := hwo.1
  have f0 : Fx (fun x _ => x < 25 ∧ x ≠ 5) ζ (zI ζ 0 0 0) := fx_I (fx_refl _ _) (by decide)
  obtain ⟨N, hN⟩ : ∃ N : Nat, A 0 24 = N := ⟨(A 0 24).toNat, by omega⟩
  have ror : ∀ p : Nat, p < N → 0 ≤ A 18 p ∧ A 18 p ≤ 7 ∧ A 18 p = ((ro A p : Nat) : Int) ∧ ro A p < 8 := fun p hp => by have := hwo.2.1 p (by omega); unfold ro; omega
  unfold g_X12_judged g_X12_judged_21
  refine ok_beq (s_within _ hz (by omega) (by omega)) (ok_bi (fun e => ok_some (rp_same h (Or.inr ⟨fun q => ?_, rfl⟩))) (fun e => ?_))
  · rw [decide_eq_true q.1.1, decide_eq_true q.1.2] at e; cases e
  simp only [Bool.and_eq_true, decide_eq_true_eq] at e
  refine ok_bind (s_findNow (rf_0 h 0) hW') (fun r ⟨lw, hr, hf, r01, r1⟩ => ?_)
  have f1 := fx_trans f0 (wq_25 hf)
  refine ok_gI (by omega) (by omega) (by omega) (by omega) (fun g => ok_some ⟨Or.inr ⟨fun q => (by have := r1.mpr q.2.1; omega), rfl⟩, hr, f1⟩) (fun g => ?_)
  have hcan := r1.mp (by omega)
  generalize r.2 = ζ0 at lw hr hf f1
  have e24 : ∀ {ζ1 : ZS}, Rf A ζ1 → ζ1.1 0 24 = N := fun h1 => by rw [h1 0 24 (by unfold psl; omega), hN]
  have chain : (∀ p : Nat, p < N → inb A (ro A p) = true) → ∀ (n : Nat) (w : Int) (p : Nat) (ζ1 : ZS), w = ((p + 1 : Nat) : Int) → p ≤ 7 → (p = 0 ∨ p < N) → 9 - p < n → Lw A ζ1 p (Jx A (Sc A (hrd A)) p) (12 + p) → Rf A ζ1 → Fx (fun x _ => x < 25 ∧ x ≠ 5) ζ ζ1 → (∀ p', 1 ≤ p' → p' ≤ p → NV (Jx A (Sc A (hrd A)) p')) → Ok (g_X12_judged_56 z n w ζ1) (RP A ζ (QJd A z)) := by
    intro hall n
    induction n with
    | zero => intro _ _ _ _ _ _ h; omega
    | succ n ih =>
      intro w p ζ1 hwp hp7 hpN hn hL1 h1 hf1 hold
      subst hwp
      unfold g_X12_judged_56 g_X12_judged_121 g_X12_judged_105
      rw [e24 h1]
      have yes : ∀ b, Bk A (Sc A (hrd A)) b → ∀ v, v = (if z = 1 then b else if b = -1 then 1 else 0) → QJd A z v := fun b hb v hv => Or.inl ⟨⟨e, hcan, fun p hp => hall p (by omega)⟩, b, hb, hv⟩
      refine ok_gI (by omega) (by omega) (by omega) (by omega) (fun g => ?_) (fun g => ?_)
      · have hb : Bk A (Sc A (hrd A)) (-1) := Or.inr ⟨fun p' a b => hold p' a (by omega), rfl⟩
        refine ok_gI hz.1 hz.2 (by omega) (by omega) (fun g0 => ok_some ⟨yes (-1) hb 1 (by rw [if_neg (by omega), if_pos rfl]), h1, hf1⟩) (fun g0 => ok_some ⟨yes (-1) hb (-1) (by rw [if_pos (by omega)]), h1, hf1⟩)
      · have hp1 : p + 1 < N := by omega
        have rp0 := ror p (by omega)
        have rp1 := ror (p + 1) hp1
        rw [show Int.toNat (((p + 1 : Nat) : Int) - 1) = p by omega, show Int.toNat ((p + 1 : Nat) : Int) = p + 1 by omega, rf_c h1 (c := 18) (by omega) (by omega), rf_c h1 (c := 18) (by omega) (by omega)]
        refine ok_gk (by omega) (by omega) (ok_gk (by omega) (by omega) ?_)
        obtain ⟨R, hR⟩ : ∃ R : Nat, ζ1.1 21 p = R := by
          obtain ⟨⟨k, R', n', ρ, a1, a2, a3, a4, a5, a6⟩, a7⟩ := hL1
          exact ⟨R', a6.2.1⟩
        obtain ⟨ζ2, e2, g1, g3, g4, g5⟩ := s_deeper (x := (p : Int)) h1 hw hx (a := ro A p) (b := ro A (p + 1)) rp0.2.2.1 rp1.2.2.1 rfl rp0.2.2.2 rp1.2.2.2 (by omega) hL1 (by omega) hR
        cases hc : g_X12_addsAbove (A 18 p) (A 18 (p + 1)) ζ1 with
        | none => rw [hc] at e2; cases e2
        | some q3 =>
          rw [hc] at e2
          have e2 : g_X12_findMore ((p : Int) + 1) q3 = some ζ2 := e2
          rw [show (p : Int) + 1 = ((p + 1 : Nat) : Int) by omega] at e2
          refine ok_beq rfl (ok_beq e2 ?_)
          have L2 : Lw A ζ2 (p + 1) (Jx A (Sc A (hrd A)) (p + 1)) (12 + (p + 1)) := by
            obtain ⟨⟨k, R', n', ρ, a1, a2, a3, a4, a5, a6⟩, a7⟩ := g1
            refine ⟨⟨k, R', n', ρ, a1, a2, a3, by omega, fun w => (a5 w).trans ?_, a6⟩, a7⟩
            rw [jx_s, abv_lead h32]
          obtain ⟨nn, hnn, n44, hne, _⟩ := lb_n L2.1 (by omega)
          have f2 := fx_trans hf1 (wm_25 g4)
          rw [hnn]
          refine ok_gk (by omega) (by omega) (ok_gI (by omega) (by omega) (by omega) (by omega) (fun g0 => ?_) (fun g0 => ?_))
          · have hb : Bk A (Sc A (hrd A)) ((p + 1 : Nat) : Int) := Or.inl ⟨p + 1, by omega, by omega, fun q => (by have := hne.mpr q; omega), fun p' a b => hold p' a (by omega), rfl⟩
            refine ok_gI hz.1 hz.2 (by omega) (by omega) (fun g0 => ok_some ⟨yes _ hb 0 (by rw [if_neg (by omega), if_neg (by omega)]), g3, f2⟩) (fun g0 => ok_some ⟨yes _ hb _ (by rw [if_pos (by omega)]), g3, f2⟩)
          · refine ih _ (p + 1) ζ2 (by omega) (by omega) (by omega) (by omega) L2 g3 f2 (fun p' a b => ?_)
            by_cases c : p' = p + 1
            · rw [c]; exact hne.mp (by omega)
            · exact hold p' a (by omega)
  have ins : ∀ (n : Nat) (w : Int) (p : Nat), w = p → p ≤ N → N - p < n → (∀ p', p' < p → inb A (ro A p') = true) → Ok (g_X12_judged_25 z n w ζ0) (RP A ζ (QJd A z)) := by
    intro n
    induction n with
    | zero => intro _ _ _ _ h; omega
    | succ n ih =>
      intro w p hwp hp hn hold
      subst hwp
      unfold g_X12_judged_25
      rw [e24 hr]
      refine ok_gI (by omega) (by omega) (by omega) (by omega) (fun g => ?_) (fun g => ?_)
      · refine chain (fun p' hp' => hold p' (by omega)) FU 1 0 ζ0 rfl (by omega) (Or.inl rfl) (by rw [FU_e]; omega) ?_ hr f1 (fun p' a b => by omega)
        obtain ⟨⟨k, R', n', ρ, a1, a2, a3, a4, a5, a6⟩, a7⟩ := lw
        exact ⟨⟨k, R', n', ρ, a1, a2, a3, a4, fun w => (a5 w).trans ⟨fun g => ⟨g, fun i hi => by omega⟩, fun g => g.1⟩, a6⟩, a7⟩
      · have rp := ror p (by omega)
        rw [show Int.toNat (p : Int) = p by omega, rf_c hr (c := 18) (by omega) (by omega)]
        refine ok_gk (by omega) (by omega) (ok_beq (s_isInN hr hw rp.2.2.1 rp.2.2.2) (ok_bi (fun e2 => ok_some ⟨Or.inr ⟨fun q => ?_, rfl⟩, hr, f1⟩) (fun e2 => ?_)))
        · rw [q.2.2 p (by omega)] at e2; cases e2
        · refine ih _ (p + 1) (by omega) (by omega) (by omega) (fun p' hp' => ?_)
          by_cases c : p' = p
          · rw [c]; exact e2
          · exact hold p' (by omega)
  exact ins FU 0 0 rfl (by omega) (by rw [FU_e]; omega) (fun p' hp' => by omega)
/-! the class -/
theorem b_judged {A : Nat → Nat → Int} {ζ : ZS} (h : Cls A ζ) (hW : Wall A) {z : Int} (hz : r32 z) : Ok (g_X11_judged z ζ) (CP A ζ (QJd A z)) := by
  have qk := hW.1.1
  have hw := hW.1
  have hwo := hW.2.2.2.2.2.1
  have q24 := hwo.1
  obtain ⟨k, hk⟩ : ∃ k : Nat, A 0 20 = k := ⟨(A 0 20).toNat, by omega⟩
  obtain ⟨N, hN⟩ : ∃ N : Nat, A 0 24 = N := ⟨(A 0 24).toNat, by omega⟩
  have ror : ∀ p : Nat, p < N → 0 ≤ A 18 p ∧ A 18 p ≤ 7 ∧ A 18 p = ((ro A p : Nat) : Int) ∧ ro A p < 8 := fun p hp => by have := hwo.2.1 p (by omega); unfold ro; omega
  unfold g_X11_judged g_X11_judged_21
  refine ok_bind (s_fresh hW h) (fun ζ1 ⟨c1, f1⟩ => ok_beq (s_isPart ζ1 hz) (ok_bi (fun e => ok_some ⟨Or.inr ⟨fun q => ?_, rfl⟩, cf_cls c1, f1⟩) (fun e => ?_)))
  · rw [decide_eq_true q.1.1, decide_eq_true q.1.2] at e; cases e
  simp only [Bool.and_eq_true, decide_eq_true_eq] at e
  have hfit := cf_fit c1 hk
  refine ok_bind (s_theyCan (A := A) hfit (by omega)) (fun r ⟨r1, b, r2, r3⟩ => ?_)
  rw [r2, r1]
  refine ok_bi (fun e2 => ok_some ⟨Or.inr ⟨fun q => (by have := r3.mpr q.2.1; rw [e2] at this; cases this), rfl⟩, cf_cls c1, f1⟩) (fun e2 => ?_)
  have hcan := r3.mp e2
  have e13 : ζ1.1 26 13 = N := by rw [c1.1.2.2.2.2.1, hN]
  have epl : ∀ p : Nat, p < N → ζ1.1 149 p = A 18 p := fun p hp => c1.1.2.2.2.2.2.1 p (by omega)
  have broken : Ok (g_X4_brokenPlace 149 (N : Int) ζ1) (fun r => Bk A (Sc A (hrd A)) r.1 ∧ Fx Ww ζ1 r.2) := by
    have key : ∀ (n : Nat) (w : Int) (p : Nat) (ζ2 : ZS), w = ((p + 1 : Nat) : Int) → p ≤ 7 → (p = 0 ∨ p < N) → 9 - p < n → Cs ζ2 (73 + 4 * p) k (Jx A (Sc A (hrd A)) p) (12 + p) → Fx Ww ζ1 ζ2 → (∀ p', 1 ≤ p' → p' ≤ p → NV (Jx A (Sc A (hrd A)) p')) → Ok (g_X4_brokenPlace_24 149 (N : Int) n w ζ2) (fun r => Bk A (Sc A (hrd A)) r.1 ∧ Fx Ww ζ1 r.2) := by
      intro n
      induction n with
      | zero => intro _ _ _ _ _ _ h; omega
      | succ n ih =>
        intro w p ζ2 hwp hp7 hpN hn hcs hf hold
        subst hwp
        unfold g_X4_brokenPlace_24
        refine ok_gI (by omega) (by omega) (by omega) (by omega) (fun g => ok_some ⟨Or.inr ⟨fun p' a b => hold p' a (by omega), rfl⟩, hf⟩) (fun g => ?_)
        have hp1 : p + 1 < N := by omega
        have rp0 := ror p (by omega)
        have rp1 := ror (p + 1) hp1
        rw [show Int.toNat (((p + 1 : Nat) : Int) - 1) = p by omega, show Int.toNat ((p + 1 : Nat) : Int) = p + 1 by omega]
        have a1 : ζ2.1 149 p = A 18 p := by rw [(hf.1 149 p (by unfold Ww; omega)).1]; exact epl p (by omega)
        have a2 : ζ2.1 149 (p + 1) = A 18 (p + 1) := by rw [(hf.1 149 (p + 1) (by unfold Ww; omega)).1]; exact epl (p + 1) hp1
        have l149 : ln 149 = 8 := rfl
        rw [a1, a2, l149]
        have va2 : Va A ζ2 := va_fx c1.2.1.1 (fun x y g => (hf.1 x y (by unfold Ww; omega)).1)
        refine ok_gk (by omega) (by omega) (ok_gk (by omega) (by omega) (ok_bind (s_fillLead (A := A) (a := ro A p) (b := ro A (p + 1)) (e := 135) va2.1 rp0.2.2.1 rp1.2.2.1 rp0.2.2.2 rp1.2.2.2 (by omega) rfl) (fun ζ3 ⟨h3, f3⟩ => ?_)))
        have hcs3 : Cs ζ3 (73 + 4 * p) k (Jx A (Sc A (hrd A)) p) (12 + p) := cs_fx hcs (fun x y g1 g2 => f3.1 x y (by unfold We; omega))
        refine ok_gk (by omega) (by omega) (ok_gk (by omega) (by omega) (ok_bind (cs_cut ζ3 (73 + 4 * (p + 1)) (73 + 4 * p) 135 hcs3 (by omega) (by omega) rfl (by omega) (by omega) h3 (leadv_bd hw rp0.2.2.2 rp1.2.2.2)) (fun ζ4 ⟨c4, f4⟩ => ?_)))
        have c4' : Cs ζ4 (73 + 4 * (p + 1)) k (Jx A (Sc A (hrd A)) (p + 1)) (12 + (p + 1)) := cs_congr c4 (fun w => jx_s.symm)
        obtain ⟨nn, c3, k1, k4, hnn, n42, hne, _⟩ := cs_n c4' (by omega)
        have f14 : Fx Ww ζ1 ζ4 := fx_trans hf (fx_trans (fx_mono f3 (fun x y q => Or.inr q)) (fx_mono f4 (fun x y q => by unfold Wc at q; unfold Ww; omega)))
        rw [hnn]
        refine ok_gk (by omega) (by omega) (ok_gI (by omega) (by omega) (by omega) (by omega) (fun g0 => ok_some ⟨Or.inl ⟨p + 1, by omega, by omega, fun q => (by have := hne.mpr q; omega), fun p' a b => hold p' a (by omega), rfl⟩, f14⟩) (fun g0 => ?_))
        refine ih _ (p + 1) ζ4 (by omega) (by omega) (by omega) (by omega) c4' f14 (fun p' a b => ?_)
        by_cases c : p' = p + 1
        · rw [c]; exact hne.mp (by omega)
        · exact hold p' a (by omega)
    unfold g_X4_brokenPlace
    have e0 : Int.toNat 0 = 0 := rfl
    rw [e0]
    refine ok_gk (by omega) (by omega) (ok_bind (cs_become ζ1 (73 + 4 * 0) 68 hfit (by omega) (by omega)) (fun ζ2 ⟨h2, f2⟩ => ?_))
    exact key FU 1 0 ζ2 rfl (by omega) (Or.inl rfl) (by rw [FU_e]; omega) (cs_congr h2 (fun w => ⟨fun g => ⟨g, fun i hi => by omega⟩, fun g => g.1⟩)) (fx_mono f2 (fun x y q => by unfold Wb at q; unfold Ww; omega)) (fun p' a b => by omega)
  have ins : ∀ (n : Nat) (w : Int) (p : Nat), w = p → p ≤ N → N - p < n → (∀ p', p' < p → inb A (ro A p') = true) → Ok (g_X11_judged_25 z n w ζ1) (CP A ζ (QJd A z)) := by
    intro n
    induction n with
    | zero => intro _ _ _ _ h; omega
    | succ n ih =>
      intro w p hwp hp hn hold
      subst hwp
      unfold g_X11_judged_25 g_X11_judged_90
      rw [e13]
      refine ok_gI (by omega) (by omega) (by omega) (by omega) (fun g => ?_) (fun g => ?_)
      · refine ok_bind broken (fun q ⟨q1, q2⟩ => ?_)
        have f2 : Fx Wsc ζ1 q.2 := fx_mono q2 (fun x y g => by unfold Ww at g; unfold Wsc; omega)
        have fin : ∀ v, v = (if z = 1 then q.1 else if q.1 = -1 then 1 else 0) → CP A ζ (QJd A z) (v, q.2) := fun v hv => ⟨Or.inl ⟨⟨e, hcan, fun p hp => hold p (by omega)⟩, q.1, q1, hv⟩, cf_cls (cf_sc hW.2.1 c1 f2), fx_trans f1 (wsc_26 f2)⟩
        have rq : -1 ≤ q.1 ∧ q.1 ≤ 8 := by rcases q1 with ⟨p, a, b, _, _, c⟩ | ⟨_, c⟩ <;> omega
        refine ok_gI hz.1 hz.2 (by omega) (by omega) (fun g1 => ok_some (fin _ (by rw [if_pos g1]))) (fun g1 => ok_gI (by omega) (by omega) (by omega) (by omega) (fun g2 => ok_some (fin _ (by rw [if_neg g1, if_pos g2]))) (fun g2 => ok_some (fin _ (by rw [if_neg g1, if_neg g2]))))
      · have rp := ror p (by omega)
        rw [show Int.toNat (p : Int) = p by omega, epl p (by omega)]
        refine ok_gk (by omega) (by omega) (ok_beq (s_isInC c1.2.1.1.2 (by omega)) ?_)
        rw [rp.2.2.1, inz_n rp.2.2.2]
        refine ok_bi (fun e2 => ok_some ⟨Or.inr ⟨fun q => ?_, rfl⟩, cf_cls c1, f1⟩) (fun e2 => ?_)
        · rw [q.2.2 p (by omega)] at e2; cases e2
        · refine ih _ (p + 1) (by omega) (by omega) (by omega) (fun p' hp' => ?_)
          by_cases c : p' = p
          · rw [c]; exact e2
          · exact hold p' (by omega)
  exact ins FU 0 0 rfl (by omega) (by rw [FU_e]; omega) (fun p' hp' => by omega)
