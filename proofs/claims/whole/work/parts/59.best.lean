/-! best -/
theorem s_mayBest {A : Nat → Nat → Int} {ζ : ZS} (h : Rf A ζ) (hw : Wa A) (hx : Wx A) {q lv R : Nat} {x : Int} {X : V4 → Prop} (hxl : x = lv) (hl : lv ≤ 3) (hL : Lw A ζ lv X q) (hq : q ≤ 13) (hR : ζ.1 21 lv = R) : Ok (g_X12_mayBest x ζ) (fun r => QS (fun t => inb A t = true ∧ may A X t) r.1 ∧ Lw A r.2 lv X q ∧ Rf A r.2 ∧ Fx (Wm lv R) ζ r.2) := by
  have key : ∀ (m : Nat) (acc w : Int) (u : Nat) (p : Nat → Bool) (ζ1 : ZS), w = u → u ≤ 8 → 8 - u < m → acc = ((msk p 8 : Nat) : Int) → (∀ t, t < 8 → (p t = true ↔ (t < u ∧ inb A t = true ∧ may A X t))) → Lw A ζ1 lv X q → Rf A ζ1 → Fx (Wm lv R) ζ ζ1 → Ok (g_X12_mayBest_4 x m acc w ζ1) (fun r => QS (fun t => inb A t = true ∧ may A X t) r.1 ∧ Lw A r.2 lv X q ∧ Rf A r.2 ∧ Fx (Wm lv R) ζ r.2) := by
    intro m
    induction m with
    | zero => intro _ _ _ _ _ _ _ h; omega
    | succ m ih =>
      intro acc w u p ζ1 hwu hu hm ha hp hL1 h1 hf
      subst hwu; subst ha
      have e21 : ζ1.1 21 lv = R := by rw [(hf.1 21 lv (by unfold Wm; omega)).1]; exact hR
      unfold g_X12_mayBest_4 g_X12_mayBest_34 g_X12_mayBest_35
      refine ok_gI (by omega) (by omega) (by omega) (by omega) (fun g => ?_) (fun g => ?_)
      · exact ok_some ⟨⟨p, rfl, fun t ht => (hp t ht).trans ⟨fun q => q.2, fun q => ⟨by omega, q⟩⟩⟩, hL1, h1, hf⟩
      · have n1 : (u : Int) + 1 = ((u + 1 : Nat) : Int) := by omega
        have n3 : 8 - (u + 1) < m := by clear hp ih; omega
        have no : ∀ ζ2, Lw A ζ2 lv X q → Rf A ζ2 → Fx (Wm lv R) ζ ζ2 → ¬ (inb A u = true ∧ may A X u) → Ok (g_X12_mayBest_4 x m (zor ((msk p 8 : Nat) : Int) 0) ((u : Int) + 1) ζ2) (fun r => QS (fun t => inb A t = true ∧ may A X t) r.1 ∧ Lw A r.2 lv X q ∧ Rf A r.2 ∧ Fx (Wm lv R) ζ r.2) := by
          intro ζ2 hL2 h2 hf2 hn
          refine ih _ _ (u + 1) p ζ2 n1 (by omega) n3 (z_or0 p (by omega)) (fun t ht => (hp t ht).trans ⟨fun q => ⟨by omega, q.2⟩, fun q => ⟨?_, q.2⟩⟩) hL2 h2 hf2
          apply Classical.byContradiction
          intro c
          have e : t = u := by omega
          subst e
          exact hn q.2
        refine ok_beq (s_isInN h1 hw rfl (by omega)) (ok_bi (fun e => no ζ1 hL1 h1 hf (fun q => by rw [e] at q; cases q.1)) (fun e => ?_))
        refine ok_bind (s_mayBe h1 hw hx rfl hxl (by omega) hl hL1 hq e21) (fun r ⟨⟨b, r2, r3⟩, l2, g2, f2⟩ => ?_)
        rw [r2]
        refine ok_bi (fun e3 => no r.2 l2 g2 (fx_trans hf f2) (fun q => by have := r3.mpr q.2; rw [e3] at this; cases this)) (fun e3 => ?_)
        refine ih _ _ (u + 1) (fun i => p i || decide (i = u)) r.2 n1 (by omega) n3 (z_in p (by omega) (by omega)) (fun t ht => ?_) l2 g2 (fx_trans hf f2)
        by_cases c : t = u
        · subst c
          simp only [decide_true, Bool.or_true, true_iff]
          exact ⟨by omega, e, r3.mp e3⟩
        · simp only [c, decide_false, Bool.or_false]
          exact (hp t ht).trans ⟨fun q => ⟨by omega, q.2⟩, fun q => ⟨by omega, q.2⟩⟩
  exact key FU 0 0 0 (fun _ => false) ζ rfl (by omega) (by rw [FU_e]; omega) (by rw [msk_0 _ (fun _ _ => rfl)]; rfl) (fun t _ => ⟨fun q => (by cases q), fun q => by omega⟩) hL h (fx_refl _ _)
/-! the class -/
def gro (A : Nat → Nat → Int) (t m : Nat) (g : Int) (u : Nat) : V4 := fun i => leadv A t u i + (if i = m then g else 0)
def fulg (A : Nat → Nat → Int) (X : V4 → Prop) (t m : Nat) (g : Int) (e : Nat) (w : V4) : Prop := X w ∧ ∀ u, u < e → u ≠ t → inb A u = true → 0 ≤ dt (gro A t m g u) w
def Ww (x _y : Nat) : Prop := (73 ≤ x ∧ x ≤ 124) ∨ x = 135
theorem va_fx {A : Nat → Nat → Int} {ζ ζ' : ZS} (h : Va A ζ) (e : ∀ x y, (x = 30 ∧ y = 4) ∨ (41 ≤ x ∧ x ≤ 48) → ζ'.1 x y = ζ.1 x y) : Va A ζ' := ⟨fun t m g1 g2 => by rw [e _ _ (by omega)]; exact h.1 t m g1 g2, by rw [e _ _ (by omega)]; exact h.2⟩
theorem s_whereBest {A : Nat → Nat → Int} {ζ : ZS} {k t m : Nat} {g z y x : Int} {X : V4 → Prop} (hw : Wa A) (hva : Va A ζ) (hcs : Cs ζ 68 k X 12) (hz : z = t) (hy : y = m) (hx : x = g) (ht : t < 8) (hm : m < 4) (hg : 0 ≤ g ∧ val A t m + g ≤ 100) : Ok (g_X4_whereBest z y x ζ) (fun r => ∃ (d : Nat) (Y : V4 → Prop), d ≤ 7 ∧ r.1 = 73 + 4 * d ∧ Cs r.2 (73 + 4 * d) k Y 19 ∧ ((∀ w, Y w ↔ fulg A X t m g 8 w) ∨ (¬ NV Y ∧ ¬ NV (fulg A X t m g 8))) ∧ Fx Ww ζ r.2) := by
  subst hz; subst hy
  have hx2 : g = x := hx.symm
  subst hx2
  have bdg : ∀ u, u < 8 → bd (gro A t m g u) := fun u hu i hi => by
    have a := val_bd hw ht hi
    have b := val_bd hw hu hi
    unfold gro leadv
    by_cases e : i = m
    · subst e; rw [if_pos rfl]; omega
    · rw [if_neg e]; omega
  let Post : Nat × ZS → Prop := fun r => ∃ (d : Nat) (Y : V4 → Prop), d ≤ 7 ∧ r.1 = 73 + 4 * d ∧ Cs r.2 (73 + 4 * d) k Y 19 ∧ ((∀ w, Y w ↔ fulg A X t m g 8 w) ∨ (¬ NV Y ∧ ¬ NV (fulg A X t m g 8))) ∧ Fx Ww ζ r.2
  have key : ∀ (n : Nat) (w v : Int) (d u : Nat) (Y : V4 → Prop) (ζ1 : ZS), w = d → v = u → u ≤ 8 → d ≤ u → (t < u → d + 1 ≤ u) → 8 - u < n → Cs ζ1 (73 + 4 * d) k Y (12 + d) → ((∀ w, Y w ↔ fulg A X t m g u w) ∨ (¬ NV Y ∧ ¬ NV (fulg A X t m g 8))) → Fx Ww ζ ζ1 → Ok (g_X4_whereBest_29 (t : Int) (m : Int) g n w v ζ1) Post := by
    intro n
    induction n with
    | zero => intro w v d u Y ζ1 _ _ _ _ _ h; exact absurd h (Nat.not_lt_zero _)
    | succ n ih =>
      intro w v d u Y ζ1 hwd hvu hu hdu htu hn hcs1 hY hf
      subst hwd; subst hvu
      have n1 : (u : Int) + 1 = ((u + 1 : Nat) : Int) := by omega
      obtain ⟨nn, c3, k1, k4, hnn, n42, hne, _⟩ := cs_n hcs1 (by clear hY ih; omega)
      unfold g_X4_whereBest_29 g_X4_whereBest_111
      have ed : Int.toNat (d : Int) = d := by omega
      rw [ed]
      refine ok_gI (by omega) (by omega) (by omega) (by omega) (fun q => ?_) (fun q => ?_)
      · have e : u = 8 := by clear hY ih; omega
        subst e
        exact ok_gk (by omega) (by clear hY ih; omega) (ok_some ⟨d, Y, by clear hY ih; omega, rfl, cs_mono hcs1 (by clear hY ih; omega), hY, hf⟩)
      · have hva1 : Va A ζ1 := va_fx hva (fun x y g => (hf.1 x y (by unfold Ww; omega)).1)
        have go : ∀ (Y' : V4 → Prop), (∀ w, Y w ↔ Y' w) → ((∀ w, Y' w ↔ fulg A X t m g (u + 1) w) ∨ (¬ NV Y' ∧ ¬ NV (fulg A X t m g 8))) → Ok (g_X4_whereBest_29 (t : Int) (m : Int) g n (d : Int) ((u : Int) + 1) ζ1) Post := fun Y' e1 e2 => ih _ _ d (u + 1) Y' ζ1 rfl n1 (by clear hY e2 ih; omega) (by clear hY e2 ih; omega) (by clear hY e2 ih; omega) (by clear hY e2 ih; omega) (cs_congr hcs1 e1) e2 hf
        have skip : (u = t ∨ inb A u = false) → Ok (g_X4_whereBest_29 (t : Int) (m : Int) g n (d : Int) ((u : Int) + 1) ζ1) Post := by
          intro hsk
          refine go Y (fun _ => Iff.rfl) ?_
          rcases hY with hY | hY
          · refine Or.inl (fun w => (hY w).trans ⟨fun c => ⟨c.1, fun i hi hne hin => ?_⟩, fun c => ⟨c.1, fun i hi => c.2 i (by omega)⟩⟩)
            by_cases cc : i = u
            · rw [cc] at hne hin
              rcases hsk with q | q
              · exact absurd q hne
              · rw [q] at hin; cases hin
            · exact c.2 i (by omega) hne hin
          · exact Or.inr hY
        refine ok_gI (by omega) (by omega) (by omega) (by omega) (fun g2 => skip (Or.inl (by omega))) (fun g2 => ?_)
        refine ok_beq (s_isInC hva1.2 (by clear hY ih; omega)) ?_
        rw [inz_n (by clear hY ih; omega)]
        refine ok_bi (fun e => skip (Or.inr e)) (fun e => ?_)
        have hu8 : u < 8 := by clear hY ih; omega
        have hut : u ≠ t := by clear hY ih; omega
        have hd6 : d ≤ 6 := by clear hY ih; omega
        refine ok_gk (by omega) (by clear hY ih; omega) ?_
        show Ok (gI (ζ1.1 (73 + 4 * d) 5) 0 (ζ1.1 (73 + 4 * d) 5 ≤ 0) _ _) _
        rw [hnn]
        refine ok_gI (by omega) (by omega) (by omega) (by omega) (fun g0 => ?_) (fun g0 => ?_)
        · -- empty already
          have nY : ¬ NV Y := fun q => by have := hne.mpr q; clear hY ih; omega
          refine go Y (fun _ => Iff.rfl) (Or.inr ⟨nY, ?_⟩)
          rcases hY with hY | hY
          · rintro ⟨w, a, b⟩
            exact nY ⟨w, (hY w).mpr ⟨a.1, fun i hi => a.2 i (by omega)⟩, b⟩
          · exact hY.2
        · have hYl : ∀ w, Y w ↔ fulg A X t m g u w := by
            rcases hY with hY | hY
            · exact hY
            · exact absurd (hne.mp (by omega)) hY.1
          clear hY
          refine ok_bind (s_fillLead (A := A) (a := t) (b := u) (e := 135) hva1.1 rfl rfl ht hu8 (by omega) rfl) (fun ζ2 ⟨h2, f2⟩ => ?_)
          have em : Int.toNat (m : Int) = m := by omega
          rw [em, h2 m hm, show Int.toNat ((d : Int) + 1) = d + 1 by omega]
          refine ok_gk (by omega) (by omega) (ok_gk (by omega) (by omega) (ok_gk (by omega) (by omega) (ok_gk (by omega) (by omega) ?_)))
          have hrow : ∀ i, i < 4 → (zI ζ2 135 m (leadv A t u m + g)).1 135 i = gro A t m g u i := fun i hi => by
            rw [zI_1]
            unfold gro
            by_cases e1 : i = m
            · rw [if_pos ⟨rfl, e1⟩, if_pos e1, e1]
            · rw [if_neg (fun q => e1 q.2), if_neg e1, h2 i hi]; omega
          have f3 : Fx Ww ζ (zI ζ2 135 m (leadv A t u m + g)) := fx_I (fx_trans hf (fx_mono f2 (fun x y q => Or.inr q))) (Or.inr rfl)
          have hcs3 : Cs (zI ζ2 135 m (leadv A t u m + g)) (73 + 4 * d) k Y (12 + d) := cs_fx hcs1 (fun x y g1 g2 => ⟨by rw [zI_1, if_neg (by omega), (f2.1 x y (by unfold We; omega)).1], (f2.1 x y (by unfold We; omega)).2⟩)
          refine ok_bind (cs_cut _ (73 + 4 * (d + 1)) (73 + 4 * d) 135 hcs3 (by omega) (by omega) rfl (by omega) (by omega) hrow (bdg u hu8)) (fun ζ4 ⟨c4, f4⟩ => ?_)
          refine ih _ _ (d + 1) (u + 1) (fun w => Y w ∧ 0 ≤ dt (gro A t m g u) w) ζ4 (by omega) n1 (by omega) (by omega) (by omega) (by omega) c4 (Or.inl (fun w => ?_)) (fx_trans f3 (fx_mono f4 (fun x y q => by unfold Wc at q; unfold Ww; omega)))
          rw [hYl w]
          refine ⟨fun ⟨c1, c2⟩ => ⟨c1.1, fun i hi hne hin => ?_⟩, fun c1 => ⟨⟨c1.1, fun i hi => c1.2 i (by omega)⟩, c1.2 u (by omega) hut e⟩⟩
          by_cases cc : i = u
          · rw [cc]; exact c2
          · exact c1.2 i (by omega) hne hin
  unfold g_X4_whereBest
  have e0 : Int.toNat 0 = 0 := rfl
  rw [e0]
  refine ok_gk (by omega) (by omega) (ok_bind (cs_become ζ (73 + 4 * 0) 68 hcs (by omega) (by omega)) (fun ζ1 ⟨h1, f1⟩ => ?_))
  exact key FU 0 0 0 0 X ζ1 rfl rfl (by omega) (by omega) (by omega) (by rw [FU_e]; omega) h1 (Or.inl (fun w => ⟨fun c => ⟨c, fun i hi => by omega⟩, fun c => c.1⟩)) (fx_mono f1 (fun x y q => by unfold Wb at q; unfold Ww; omega))
theorem gro_0 {A : Nat → Nat → Int} (t u : Nat) : gro A t 0 0 u = leadv A t u := by
  funext i
  unfold gro
  split <;> omega
theorem ful_lead {A : Nat → Nat → Int} (h32 : A 0 32 = -1) {X : V4 → Prop} {t e : Nat} {w : V4} : fulg A X t 0 0 e w ↔ ful A X t e w := by
  unfold fulg ful
  simp only [gro_0, abv_lead h32]
theorem s_mayBeBest1 {A : Nat → Nat → Int} {ζ : ZS} {k t : Nat} {z : Int} {X : V4 → Prop} (hw : Wa A) (h32 : A 0 32 = -1) (hva : Va A ζ) (hcs : Cs ζ 68 k X 12) (hz : z = t) (ht : t < 8) : Ok (g_X4_mayBeBest_ z ζ) (fun r => (∃ p : Bool, r.1 = bi p ∧ (p = true ↔ may A X t)) ∧ Fx Ww ζ r.2) := by
  unfold g_X4_mayBeBest_ g_X4_mayBeBest__18
  have v0 := val_bd hw (t := t) (m := 0) ht (by omega)
  refine ok_bind (s_whereBest (m := 0) (g := 0) hw hva hcs hz rfl rfl ht (by omega) (by omega)) (fun r ⟨d, Y, hd, e1, hc, hY, hf⟩ => ?_)
  rw [e1]
  refine ok_rk rfl (kd_c17 d (by omega)) ?_
  obtain ⟨nn, c3, k1, k4, hnn, n42, hne, _⟩ := cs_n hc (by omega)
  have hm : NV Y ↔ may A X t := by
    rcases hY with hY | hY
    · exact ⟨fun ⟨w, a, b⟩ => ⟨w, (ful_lead h32).mp ((hY w).mp a), b⟩, fun ⟨w, a, b⟩ => ⟨w, (hY w).mpr ((ful_lead h32).mpr a), b⟩⟩
    · exact ⟨fun q => absurd q hY.1, fun ⟨w, a, b⟩ => absurd ⟨w, (ful_lead h32).mpr a, b⟩ hY.2⟩
  rw [hnn]
  refine ok_gI (by omega) (by omega) (by omega) (by omega) (fun g => ok_gz (Or.inl rfl) (ok_some ⟨⟨false, rfl, fun q => (by cases q), fun q => ?_⟩, hf⟩)) (fun g => ok_gz (Or.inr rfl) (ok_some ⟨⟨true, rfl, fun _ => hm.mp (hne.mp (by omega)), fun _ => rfl⟩, hf⟩))
  have := hne.mpr (hm.mpr q)
  omega
def Wmb (x _y : Nat) : Prop := (73 ≤ x ∧ x ≤ 124) ∨ x = 135 ∨ x = 137
theorem s_mayBeBest {A : Nat → Nat → Int} {ζ : ZS} {k : Nat} {X : V4 → Prop} (hw : Wa A) (h32 : A 0 32 = -1) (hva : Va A ζ) (hcs : Cs ζ 68 k X 12) : Ok (g_X4_mayBeBest ζ) (fun r => QS (fun t => inb A t = true ∧ may A X t) r.1 ∧ Fx Wmb ζ r.2) := by
  obtain ⟨n, c3, k1, k4, hn, n42, hne, hpt, hal, hso⟩ := cs_n hcs (by omega)
  have keep : ∀ {ζ1 : ZS}, Fx Wmb ζ ζ1 → Va A ζ1 ∧ Cs ζ1 68 k X 12 ∧ ζ1.1 68 5 = n ∧ ∀ i, cw ζ1 68 i = cw ζ 68 i := fun {ζ1} hf => ⟨va_fx hva (fun x y g => (hf.1 x y (by unfold Wmb; omega)).1), cs_fx hcs (fun x y g1 g2 => hf.1 x y (by unfold Wmb; omega)), by rw [(hf.1 68 5 (by unfold Wmb; omega)).1]; exact hn, fun i => by funext m; exact (hf.1 69 _ (by unfold Wmb; omega)).2⟩
  have second : ∀ (m : Nat) (acc w : Int) (u : Nat) (p : Nat → Bool) (ζ1 : ZS), w = u → u ≤ 8 → 8 - u < m → acc = ((msk p 8 : Nat) : Int) → (∀ t, t < 8 → (p t = true → inb A t = true ∧ may A X t)) → (∀ t, t < u → inb A t = true → may A X t → p t = true) → Fx Wmb ζ ζ1 → Ok (g_X4_mayBeBest_41 m acc w ζ1) (fun r => QS (fun t => inb A t = true ∧ may A X t) r.1 ∧ Fx Wmb ζ r.2) := by
    intro m
    induction m with
    | zero => intro _ _ _ _ _ _ _ h; omega
    | succ m ih =>
      intro acc w u p ζ1 hwu hu hm ha hp1 hp2 hf
      subst hwu; subst ha
      obtain ⟨va1, cs1, n1, _⟩ := keep hf
      unfold g_X4_mayBeBest_41 g_X4_mayBeBest_80
      refine ok_gI (by omega) (by omega) (by omega) (by omega) (fun g => ok_some ⟨⟨p, rfl, fun t ht => ⟨hp1 t ht, fun q => hp2 t (by omega) q.1 q.2⟩⟩, hf⟩) (fun g => ?_)
      have go : ∀ (p' : Nat → Bool) (acc' : Int) (ζ2 : ZS), acc' = ((msk p' 8 : Nat) : Int) → (∀ t, t < 8 → (p' t = true → inb A t = true ∧ may A X t)) → (∀ t, t < 8 → p t = true → p' t = true) → (inb A u = true → may A X u → p' u = true) → Fx Wmb ζ ζ2 → Ok (g_X4_mayBeBest_41 m acc' ((u : Int) + 1) ζ2) (fun r => QS (fun t => inb A t = true ∧ may A X t) r.1 ∧ Fx Wmb ζ r.2) := by
        intro p' acc' ζ2 e1 h1 h2 h3 f2
        refine ih _ _ (u + 1) p' ζ2 (by omega) (by omega) (by omega) e1 h1 (fun t ht a b => ?_) f2
        by_cases c : t = u
        · rw [c] at a b ⊢; exact h3 a b
        · exact h2 t (by omega) (hp2 t (by omega) a b)
      refine ok_beq (s_isInC va1.2 (by omega)) ?_
      rw [inz_n (by omega)]
      refine ok_bi (fun e => go p _ ζ1 rfl hp1 (fun _ _ q => q) (fun q => by rw [e] at q; cases q) hf) (fun e => ?_)
      refine bit_test (p := p) (n := 8) (t := u) rfl rfl (by omega) (by omega) (fun hpu => ?_) (fun hpu => go p _ ζ1 rfl hp1 (fun _ _ q => q) (fun _ _ => hpu) hf)
      refine ok_bind (s_mayBeBest1 hw h32 va1 cs1 rfl (by omega)) (fun r ⟨⟨b, r2, r3⟩, f2⟩ => ?_)
      have f12 := fx_trans hf (fx_mono f2 (fun x y q => by unfold Ww at q; unfold Wmb; omega) : Fx Wmb ζ1 r.2)
      rw [r2]
      refine ok_bi (fun e3 => go p _ r.2 rfl hp1 (fun _ _ q => q) (fun _ q => by have := r3.mpr q; rw [e3] at this; cases this) f12) (fun e3 => ?_)
      refine go (fun i => p i || decide (i = u)) _ r.2 (z_in p (by omega) (by omega)) (fun t ht q => ?_) (fun t _ q => by simp [q]) (fun _ _ => by simp) f12
      by_cases c : t = u
      · subst c; exact ⟨e, r3.mp e3⟩
      · simp only [c, decide_false, Bool.or_false] at q
        exact hp1 t ht q
  have first : ∀ (m : Nat) (acc w : Int) (i : Nat) (p : Nat → Bool) (ζ1 : ZS), w = i → i ≤ n → n - i < m → acc = ((msk p 8 : Nat) : Int) → (∀ t, t < 8 → (p t = true → inb A t = true ∧ may A X t)) → Fx Wmb ζ ζ1 → Ok (g_X4_mayBeBest_4 m acc w ζ1) (fun r => QS (fun t => inb A t = true ∧ may A X t) r.1 ∧ Fx Wmb ζ r.2) := by
    intro m
    induction m with
    | zero => intro _ _ _ _ _ _ _ h; omega
    | succ m ih =>
      intro acc w i p ζ1 hwi hi hm ha hp hf
      subst hwi; subst ha
      obtain ⟨va1, cs1, n1, ecw⟩ := keep hf
      unfold g_X4_mayBeBest_4
      rw [n1]
      refine ok_gI (by omega) (by omega) (by omega) (by omega) (fun g => second FU _ 0 0 p ζ1 rfl (by omega) (by rw [FU_e]; omega) rfl hp (fun t ht => by omega) hf) (fun g => ?_)
      have hin : i < n := by omega
      refine ok_bind (s_bestByCorner hw va1 cs1 (by omega) (by omega) rfl n1 hin) (fun r ⟨⟨b, rb, hb⟩, f2⟩ => ?_)
      rw [rb]
      have nn1 : (i : Int) + 1 = ((i + 1 : Nat) : Int) := by omega
      have nn3 : n - (i + 1) < m := by clear hp hb ih; omega
      refine ih _ _ (i + 1) (fun t => p t || b t) r.2 nn1 hin nn3 (z_or p b (by omega)) (fun t ht q => ?_) (fx_trans hf (fx_mono f2 (fun x y q => by unfold We at q; unfold Wmb; omega)))
      rw [Bool.or_eq_true] at q
      rcases q with q | q
      · exact hp t ht q
      · obtain ⟨g1, g2⟩ := (hb t ht).mp q
        rw [ecw i] at g2
        exact ⟨g1, cw ζ 68 i, ⟨(hpt i hin).1, fun u hu _ hin' => by rw [abv_lead h32]; exact g2 u hu hin'⟩, (hpt i hin).2.1⟩
  unfold g_X4_mayBeBest
  exact first FU 0 0 0 (fun _ => false) ζ rfl (by omega) (by rw [FU_e]; omega) (by rw [msk_0 _ (fun _ _ => rfl)]; rfl) (fun t _ q => (by cases q)) (fx_refl _ _)
theorem s_isPart (ζ : ZS) {z : Int} (hz : r32 z) : g_X11_isPart z ζ = some (bi (decide (0 ≤ z) && decide (z ≤ 1)), ζ) := by
  apply ok_eq
  unfold g_X11_isPart g_X11_isPart_9 g_X11_isPart_14
  refine ok_gI hz.1 hz.2 (by omega) (by omega) (fun g => ok_gz (Or.inr rfl) (ok_some (by rw [g]; rfl))) (fun g => ok_gI hz.1 hz.2 (by omega) (by omega) (fun g2 => ok_gz (Or.inr rfl) (ok_some (by rw [g2]; rfl))) (fun g2 => ok_gz (Or.inl rfl) (ok_some ?_)))
  cases e : (decide (0 ≤ z) && decide (z ≤ 1)) with
  | false => rfl
  | true => simp only [Bool.and_eq_true, decide_eq_true_eq] at e; omega
theorem s_theyCan {A : Nat → Nat → Int} {ζ : ZS} {k q : Nat} {X : V4 → Prop} (hcs : Cs ζ 68 k X q) (hq : q ≤ 19) : Ok (g_X10_theyCan ζ) (fun r => r.2 = ζ ∧ ∃ p : Bool, r.1 = bi p ∧ (p = true ↔ NV X)) := by
  obtain ⟨n, c3, k1, k4, hn, n42, hne, _⟩ := cs_n hcs hq
  unfold g_X10_theyCan g_X10_theyCan_15
  rw [hn]
  refine ok_gI (by omega) (by omega) (by omega) (by omega) (fun g => ok_gz (Or.inl rfl) (ok_some ⟨rfl, false, rfl, fun q => (by cases q), fun q => ?_⟩)) (fun g => ok_gz (Or.inr rfl) (ok_some ⟨rfl, true, rfl, fun _ => hne.mp (by omega), fun _ => rfl⟩))
  have := hne.mpr q
  omega
/-- best: by what is asked, who may be or who surely is -/
def QB (A : Nat → Nat → Int) (z v : Int) : Prop := ((0 ≤ z ∧ z ≤ 1) ∧ NV (Sc A (hrd A)) ∧ (z = 0 → QS (fun t => inb A t = true ∧ may A (Sc A (hrd A)) t) v) ∧ (z = 1 → QS (fun t => inb A t = true ∧ sur A (Sc A (hrd A)) t) v)) ∨ (¬ ((0 ≤ z ∧ z ≤ 1) ∧ NV (Sc A (hrd A))) ∧ v = -1)
theorem qb_fun {A : Nat → Nat → Int} {z v w : Int} (h : QB A z v) (g : QB A z w) : v = w := by
  rcases h with ⟨a, b, c, d⟩ | ⟨a, b⟩ <;> rcases g with ⟨a', b', c', d'⟩ | ⟨a', b'⟩
  · rcases (show z = 0 ∨ z = 1 by omega) with e | e
    · exact qs_fun (c e) (c' e)
    · exact qs_fun (d e) (d' e)
  · exact absurd ⟨a, b⟩ a'
  · exact absurd ⟨a', b'⟩ a
  · omega
theorem a_best {A : Nat → Nat → Int} {ζ : ZS} (h : Rf A ζ) (hW : Wall A) {z : Int} (hz : r32 z) : Ok (g_X12_best z ζ) (RP A ζ (QB A z)) := by
  have hW' := hW
  obtain ⟨hw, hs, hv, hx, h32, _⟩ := hW
  have f0 : Fx (fun x _ => x < 25 ∧ x ≠ 5) ζ (zI ζ 0 0 0) := fx_I (fx_refl _ _) (by decide)
  unfold g_X12_best g_X12_best_21 g_X12_best_40
  refine ok_beq (s_within _ hz (by omega) (by omega)) (ok_bi (fun e => ok_some (rp_same h (Or.inr ⟨fun q => ?_, rfl⟩))) (fun e => ?_))
  · rw [decide_eq_true q.1.1, decide_eq_true q.1.2] at e; cases e
  simp only [Bool.and_eq_true, decide_eq_true_eq] at e
  refine ok_bind (s_findNow (rf_0 h 0) hW') (fun r ⟨lw, hr, hf, r01, r1⟩ => ?_)
  have f1 := fx_trans f0 (wq_25 hf)
  refine ok_gI (by omega) (by omega) (by omega) (by omega) (fun g => ok_some ⟨Or.inr ⟨fun q => (by have := r1.mpr q.2; omega), rfl⟩, hr, f1⟩) (fun g => ?_)
  obtain ⟨R, hR⟩ : ∃ R : Nat, r.2.1 21 0 = R := by
    obtain ⟨⟨k, R', n', ρ, a1, a2, a3, a4, a5, a6⟩, a7⟩ := lw
    exact ⟨R', a6.2.1⟩
  refine ok_gI hz.1 hz.2 (by omega) (by omega) (fun g0 => ?_) (fun g0 => ?_)
  · exact ok_bind (s_mayBest hr hw hx (lv := 0) rfl (by omega) lw (by omega) hR) (fun q ⟨q1, q2, q3, q4⟩ => ok_some ⟨Or.inl ⟨e, r1.mp (by omega), fun _ => q1, fun c => by omega⟩, q3, fx_trans f1 (wm_25 q4)⟩)
  · exact ok_bind (s_sureBest hr hw hx (lv := 0) rfl (by omega) lw.1 (by omega)) (fun q ⟨q1, q2⟩ => ok_some ⟨Or.inl ⟨e, r1.mp (by omega), fun c => absurd c g0, fun _ => q2⟩, by rw [q1]; exact hr, by rw [q1]; exact f1⟩)
theorem sur_lead {A : Nat → Nat → Int} (h32 : A 0 32 = -1) {X : V4 → Prop} {t : Nat} (ht : inb A t = true) (h8 : t < 8) : (∀ u, u < 8 → inb A u = true → Al X (leadv A t u)) ↔ sur A X t := by
  unfold sur
  constructor
  · intro g u hu _ hin
    rw [abv_lead h32]; exact g u hu hin
  · intro g u hu hin
    by_cases e : u = t
    · rw [e]
      intro w _
      rw [dt_lead]; omega
    · rw [← abv_lead h32]; exact g u hu e hin
theorem b_best {A : Nat → Nat → Int} {ζ : ZS} (h : Cls A ζ) (hW : Wall A) {z : Int} (hz : r32 z) : Ok (g_X11_best z ζ) (CP A ζ (QB A z)) := by
  have qk := hW.1.1
  have h32 := hW.2.2.2.2.1
  obtain ⟨k, hk⟩ : ∃ k : Nat, A 0 20 = k := ⟨(A 0 20).toNat, by omega⟩
  unfold g_X11_best g_X11_best_21 g_X11_best_51
  refine ok_bind (s_fresh hW h) (fun ζ1 ⟨c1, f1⟩ => ok_beq (s_isPart ζ1 hz) (ok_bi (fun e => ok_some ⟨Or.inr ⟨fun q => ?_, rfl⟩, cf_cls c1, f1⟩) (fun e => ?_)))
  · rw [decide_eq_true q.1.1, decide_eq_true q.1.2] at e; cases e
  simp only [Bool.and_eq_true, decide_eq_true_eq] at e
  have hfit := cf_fit c1 hk
  refine ok_bind (s_theyCan (A := A) hfit (by omega)) (fun r ⟨r1, p, r2, r3⟩ => ?_)
  rw [r2, r1]
  refine ok_bi (fun e2 => ok_some ⟨Or.inr ⟨fun q => (by have := r3.mpr q.2; rw [e2] at this; cases this), rfl⟩, cf_cls c1, f1⟩) (fun e2 => ?_)
  refine ok_gI hz.1 hz.2 (by omega) (by omega) (fun g0 => ?_) (fun g0 => ?_)
  · refine ok_bind (s_mayBeBest hW.1 h32 c1.2.1.1 hfit) (fun q ⟨q1, q2⟩ => ?_)
    have f2 : Fx Wsc ζ1 q.2 := fx_mono q2 (fun x y g => by unfold Wmb at g; unfold Wsc; omega)
    exact ok_some ⟨Or.inl ⟨e, r3.mp e2, fun _ => q1, fun c => by omega⟩, cf_cls (cf_sc hW.2.1 c1 f2), fx_trans f1 (wsc_26 f2)⟩
  · refine ok_bind (s_surelyBest hW.1 c1.2.1.1 hfit (by omega) (by omega)) (fun q ⟨q1, q2⟩ => ?_)
    have f2 : Fx Wsc ζ1 q.2 := fx_mono q2 (fun x y g => by unfold We at g; unfold Wsc; omega)
    exact ok_some ⟨Or.inl ⟨e, r3.mp e2, fun c => absurd c g0, fun _ => qs_congr q1 (fun t ht => ⟨fun ⟨a, b⟩ => ⟨a, (sur_lead h32 a ht).mp b⟩, fun ⟨a, b⟩ => ⟨a, (sur_lead h32 a ht).mpr b⟩⟩)⟩, cf_cls (cf_sc hW.2.1 c1 f2), fx_trans f1 (wsc_26 f2)⟩
