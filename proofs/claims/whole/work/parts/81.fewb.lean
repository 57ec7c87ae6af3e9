/-! few: the class -/
/-- t is best by all weights by which it is not below u -/
def BAx (A : Nat → Nat → Int) (X : V4 → Prop) (t u : Nat) : Prop := ∀ o, o < 8 → inb A o = true → o ≠ t → o ≠ u → ∀ w, X w → 0 ≤ dt (leadv A t u) w → 0 ≤ dt (leadv A t o) w
def OQ (A : Nat → Nat → Int) (X : V4 → Prop) : Prop := ∃ t u, t < u ∧ u < 8 ∧ inb A t = true ∧ inb A u = true ∧ BAx A X t u ∧ BAx A X u t
theorem lead_tr {A : Nat → Nat → Int} {a b c : Nat} {w : V4} (h : 0 ≤ dt (leadv A a b) w) (g : 0 ≤ dt (leadv A b c) w) : 0 ≤ dt (leadv A a c) w := by
  rw [dt_lead] at *
  omega
theorem lead_tot (A : Nat → Nat → Int) (a b : Nat) (w : V4) : 0 ≤ dt (leadv A a b) w ∨ 0 ≤ dt (leadv A b a) w := by
  rw [dt_lead, dt_lead]
  omega
theorem bax_sure {A : Nat → Nat → Int} {X : V4 → Prop} {t u : Nat} (ht : t < 8) (hi : inb A t = true) (h : BAx A X t u) : Sb A (cutX A X t u) := by
  refine ⟨t, ht, hi, fun o ho hio w hw => ?_⟩
  by_cases c1 : o = t
  · subst c1; rw [dt_self]; omega
  · by_cases c2 : o = u
    · subst c2; exact hw.2
    · exact h o ho hio c1 c2 w hw.1 hw.2
theorem oq_dq {A : Nat → Nat → Int} {X : V4 → Prop} (h : OQ A X) : Dq A 1 X := by
  obtain ⟨t, u, h1, h2, h3, h4, h5, h6⟩ := h
  exact Or.inr ⟨t, u, h1, h2, h3, h4, bax_sure (by omega) h3 h5, bax_sure h2 h4 h6⟩
theorem oq_pair {A : Nat → Nat → Int} {X : V4 → Prop} {t u : Nat} (ht : t < 8) (hu : u < 8) (hne : t ≠ u) (h3 : inb A t = true) (h4 : inb A u = true) (h5 : BAx A X t u) (h6 : BAx A X u t) : OQ A X := by
  rcases Nat.lt_or_gt_of_ne hne with c | c
  · exact ⟨t, u, c, hu, h3, h4, h5, h6⟩
  · exact ⟨u, t, c, ht, h4, h3, h6, h5⟩
theorem sb_oq {A : Nat → Nat → Int} {X : V4 → Prop} {x y : Nat} (hxy : x < y) (hy : y < 8) (px : inb A x = true) (py : inb A y = true) (h : Sb A X) : OQ A X := by
  obtain ⟨t, ht, hi, hs⟩ := h
  obtain ⟨u, hu, hne, hiu⟩ : ∃ u, u < 8 ∧ t ≠ u ∧ inb A u = true := by
    by_cases c : t = x
    · exact ⟨y, hy, by omega, py⟩
    · exact ⟨x, by omega, c, px⟩
  exact oq_pair ht hu hne hi hiu (fun o ho hio _ _ w hw _ => hs o ho hio w hw) (fun o ho hio _ _ w hw hd => lead_tr hd (hs o ho hio w hw))
theorem dq_oq {A : Nat → Nat → Int} {X : V4 → Prop} {x y : Nat} (hxy : x < y) (hy : y < 8) (px : inb A x = true) (py : inb A y = true) (h : Dq A 1 X) : OQ A X := by
  rcases h with h | ⟨a, b, h1, h2, h3, h4, ⟨t, ht, hi, hs⟩, ⟨u, hu, hiu, hsu⟩⟩
  · exact sb_oq hxy hy px py h
  · have side : ∀ w, X w → cutX A X a b w ∨ cutX A X b a w := fun w hw => by
      rcases lead_tot A a b w with c | c
      · exact Or.inl ⟨hw, c⟩
      · exact Or.inr ⟨hw, c⟩
    by_cases c : t = u
    · subst c
      refine sb_oq hxy hy px py ⟨t, ht, hi, fun o ho hio w hw => ?_⟩
      rcases side w hw with q | q
      · exact hs o ho hio w q
      · exact hsu o ho hio w q
    · refine oq_pair ht hu c hi hiu (fun o ho hio _ _ w hw hd => ?_) (fun o ho hio _ _ w hw hd => ?_)
      · rcases side w hw with q | q
        · exact hs o ho hio w q
        · exact lead_tr hd (hsu o ho hio w q)
      · rcases side w hw with q | q
        · exact lead_tr hd (hs o ho hio w q)
        · exact hsu o ho hio w q
def Woq (x _y : Nat) : Prop := 135 ≤ x ∧ x ≤ 138
theorem s_isBestAhead {A : Nat → Nat → Int} {ζ : ZS} {c k q t u : Nat} {X : V4 → Prop} {z y : Int} (hw : Wa A) (hva : Va A ζ) (hcs : Cs ζ c k X q) (hq : q ≤ 19) (hc : c = 68 ∨ c = 73) (hz : z = t) (hy : y = u) (ht : t < 8) (hu : u < 8) : Ok (g_X4_isBestAhead c z y ζ) (fun r => (∃ p : Bool, r.1 = bi p ∧ (p = true ↔ BAx A X t u)) ∧ Fx (fun x _ => x = 135 ∨ x = 136) ζ r.2) := by
  subst hz; subst hy
  unfold g_X4_isBestAhead
  refine ok_bind (s_fillLead (A := A) (a := t) (b := u) (e := 135) hva.1 rfl rfl ht hu (by omega) rfl) (fun ζ1 ⟨h1, f1⟩ => ?_)
  have key : ∀ (m : Nat) (w : Int) (o : Nat) (ζ2 : ZS), w = o → o ≤ 8 → 8 - o < m → Fx (We 136) ζ1 ζ2 → (∀ o', o' < o → inb A o' = true → o' ≠ t → o' ≠ u → ∀ w, X w → 0 ≤ dt (leadv A t u) w → 0 ≤ dt (leadv A t o') w) → Ok (g_X4_isBestAhead_16 c (t : Int) (u : Int) m w ζ2) (fun r => (∃ p : Bool, r.1 = bi p ∧ (p = true ↔ BAx A X t u)) ∧ Fx (fun x _ => x = 135 ∨ x = 136) ζ r.2) := by
    intro m
    induction m with
    | zero => intro _ _ _ _ _ h; omega
    | succ m ih =>
      intro w o ζ2 hwo ho hm hf hold
      subst hwo
      have f2 : Fx (fun x _ => x = 135 ∨ x = 136) ζ ζ2 := fx_trans (fx_mono f1 (fun x y q => Or.inl q)) (fx_mono hf (fun x y q => Or.inr q))
      have va2 : Va A ζ2 := va_fx hva (fun x y g => (f2.1 x y (by omega)).1)
      unfold g_X4_isBestAhead_16 g_X4_isBestAhead_78
      refine ok_gI (by omega) (by omega) (by omega) (by omega) (fun g => ok_some ⟨⟨true, rfl, ⟨fun _ o' q1 q2 q3 q4 => hold o' (by omega) q2 q3 q4, fun _ => rfl⟩⟩, f2⟩) (fun g => ?_)
      have ho8 : o < 8 := by omega
      have skip : ∀ ζ3, Fx (We 136) ζ1 ζ3 → (inb A o = true → o ≠ t → o ≠ u → ∀ w, X w → 0 ≤ dt (leadv A t u) w → 0 ≤ dt (leadv A t o) w) → Ok (g_X4_isBestAhead_16 c (t : Int) (u : Int) m ((o : Int) + 1) ζ3) (fun r => (∃ p : Bool, r.1 = bi p ∧ (p = true ↔ BAx A X t u)) ∧ Fx (fun x _ => x = 135 ∨ x = 136) ζ r.2) := fun ζ3 f3 hn => ih _ (o + 1) ζ3 (by omega) (by omega) (by omega) f3 (fun o' h1 h2 h3 h4 => by
        by_cases e : o' = o
        · subst e; exact hn h2 h3 h4
        · exact hold o' (by omega) h2 h3 h4)
      refine ok_beq (s_isInC va2.2 (by omega)) ?_
      rw [inz_n ho8]
      refine ok_bi (fun e => skip ζ2 hf (fun q => by rw [e] at q; cases q)) (fun e => ?_)
      refine ok_gI (by omega) (by omega) (by omega) (by omega) (fun g1 => skip ζ2 hf (fun _ q => absurd (by omega) q)) (fun g1 => ok_gI (by omega) (by omega) (by omega) (by omega) (fun g2 => skip ζ2 hf (fun _ _ q => absurd (by omega) q)) (fun g2 => ?_))
      refine ok_bind (s_fillLead (A := A) (a := t) (b := o) (e := 136) va2.1 rfl rfl ht ho8 (by omega) rfl) (fun ζ3 ⟨h3, f3⟩ => ?_)
      have f13 := fx_trans hf f3
      have f03 : Fx (fun x _ => x = 135 ∨ x = 136) ζ ζ3 := fx_trans (fx_mono f1 (fun x y q => Or.inl q)) (fx_mono f13 (fun x y q => Or.inr q))
      have cs3 : Cs ζ3 c k X q := cs_fx hcs (fun x y g1 g2 => f03.1 x y (by omega))
      refine ok_bind (cs_implies ζ3 c 135 136 cs3 hq rfl (fun m hm => by rw [(f13.1 135 m (by unfold We; omega)).1]; exact h1 m hm) (leadv_bd hw ht hu) rfl h3 (leadv_bd hw ht ho8)) (fun r ⟨r1, p, r2, r3⟩ => ?_)
      rw [r2, r1]
      refine ok_bi (fun e2 => ok_some ⟨⟨false, rfl, ⟨fun q => (by cases q), fun q => ?_⟩⟩, f03⟩) (fun e2 => skip ζ3 f13 (fun _ _ _ => r3.mp e2))
      rw [r3.mpr (q o ho8 e (by omega) (by omega))] at e2; cases e2
  exact key FU 0 0 ζ1 rfl (by omega) (by rw [FU_e]; omega) (fx_refl _ _) (fun o' q => by omega)
theorem s_oneQuestionDoes {A : Nat → Nat → Int} {ζ : ZS} {c k q : Nat} {X : V4 → Prop} (hw : Wa A) (hva : Va A ζ) (hcs : Cs ζ c k X q) (hq : q ≤ 19) (hc : c = 68 ∨ c = 73) : Ok (g_X4_oneQuestionDoes c ζ) (fun r => (∃ p : Bool, r.1 = bi p ∧ (p = true ↔ OQ A X)) ∧ Fx Woq ζ r.2) := by
  obtain ⟨n, c3, k1, k4, c5, n42, hne, hpt, hal, hso⟩ := cs_n hcs hq
  have keep : ∀ {ζ1}, Fx Woq ζ ζ1 → Va A ζ1 ∧ Cs ζ1 c k X q ∧ ζ1.1 c 5 = n := fun {ζ1} hf => ⟨va_fx hva (fun x y g => (hf.1 x y (by unfold Woq; omega)).1), cs_fx hcs (fun x y g1 g2 => hf.1 x y (by unfold Woq; omega)), by rw [(hf.1 c 5 (by unfold Woq; omega)).1]; exact c5⟩
  -- the pairs, with the bests by corners
  have pairs : ∀ (P : Nat → Nat → Bool) (ζ1 : ZS), Fx Woq ζ ζ1 → (∀ i, i < n → ζ1.1 138 i = ((msk (P i) 8 : Nat) : Int)) → (∀ i t, i < n → t < 8 → (P i t = true ↔ (inb A t = true ∧ ∀ u, u < 8 → inb A u = true → 0 ≤ dt (leadv A t u) (cw ζ c i)))) → Ok (g_X4_oneQuestionDoes_30 c FU 0 ζ1) (fun r => (∃ p : Bool, r.1 = bi p ∧ (p = true ↔ OQ A X)) ∧ Fx Woq ζ r.2) := by
    intro P ζ1 hf1 hP hPe
    have outer : ∀ (m : Nat) (w : Int) (t : Nat) (ζ2 : ZS), w = t → t ≤ 8 → 8 - t < m → Fx (fun x _ => x = 135 ∨ x = 136) ζ1 ζ2 → (∀ t' u', t' < u' → u' < 8 → inb A t' = true → inb A u' = true → Bf t' u' t (t + 1) → ¬ (BAx A X t' u' ∧ BAx A X u' t')) → Ok (g_X4_oneQuestionDoes_30 c m w ζ2) (fun r => (∃ p : Bool, r.1 = bi p ∧ (p = true ↔ OQ A X)) ∧ Fx Woq ζ r.2) := by
      intro m
      induction m with
      | zero => intro _ _ _ _ _ h; omega
      | succ m ih =>
        intro w t ζ2 hwt ht hm hf2 hold
        subst hwt
        have fo : ∀ {ζ3}, Fx (fun x _ => x = 135 ∨ x = 136) ζ1 ζ3 → Fx Woq ζ ζ3 := fun {ζ3} g => fx_trans hf1 (fx_mono g (fun x y q => by unfold Woq; omega))
        unfold g_X4_oneQuestionDoes_30
        refine ok_gI (by omega) (by omega) (by omega) (by omega) (fun g => ok_some ⟨⟨false, rfl, ⟨fun q => (by cases q), fun ⟨a, b, h1, h2, h3, h4, h5⟩ => absurd h5 (hold a b h1 h2 h3 h4 (by unfold Bf; omega))⟩⟩, fo hf2⟩) (fun g => ?_)
        have ht8 : t < 8 := by omega
        have inner : ∀ (m2 : Nat) (w : Int) (u : Nat) (ζ3 : ZS), w = u → t < u → u ≤ 8 → 8 - u < m2 → Fx (fun x _ => x = 135 ∨ x = 136) ζ1 ζ3 → (∀ t' u', t' < u' → u' < 8 → inb A t' = true → inb A u' = true → Bf t' u' t u → ¬ (BAx A X t' u' ∧ BAx A X u' t')) → Ok (g_X4_oneQuestionDoes_40 c (t : Int) (g_X4_oneQuestionDoes_30 c m) m2 w ζ3) (fun r => (∃ p : Bool, r.1 = bi p ∧ (p = true ↔ OQ A X)) ∧ Fx Woq ζ r.2) := by
          intro m2
          induction m2 with
          | zero => intro _ _ _ _ _ _ h; omega
          | succ m2 ih2 =>
            intro w u ζ3 hwu htu hu hm2 hf3 hold3
            subst hwu
            obtain ⟨va3, cs3, e5⟩ := keep (fo hf3)
            unfold g_X4_oneQuestionDoes_40 g_X4_oneQuestionDoes_72 g_X4_oneQuestionDoes_73 g_X4_oneQuestionDoes_117
            refine ok_gI (by omega) (by omega) (by omega) (by omega) (fun g1 => ih _ (t + 1) ζ3 (by omega) (by omega) (by omega) hf3 (fun a b h1 h2 h3 h4 h5 => hold3 a b h1 h2 h3 h4 (by rw [show u = 8 by omega]; exact (bf_row h1 h2).mpr h5))) (fun g1 => ?_)
            have hu8 : u < 8 := by omega
            have skip : ∀ ζ4, Fx (fun x _ => x = 135 ∨ x = 136) ζ1 ζ4 → (inb A t = true → inb A u = true → ¬ (BAx A X t u ∧ BAx A X u t)) → Ok (g_X4_oneQuestionDoes_40 c (t : Int) (g_X4_oneQuestionDoes_30 c m) m2 ((u : Int) + 1) ζ4) (fun r => (∃ p : Bool, r.1 = bi p ∧ (p = true ↔ OQ A X)) ∧ Fx Woq ζ r.2) := fun ζ4 f4 hn => ih2 _ (u + 1) ζ4 (by omega) (by omega) (by omega) (by omega) f4 (fun a b h1 h2 h3 h4 h5 => by
              rcases bf_s.mp h5 with q | ⟨q1, q2⟩
              · exact hold3 a b h1 h2 h3 h4 q
              · subst q1; subst q2; exact hn h3 h4)
            have z0 : ∀ Z : Option (Int × ZS), (inb A t = true → inb A u = true → ¬ (BAx A X t u ∧ BAx A X u t)) → Ok (gI 0 0 ((0 : Int) = 0) (g_X4_oneQuestionDoes_40 c (t : Int) (g_X4_oneQuestionDoes_30 c m) m2 ((u : Int) + 1) ζ3) Z) (fun r => (∃ p : Bool, r.1 = bi p ∧ (p = true ↔ OQ A X)) ∧ Fx Woq ζ r.2) := fun Z hn => ok_gI (by omega) (by omega) (by omega) (by omega) (fun _ => skip ζ3 hf3 hn) (fun q => absurd rfl q)
            refine ok_beq (s_isInC va3.2 (by omega)) ?_
            rw [inz_n ht8]
            refine ok_bi (fun e1 => z0 _ (fun q => by rw [e1] at q; cases q)) (fun e1 => ok_beq (s_isInC va3.2 (by omega)) ?_)
            rw [inz_n hu8]
            refine ok_bi (fun e2 => z0 _ (fun _ q => by rw [e2] at q; cases q)) (fun e2 => ok_gI (by omega) (by omega) (by omega) (by omega) (fun q => absurd q (by omega)) (fun _ => ?_))
            -- at each corner one of the two is best, if they do
            have allc : BAx A X t u ∧ BAx A X u t → ∀ i, i < n → P i t = true ∨ P i u = true := fun hb i hi => by
              have self : ∀ x y, x < 8 → inb A x = true → BAx A X x y → 0 ≤ dt (leadv A x y) (cw ζ c i) → P i x = true := fun x y hx hix hbx hd => (hPe i x hi hx).mpr ⟨hix, fun o ho hio => by
                have s := (bax_sure hx hix hbx)
                by_cases c1 : o = x
                · subst c1; rw [dt_self]; omega
                · by_cases c2 : o = y
                  · subst c2; exact hd
                  · exact hbx o ho hio c1 c2 _ (hpt i hi).1 hd⟩
              rcases lead_tot A t u (cw ζ c i) with q | q
              · exact Or.inl (self t u ht8 e1 hb.1 q)
              · exact Or.inr (self u t hu8 e2 hb.2 q)
            have es : zor (zshl 1 (t : Int)) (zshl 1 (u : Int)) = ((msk (fun i => decide (i = t) || decide (i = u)) 8 : Nat) : Int) := by
              rw [z_single (n := 8) (by omega) ht8, z_in _ (by omega) hu8]
            rw [es]
            have have' : ∀ (m3 : Nat) (w : Int) (i : Nat), w = i → i ≤ n → n - i < m3 → (∀ i', i' < i → P i' t = true ∨ P i' u = true) → Ok (g_X4_haveAllCorners_2 c ((msk (fun i => decide (i = t) || decide (i = u)) 8 : Nat) : Int) m3 w ζ3) (fun r => r.2 = ζ3 ∧ ∃ p : Bool, r.1 = bi p ∧ (p = true ↔ ∀ i, i < n → P i t = true ∨ P i u = true)) := by
              intro m3
              induction m3 with
              | zero => intro _ _ _ _ h; omega
              | succ m3 ih3 =>
                intro w i hwi hi hm3 holdi
                subst hwi
                unfold g_X4_haveAllCorners_2
                rw [e5]
                refine ok_gI (by omega) (by omega) (by omega) (by omega) (fun g2 => ok_some ⟨rfl, true, rfl, ⟨fun _ i' h' => holdi i' (by omega), fun _ => rfl⟩⟩) (fun g2 => ?_)
                have hin : i < n := by omega
                rw [show Int.toNat (i : Int) = i by omega, (hf3.1 138 i (by omega)).1, hP i hin, z_and (P i) _ (by omega)]
                have ml := msk_31 (fun j => P i j && (decide (j = t) || decide (j = u))) (n := 8) (by omega)
                refine ok_gk (by omega) (by omega) (ok_gI (by omega) (by omega) (by omega) (by omega) (fun g3 => ok_some ⟨rfl, false, rfl, ⟨fun q => (by cases q), fun q => ?_⟩⟩) (fun g3 => ih3 _ (i + 1) (by omega) (by omega) (by omega) (fun i' h' => ?_)))
                · have nn := msk_none.mp (show msk (fun j => P i j && (decide (j = t) || decide (j = u))) 8 = 0 by omega)
                  rcases q i hin with r | r
                  · have := nn t ht8; simp [r] at this
                  · have := nn u hu8; simp [r] at this
                · by_cases cc : i' = i
                  · subst cc
                    obtain ⟨j, hj, hh⟩ := msk_ne (p := fun j => P i' j && (decide (j = t) || decide (j = u))) (n := 8) (by omega)
                    rw [Bool.and_eq_true, Bool.or_eq_true, decide_eq_true_eq, decide_eq_true_eq] at hh
                    rcases hh.2 with r | r
                    · subst r; exact Or.inl hh.1
                    · subst r; exact Or.inr hh.1
                  · exact holdi i' (by omega)
            unfold g_X4_haveAllCorners
            refine ok_bind (have' FU 0 0 rfl (by omega) (by rw [FU_e]; omega) (fun i' h' => by omega)) (fun r ⟨r1, p, r2, r3⟩ => ?_)
            rw [r2, r1]
            refine ok_bi (fun e3 => skip ζ3 hf3 (fun _ _ hb => by rw [r3.mpr (allc hb)] at e3; cases e3)) (fun e3 => ?_)
            refine ok_bind (s_isBestAhead hw va3 cs3 hq hc rfl rfl ht8 hu8) (fun s ⟨⟨p2, s1, s2⟩, s3⟩ => ?_)
            have f4 := fx_trans hf3 s3
            obtain ⟨va4, cs4, _⟩ := keep (fo f4)
            rw [s1]
            refine ok_bi (fun e4 => skip s.2 f4 (fun _ _ hb => by rw [s2.mpr hb.1] at e4; cases e4)) (fun e4 => ?_)
            refine ok_bind (s_isBestAhead hw va4 cs4 hq hc rfl rfl hu8 ht8) (fun v ⟨⟨p3, v1, v2⟩, v3⟩ => ?_)
            have f5 := fx_trans f4 v3
            rw [v1]
            exact ok_bi (fun e5 => skip v.2 f5 (fun _ _ hb => by rw [v2.mpr hb.2] at e5; cases e5)) (fun e5 => ok_some ⟨⟨true, rfl, ⟨fun _ => ⟨t, u, htu, hu8, e1, e2, s2.mp e4, v2.mp e5⟩, fun _ => rfl⟩⟩, fo f5⟩)
        exact inner FU _ (t + 1) ζ2 (by omega) (by omega) (by omega) (by rw [FU_e]; omega) hf2 hold
    exact outer FU 0 0 ζ1 rfl (by omega) (by rw [FU_e]; omega) (fx_refl _ _) (fun a b h1 h2 h3 h4 h5 => by unfold Bf at h5; omega)
  have bests : ∀ (m : Nat) (w : Int) (i : Nat) (P : Nat → Nat → Bool) (ζ1 : ZS), w = i → i ≤ n → n - i < m → Fx (fun x _ => x = 137 ∨ x = 138) ζ ζ1 → (∀ i', i' < i → ζ1.1 138 i' = ((msk (P i') 8 : Nat) : Int)) → (∀ i' t, i' < i → t < 8 → (P i' t = true ↔ (inb A t = true ∧ ∀ u, u < 8 → inb A u = true → 0 ≤ dt (leadv A t u) (cw ζ c i')))) → Ok (g_X4_oneQuestionDoes_2 c m w ζ1) (fun r => (∃ p : Bool, r.1 = bi p ∧ (p = true ↔ OQ A X)) ∧ Fx Woq ζ r.2) := by
    intro m
    induction m with
    | zero => intro _ _ _ _ _ _ h; omega
    | succ m ih =>
      intro w i P ζ1 hwi hi hm hf hP hPe
      subst hwi
      have fo : Fx Woq ζ ζ1 := fx_mono hf (fun x y q => by unfold Woq; omega)
      obtain ⟨va1, cs1, e5⟩ := keep fo
      unfold g_X4_oneQuestionDoes_2
      rw [e5]
      refine ok_gI (by omega) (by omega) (by omega) (by omega) (fun g => pairs P ζ1 fo (fun i' h' => hP i' (by omega)) (fun i' t h1 h2 => hPe i' t (by omega) h2)) (fun g => ?_)
      have hin : i < n := by omega
      refine ok_bind (s_bestByCorner hw va1 cs1 hq (by omega) rfl e5 hin) (fun r ⟨⟨p, r1, r2⟩, r3⟩ => ?_)
      rw [show Int.toNat (i : Int) = i by omega, r1]
      have er : cw ζ1 c i = cw ζ c i := by funext x; exact (hf.1 (c + 1) _ (by omega)).2
      refine ok_gk (by omega) (by omega) (ih _ (i + 1) (fun j => if j = i then p else P j) _ (by omega) (by omega) (by omega) (fx_I (fx_trans hf (fx_mono r3 (fun x y q => Or.inl q))) (Or.inr rfl)) (fun i' h' => ?_) (fun i' t h1 h2 => ?_))
      · rw [zI_1]
        by_cases cc : i' = i
        · rw [if_pos ⟨rfl, cc⟩, if_pos cc]
        · rw [if_neg (by omega), if_neg cc, (r3.1 138 i' (by unfold We; omega)).1]; exact hP i' (by omega)
      · by_cases cc : i' = i
        · rw [if_pos cc, cc, r2 t h2, er]
        · rw [if_neg cc]; exact hPe i' t (by omega) h2
  unfold g_X4_oneQuestionDoes
  exact bests FU 0 0 (fun _ _ => false) ζ rfl (by omega) (by rw [FU_e]; omega) (fx_refl _ _) (fun i' h' => by omega) (fun i' t h' => by omega)
def Wfw (x _y : Nat) : Prop := x = 71 ∨ (73 ≤ x ∧ x ≤ 124) ∨ (135 ≤ x ∧ x ≤ 138)
theorem fw_sc {ζ ζ' : ZS} (h : Fx Wfw ζ ζ') : Fx Wsc ζ ζ' := fx_mono h (fun x y q => by unfold Wfw at q; unfold Wsc; omega)
theorem s_oneMoreDoes {A : Nat → Nat → Int} {ζ : ZS} {k a b : Nat} {X : V4 → Prop} {z y : Int} (hw : Wa A) (hva : Va A ζ) (hcs : Cs ζ 68 k X 12) (hz : z = a) (hy : y = b) (ha : a < 8) (hb : b < 8) : Ok (g_X4_oneMoreDoes z y ζ) (fun r => (∃ p : Bool, r.1 = bi p ∧ (p = true ↔ OQ A (cutX A X a b))) ∧ Fx Wfw ζ r.2) := by
  have e0 : Int.toNat 0 = 0 := rfl
  unfold g_X4_oneMoreDoes
  rw [e0]
  refine ok_bind (s_fillLead (A := A) (a := a) (b := b) (e := 135) hva.1 hz hy ha hb (by omega) rfl) (fun ζ1 ⟨h1, f1⟩ => ?_)
  have cs1 : Cs ζ1 68 k X 12 := cs_fx hcs (fun x y g1 g2 => f1.1 x y (by unfold We; omega))
  refine ok_gk (by omega) (by omega) (ok_bind (cs_cut ζ1 (73 + 4 * 0) 68 135 cs1 (by omega) (by omega) rfl (by omega) (by omega) h1 (leadv_bd hw ha hb)) (fun ζ2 ⟨c2, f2⟩ => ok_gk (by omega) (by omega) ?_))
  have f02 : Fx Wfw ζ ζ2 := fx_trans (fx_mono f1 (fun x y q => by unfold We at q; unfold Wfw; omega)) (fx_mono f2 (fun x y q => by unfold Wc at q; unfold Wfw; omega))
  have va2 : Va A ζ2 := va_fx hva (fun x y g => (f02.1 x y (by unfold Wfw; omega)).1)
  have c2' : Cs ζ2 (73 + 4 * 0) k (cutX A X a b) 13 := c2
  refine ok_bind (s_oneQuestionDoes hw va2 c2' (by omega) (Or.inr rfl)) (fun r ⟨⟨p, r1, r2⟩, r3⟩ => ?_)
  rw [r1]
  exact ok_gz (bi_r p) (ok_some ⟨⟨p, rfl, r2⟩, fx_trans f02 (fx_mono r3 (fun x y q => by unfold Woq at q; unfold Wfw; omega))⟩)
theorem b_few {A : Nat → Nat → Int} {ζ : ZS} (h : Cls A ζ) (hW : Wall A) : Ok (g_X11_few ζ) (CP A ζ (QFw A)) := by
  have hw := hW.1
  have qk := hW.1.1
  obtain ⟨k, hk⟩ : ∃ k : Nat, A 0 20 = k := ⟨(A 0 20).toNat, by omega⟩
  unfold g_X11_few g_X11_few_34 g_X11_few_35
  refine ok_bind (s_fresh hW h) (fun ζ1 ⟨c1, f1⟩ => ?_)
  refine ok_bind (s_theyCan (A := A) (cf_fit c1 hk) (by omega)) (fun r ⟨r1, b, r2, r3⟩ => ?_)
  rw [r2, r1]
  refine ok_bi (fun e3 => ok_some ⟨Or.inr ⟨fun q => (by have := r3.mpr q.2; rw [e3] at this; cases this), rfl⟩, cf_cls c1, f1⟩) (fun e3 => ?_)
  have hcan := r3.mp e3
  have ml := msk_31 (inb A) (n := 8) (by omega)
  rw [c1.2.1.1.2]
  refine ok_gI (by omega) (by omega) (by omega) (by omega) (fun g => ok_some ⟨Or.inr ⟨fun ⟨⟨t, q1, q2⟩, _⟩ => ?_, rfl⟩, cf_cls c1, f1⟩) (fun g => ?_)
  · rw [msk_none.mp (show msk (inb A) 8 = 0 by omega) t q1] at q2; cases q2
  have hin : ∃ t, t < 8 ∧ inb A t = true := msk_ne (by omega)
  have va := c1.2.1.1
  have hfit := cf_fit c1 hk
  obtain ⟨X, hX⟩ : ∃ X, X = Sc A (hrd A) := ⟨_, rfl⟩
  have fin : ∀ v ζ2, Fx Wfw ζ1 ζ2 → QFw A v → CP A ζ (QFw A) (v, ζ2) := fun v ζ2 f q => ⟨q, cf_cls (cf_sc hW.2.1 c1 (fw_sc f)), fx_trans f1 (wsc_26 (fw_sc f))⟩
  have quest : Ok (g_X4_fewQuestions ζ1) (fun r => QFw A r.1 ∧ Fx Wfw ζ1 r.2) := by
    unfold g_X4_fewQuestions
    refine ok_bind (s_surelyBest hw va hfit (by omega) (by omega)) (fun q ⟨q1, q2⟩ => ?_)
    have qn := qs_ne q1
    have fq : Fx Wfw ζ1 q.2 := fx_mono q2 (fun x y c => by unfold We at c; unfold Wfw; omega)
    refine ok_gI (by omega) (by omega) (by omega) (by omega) (fun g1 => ?_) (fun g1 => ok_some ⟨Or.inl ⟨⟨hin, hcan⟩, Or.inl ⟨rfl, qn.1.mp g1⟩⟩, fq⟩)
    have ns : ¬ Sb A (Sc A (hrd A)) := fun c => qn.1.mpr c g1
    have keep : ∀ {ζ2}, Fx Wfw ζ1 ζ2 → Va A ζ2 ∧ Cs ζ2 68 k (Sc A (hrd A)) 12 := fun {ζ2} f => ⟨va_fx va (fun x y g => (f.1 x y (by unfold Wfw; omega)).1), cs_fx hfit (fun x y g1 g2 => f.1 x y (by unfold Wfw; omega))⟩
    obtain ⟨va2, cs2⟩ := keep fq
    refine ok_bind (s_oneQuestionDoes hw va2 cs2 (by omega) (Or.inl rfl)) (fun s ⟨⟨p, s1, s2⟩, s3⟩ => ?_)
    have fs := fx_trans fq (fx_mono s3 (fun x y q => by unfold Woq at q; unfold Wfw; omega))
    have d1 : Dq A 1 (Sc A (hrd A)) ↔ OQ A (Sc A (hrd A)) := ⟨fun c => by
      rcases id c with c' | ⟨a, b, h1, h2, h3, h4, _⟩
      · exact absurd c' ns
      · exact dq_oq h1 h2 h3 h4 c, oq_dq⟩
    rw [s1]
    refine ok_bi (fun e4 => ?_) (fun e4 => ok_some ⟨Or.inl ⟨⟨hin, hcan⟩, Or.inr (Or.inl ⟨rfl, ns, d1.mpr (s2.mp e4)⟩)⟩, fs⟩)
    have n1 : ¬ Dq A 1 (Sc A (hrd A)) := fun c => by rw [s2.mpr (d1.mp c)] at e4; cases e4
    -- two questions
    have outer : ∀ (m : Nat) (w : Int) (a : Nat) (ζ2 : ZS), w = a → a ≤ 8 → 8 - a < m → Fx Wfw ζ1 ζ2 → ¬ Eq' A (Sc A (hrd A)) 1 a (a + 1) → Ok (g_X4_fewQuestions_34 m w ζ2) (fun r => QFw A r.1 ∧ Fx Wfw ζ1 r.2) := by
      intro m
      induction m with
      | zero => intro _ _ _ _ _ h; omega
      | succ m ih =>
        intro w a ζ2 hwa ha hm hf hold
        subst hwa
        unfold g_X4_fewQuestions_34
        refine ok_gI (by omega) (by omega) (by omega) (by omega) (fun g2 => ok_some ⟨Or.inl ⟨⟨hin, hcan⟩, Or.inr (Or.inr (Or.inr ⟨rfl, ns, n1, fun c => ?_⟩))⟩, hf⟩) (fun g2 => ?_)
        · rcases c with c | ⟨x, y, h1, h2, h3, h4, h5, h6⟩
          · exact ns c
          · exact hold ⟨x, y, h1, h2, h3, h4, by unfold Bf; omega, h5, h6⟩
        · have ha8 : a < 8 := by omega
          have inner : ∀ (m2 : Nat) (w : Int) (b : Nat) (ζ3 : ZS), w = b → a < b → b ≤ 8 → 8 - b < m2 → Fx Wfw ζ1 ζ3 → ¬ Eq' A (Sc A (hrd A)) 1 a b → Ok (g_X4_fewQuestions_44 (a : Int) (g_X4_fewQuestions_34 m) m2 w ζ3) (fun r => QFw A r.1 ∧ Fx Wfw ζ1 r.2) := by
            intro m2
            induction m2 with
            | zero => intro _ _ _ _ _ _ h; omega
            | succ m2 ih2 =>
              intro w b ζ3 hwb hab hb hm2 hf3 hold3
              subst hwb
              obtain ⟨va3, cs3⟩ := keep hf3
              unfold g_X4_fewQuestions_44 g_X4_fewQuestions_76 g_X4_fewQuestions_77 g_X4_fewQuestions_102
              refine ok_gI (by omega) (by omega) (by omega) (by omega) (fun g3 => ih _ (a + 1) ζ3 (by omega) (by omega) (by omega) hf3 (fun c => hold3 (by rw [show b = 8 by omega]; exact eq_row.mpr c))) (fun g3 => ?_)
              have hb8 : b < 8 := by omega
              have z0 : ∀ Z : Option (Int × ZS), ¬ (inb A a = true ∧ inb A b = true) → Ok (gI 0 0 ((0 : Int) = 0) (g_X4_fewQuestions_44 (a : Int) (g_X4_fewQuestions_34 m) m2 ((b : Int) + 1) ζ3) Z) (fun r => QFw A r.1 ∧ Fx Wfw ζ1 r.2) := fun Z hn => ok_gI (by omega) (by omega) (by omega) (by omega) (fun _ => ih2 _ (b + 1) ζ3 (by omega) (by omega) (by omega) (by omega) hf3 (fun c => hold3 ((eq_skip hn).mp c))) (fun q => absurd rfl q)
              refine ok_beq (s_isInC va3.2 (by omega)) ?_
              rw [inz_n ha8]
              refine ok_bi (fun e1 => z0 _ (fun q => by rw [e1] at q; cases q.1)) (fun e1 => ok_beq (s_isInC va3.2 (by omega)) ?_)
              rw [inz_n hb8]
              refine ok_bi (fun e2 => z0 _ (fun q => by rw [e2] at q; cases q.2)) (fun e2 => ok_gI (by omega) (by omega) (by omega) (by omega) (fun q => absurd q (by omega)) (fun _ => ?_))
              have dd : ∀ x y, x < 8 → y < 8 → (OQ A (cutX A (Sc A (hrd A)) x y) ↔ Dq A 1 (cutX A (Sc A (hrd A)) x y)) := fun x y _ _ => ⟨oq_dq, dq_oq hab hb8 e1 e2⟩
              have nxt : ∀ ζ4, Fx Wfw ζ1 ζ4 → ¬ (Dq A 1 (cutX A (Sc A (hrd A)) a b) ∧ Dq A 1 (cutX A (Sc A (hrd A)) b a)) → Ok (g_X4_fewQuestions_44 (a : Int) (g_X4_fewQuestions_34 m) m2 ((b : Int) + 1) ζ4) (fun r => QFw A r.1 ∧ Fx Wfw ζ1 r.2) := fun ζ4 f4 hn => ih2 _ (b + 1) ζ4 (by omega) (by omega) (by omega) (by omega) f4 (fun c => by
                rcases (eq_s hab hb8 e1 e2).mp c with q | q
                · exact hold3 q
                · exact hn q)
              refine ok_bind (s_oneMoreDoes hw va3 cs3 rfl rfl ha8 hb8) (fun u ⟨⟨p1, u1, u2⟩, u3⟩ => ?_)
              have f4 := fx_trans hf3 u3
              obtain ⟨va4, cs4⟩ := keep f4
              rw [u1]
              refine ok_bi (fun e5 => nxt u.2 f4 (fun c => by rw [u2.mpr ((dd a b ha8 hb8).mpr c.1)] at e5; cases e5)) (fun e5 => ?_)
              refine ok_bind (s_oneMoreDoes hw va4 cs4 rfl rfl hb8 ha8) (fun v ⟨⟨p2, v1, v2⟩, v3⟩ => ?_)
              have f5 := fx_trans f4 v3
              rw [v1]
              refine ok_bi (fun e6 => nxt v.2 f5 (fun c => by rw [v2.mpr ((dd b a hb8 ha8).mpr c.2)] at e6; cases e6)) (fun e6 => ok_some ⟨Or.inl ⟨⟨hin, hcan⟩, Or.inr (Or.inr (Or.inl ⟨rfl, ns, n1, Or.inr ⟨a, b, hab, hb8, e1, e2, (dd a b ha8 hb8).mp (u2.mp e5), (dd b a hb8 ha8).mp (v2.mp e6)⟩⟩))⟩, f5⟩)
          exact inner FU _ (a + 1) ζ2 (by omega) (by omega) (by omega) (by rw [FU_e]; omega) hf hold
    exact outer FU 0 0 s.2 rfl (by omega) (by rw [FU_e]; omega) fs (fun ⟨c, e, h1, h2, _, _, h5, _⟩ => by unfold Bf at h5; omega)
  exact ok_bind quest (fun q ⟨q1, q2⟩ => ok_some (fin q.1 q.2 q2 q1))
