/-! few: how many questions -/
/-- a thing is surely best -/
def Sb (A : Nat → Nat → Int) (X : V4 → Prop) : Prop := ∃ t, t < 8 ∧ inb A t = true ∧ ∀ u, u < 8 → inb A u = true → Al X (leadv A t u)
/-- so many questions do -/
def Dq (A : Nat → Nat → Int) : Nat → (V4 → Prop) → Prop
  | 0, X => Sb A X
  | l + 1, X => Sb A X ∨ ∃ a b, a < b ∧ b < 8 ∧ inb A a = true ∧ inb A b = true ∧ Dq A l (cutX A X a b) ∧ Dq A l (cutX A X b a)
theorem dq_sb {A : Nat → Nat → Int} {X : V4 → Prop} : ∀ l, Sb A X → Dq A l X
  | 0, h => h
  | _ + 1, h => Or.inl h
theorem sb_none {A : Nat → Nat → Int} {X : V4 → Prop} {t : Nat} (ht : t < 8) (hi : inb A t = true) (h : ¬ NV X) : Sb A X := ⟨t, ht, hi, fun u _ _ w hw => by
  have z : ∀ i, i < 4 → w i = 0 := fun i hi => by
    apply Classical.byContradiction
    intro c
    exact h ⟨w, hw, i, hi, c⟩
  unfold dt
  rw [z 0 (by omega), z 1 (by omega), z 2 (by omega), z 3 (by omega)]
  simp⟩
/-- some pair ahead of (a, b) does with j behind each answer -/
def Eq' (A : Nat → Nat → Int) (X : V4 → Prop) (j a b : Nat) : Prop := ∃ c d, c < d ∧ d < 8 ∧ inb A c = true ∧ inb A d = true ∧ Bf c d a b ∧ Dq A j (cutX A X c d) ∧ Dq A j (cutX A X d c)
theorem eq_s {A : Nat → Nat → Int} {X : V4 → Prop} {j a b : Nat} (hab : a < b) (hb : b < 8) (ha : inb A a = true) (hib : inb A b = true) : Eq' A X j a (b + 1) ↔ (Eq' A X j a b ∨ (Dq A j (cutX A X a b) ∧ Dq A j (cutX A X b a))) := by
  constructor
  · rintro ⟨c, d, h1, h2, h3, h4, h5, h6, h7⟩
    rcases bf_s.mp h5 with q | ⟨q1, q2⟩
    · exact Or.inl ⟨c, d, h1, h2, h3, h4, q, h6, h7⟩
    · subst q1; subst q2; exact Or.inr ⟨h6, h7⟩
  · rintro (⟨c, d, h1, h2, h3, h4, h5, h6, h7⟩ | ⟨h6, h7⟩)
    · exact ⟨c, d, h1, h2, h3, h4, bf_s.mpr (Or.inl h5), h6, h7⟩
    · exact ⟨a, b, hab, hb, ha, hib, bf_s.mpr (Or.inr ⟨rfl, rfl⟩), h6, h7⟩
theorem eq_skip {A : Nat → Nat → Int} {X : V4 → Prop} {j a b : Nat} (hn : ¬ (inb A a = true ∧ inb A b = true)) : Eq' A X j a (b + 1) ↔ Eq' A X j a b := by
  constructor
  · rintro ⟨c, d, h1, h2, h3, h4, h5, h6⟩
    rcases bf_s.mp h5 with q | ⟨q1, q2⟩
    · exact ⟨c, d, h1, h2, h3, h4, q, h6⟩
    · subst q1; subst q2; exact absurd ⟨h3, h4⟩ hn
  · rintro ⟨c, d, h1, h2, h3, h4, h5, h6⟩
    exact ⟨c, d, h1, h2, h3, h4, bf_s.mpr (Or.inl h5), h6⟩
theorem eq_row {A : Nat → Nat → Int} {X : V4 → Prop} {j a : Nat} : Eq' A X j a 8 ↔ Eq' A X j (a + 1) (a + 1 + 1) := by
  constructor
  · rintro ⟨c, d, h1, h2, h3, h4, h5, h6⟩; exact ⟨c, d, h1, h2, h3, h4, (bf_row h1 h2).mp h5, h6⟩
  · rintro ⟨c, d, h1, h2, h3, h4, h5, h6⟩; exact ⟨c, d, h1, h2, h3, h4, (bf_row h1 h2).mpr h5, h6⟩
theorem sur_sb {A : Nat → Nat → Int} (h32 : A 0 32 = -1) {X : V4 → Prop} : (∃ t, t < 8 ∧ inb A t = true ∧ sur A X t) ↔ Sb A X := by
  constructor
  · rintro ⟨t, h1, h2, h3⟩; exact ⟨t, h1, h2, (sur_lead h32 h2 h1).mpr h3⟩
  · rintro ⟨t, h1, h2, h3⟩; exact ⟨t, h1, h2, (sur_lead h32 h2 h1).mp h3⟩
/-- the answer of a search of at most l questions -/
def FwR (A : Nat → Nat → Int) (X : V4 → Prop) (l : Nat) (v : Int) : Prop := 0 ≤ v ∧ v ≤ 9 ∧ ∀ j : Nat, j ≤ l → (v ≤ (j : Int) ↔ Dq A j X)
theorem s_fewFrom {A : Nat → Nat → Int} (hW : Wall A) : ∀ (d l : Nat), l < d → l ≤ 2 → ∀ (lv R : Nat) (X : V4 → Prop) (z y : Int) (ζ : ZS), z = lv → y = l → lv + l ≤ 2 → Rf A ζ → Lw A ζ lv X (12 + lv) → ζ.1 21 lv = R → Ok (g_X12_fewFrom d z y ζ) (fun r => FwR A X l r.1 ∧ Lw A r.2 lv X (12 + lv) ∧ Rf A r.2 ∧ Fx (Wm lv R) ζ r.2) := by
  have hx := hW.2.2.2.1
  have h32 := hW.2.2.2.2.1
  intro d
  induction d with
  | zero => intro l h; omega
  | succ d ihd =>
    intro l hl hl2 lv R X z y ζ hz hy hlv h hL hR
    subst hz; subst hy
    unfold g_X12_fewFrom g_X12_fewFrom_0
    refine ok_bind (s_sureBest h hW.1 hx (lv := lv) rfl (by omega) hL.1 (by omega)) (fun q ⟨q1, q2⟩ => ?_)
    have qn := qs_ne q2
    rw [q1]
    refine ok_gI (by omega) (by omega) (by omega) (by omega) (fun g => ?_) (fun g => ok_some ⟨⟨by omega, by omega, fun j _ => ⟨fun _ => dq_sb j ((sur_sb h32).mp (qn.1.mp g)), fun _ => by omega⟩⟩, hL, h, fx_refl _ _⟩)
    have ns : ¬ Sb A X := fun c => qn.1.mpr ((sur_sb h32).mpr c) g
    -- one answer
    have behind : ∀ (a b : Nat) (ζ1 : ZS), 1 ≤ l → a < 8 → b < 8 → inb A a = true → Rf A ζ1 → Lw A ζ1 lv X (12 + lv) → ζ1.1 21 lv = R → Ok (g_X12_fewBehind (g_X12_fewFrom d) (a : Int) (b : Int) (lv : Int) (l : Int) ζ1) (fun r => FwR A (cutX A X a b) (l - 1) r.1 ∧ Lw A r.2 lv X (12 + lv) ∧ Rf A r.2 ∧ Fx (Wm lv R) ζ1 r.2) := by
      intro a b ζ1 hl1 ha hb hia h1 hL1 hR1
      obtain ⟨ζ2, e2, g1, g3, g4, g5⟩ := s_deeper (x := (lv : Int)) h1 hW.1 hx (a := a) (b := b) rfl rfl rfl ha hb (by omega) hL1 (by omega) hR1
      unfold g_X12_fewBehind g_X12_fewBehind_39
      cases hc : g_X12_addsAbove (a : Int) (b : Int) ζ1 with
      | none => rw [hc] at e2; cases e2
      | some q3 =>
        rw [hc] at e2
        have e2 : g_X12_findMore ((lv : Int) + 1) q3 = some ζ2 := e2
        refine ok_beq rfl (ok_beq e2 ?_)
        have L2 : Lw A ζ2 (lv + 1) (cutX A X a b) (12 + (lv + 1)) := lw_congr g1 (fun w => by rw [abv_lead h32]; exact Iff.rfl) (by omega)
        obtain ⟨n, hn, n44, hne, _⟩ := lb_n L2.1 (by omega)
        rw [show Int.toNat ((lv : Int) + 1) = lv + 1 by omega, hn]
        have fin : ∀ ζ3, Lb A ζ3 lv X (12 + lv) ∧ ζ3.1 21 lv = R → Rf A ζ3 → Fx (Wm lv R) ζ1 ζ3 → ∀ v, FwR A (cutX A X a b) (l - 1) v → Ok ((g_X12_backTo (lv : Int) ζ3).bind fun q1 => some (v, q1)) (fun r => FwR A (cutX A X a b) (l - 1) r.1 ∧ Lw A r.2 lv X (12 + lv) ∧ Rf A r.2 ∧ Fx (Wm lv R) ζ1 r.2) := fun ζ3 L3 h3 f3 v hv => by
          have bk := s_backTo (x := (lv : Int)) (lv := lv) rfl (by omega) L3.1 L3.2
          refine ok_beq bk.1 (ok_some ⟨hv, bk.2, fun x y hp => ?_, fx_I f3 (by unfold Wm; omega)⟩)
          show (zI ζ3 0 26 (R : Int)).1 x y = A x y
          rw [zI_1, if_neg (by unfold psl at hp; omega)]; exact h3 x y hp
        refine ok_gk (by omega) (by omega) (ok_gI (by omega) (by omega) (by omega) (by omega) (fun g => fin ζ2 (lb_fx hL1.1 (by omega) hR1 g4) g3 g4 0 ⟨by omega, by omega, fun j _ => ⟨fun _ => dq_sb j (sb_none ha hia (fun c => by have := hne.mpr c; omega)), fun _ => by omega⟩⟩) (fun g => ?_))
        obtain ⟨R', hR'⟩ : ∃ R' : Nat, ζ2.1 21 (lv + 1) = R' := ⟨(ζ2.1 21 (lv + 1)).toNat, by omega⟩
        refine ok_bind (ihd (l - 1) (by omega) (by omega) (lv + 1) R' (cutX A X a b) _ _ ζ2 (by omega) (by omega) (by omega) g3 L2 hR') (fun q ⟨q1, q2, q3, q4⟩ => ?_)
        have f3 : Fx (Wm lv R) ζ1 q.2 := fx_trans g4 (fx_mono q4 (fun x y c => wm_mono (by omega) (by omega) x y c))
        exact fin q.2 (lb_fx hL1.1 (by omega) hR1 f3) q3 f3 q.1 q1
    -- all pairs
    have stop : ∀ (v : Int) (ζ1 : ZS), 1 ≤ v → v ≤ 9 → (∀ j : Nat, 1 ≤ j → j ≤ l → (v ≤ (j : Int) ↔ Eq' A X (j - 1) 8 9)) → Lw A ζ1 lv X (12 + lv) → Rf A ζ1 → Fx (Wm lv R) ζ ζ1 → Ok (some (v, ζ1)) (fun r => FwR A X l r.1 ∧ Lw A r.2 lv X (12 + lv) ∧ Rf A r.2 ∧ Fx (Wm lv R) ζ r.2) := fun v ζ1 v1 v9 hv hL1 h1 f1 => by
      refine ok_some ⟨⟨by omega, v9, fun j hj => ?_⟩, hL1, h1, f1⟩
      cases j with
      | zero => exact ⟨fun q => by omega, fun q => absurd q ns⟩
      | succ j =>
        refine (hv (j + 1) (by omega) hj).trans ⟨fun ⟨c, e, h1, h2, h3, h4, _, h5, h6⟩ => Or.inr ⟨c, e, h1, h2, h3, h4, h5, h6⟩, fun q => ?_⟩
        rcases q with q | ⟨c, e, h1, h2, h3, h4, h5, h6⟩
        · exact absurd q ns
        · exact ⟨c, e, h1, h2, h3, h4, by unfold Bf; omega, h5, h6⟩
    have outer : ∀ (m : Nat) (v w : Int) (a : Nat) (ζ1 : ZS), w = a → a ≤ 8 → 8 - a < m → 1 ≤ v → v ≤ 9 → (∀ j : Nat, 1 ≤ j → j ≤ l → (v ≤ (j : Int) ↔ Eq' A X (j - 1) a (a + 1))) → (l = 0 → v = 9) → Lw A ζ1 lv X (12 + lv) → Rf A ζ1 → ζ1.1 21 lv = R → Fx (Wm lv R) ζ ζ1 → Ok (g_X12_fewFrom_16 (g_X12_fewFrom d) (lv : Int) (l : Int) m v w ζ1) (fun r => FwR A X l r.1 ∧ Lw A r.2 lv X (12 + lv) ∧ Rf A r.2 ∧ Fx (Wm lv R) ζ r.2) := by
      intro m
      induction m with
      | zero => intro _ _ _ _ _ _ h; omega
      | succ m ih =>
        intro v w a ζ1 hw ha hm v1 v9 hv hv0 hL1 h1 hR1 f1
        subst hw
        unfold g_X12_fewFrom_16 g_X12_fewFrom_143
        refine ok_gI (by omega) (by omega) (by omega) (by omega) (fun g1 => stop v ζ1 v1 v9 (fun j h1 h2 => by rw [show 8 = a by omega, show 9 = a + 1 by omega]; exact hv j h1 h2) hL1 h1 f1) (fun g1 => ok_gI (by omega) (by omega) (by omega) (by omega) (fun g2 => stop v ζ1 v1 v9 (fun j h1 h2 => by omega) hL1 h1 f1) (fun g2 => ?_))
        have ha8 : a < 8 := by omega
        have hl1 : 1 ≤ l := by omega
        have inner : ∀ (m2 : Nat) (v w : Int) (b : Nat) (ζ2 : ZS), w = b → a < b → b ≤ 8 → 8 - b < m2 → 1 ≤ v → v ≤ 9 → (∀ j : Nat, 1 ≤ j → j ≤ l → (v ≤ (j : Int) ↔ Eq' A X (j - 1) a b)) → Lw A ζ2 lv X (12 + lv) → Rf A ζ2 → ζ2.1 21 lv = R → Fx (Wm lv R) ζ ζ2 → Ok (g_X12_fewFrom_33 (g_X12_fewFrom d) (lv : Int) (l : Int) (a : Int) (g_X12_fewFrom_16 (g_X12_fewFrom d) (lv : Int) (l : Int) m) m2 v w ζ2) (fun r => FwR A X l r.1 ∧ Lw A r.2 lv X (12 + lv) ∧ Rf A r.2 ∧ Fx (Wm lv R) ζ r.2) := by
          intro m2
          induction m2 with
          | zero => intro _ _ _ _ _ _ _ h; omega
          | succ m2 ih2 =>
            intro v w b ζ2 hw hab hb hm2 v1 v9 hv hL2 h2 hR2 f2
            subst hw
            unfold g_X12_fewFrom_33 g_X12_fewFrom_131
            refine ok_gI (by omega) (by omega) (by omega) (by omega) (fun g3 => ih v _ (a + 1) ζ2 (by omega) (by omega) (by omega) v1 v9 (fun j q1 q2 => (hv j q1 q2).trans (by rw [show b = 8 by omega]; exact eq_row)) (fun q => by omega) hL2 h2 hR2 f2) (fun g3 => ?_)
            have hb8 : b < 8 := by omega
            have skip : ¬ (inb A a = true ∧ inb A b = true) → Ok (g_X12_fewFrom_33 (g_X12_fewFrom d) (lv : Int) (l : Int) (a : Int) (g_X12_fewFrom_16 (g_X12_fewFrom d) (lv : Int) (l : Int) m) m2 v ((b : Int) + 1) ζ2) (fun r => FwR A X l r.1 ∧ Lw A r.2 lv X (12 + lv) ∧ Rf A r.2 ∧ Fx (Wm lv R) ζ r.2) := fun hn => ih2 v _ (b + 1) ζ2 (by omega) (by omega) (by omega) (by omega) v1 v9 (fun j q1 q2 => (hv j q1 q2).trans (eq_skip hn).symm) hL2 h2 hR2 f2
            refine ok_beq (s_isInN h2 hW.1 rfl ha8) (ok_bi (fun e1 => skip (fun q => by rw [e1] at q; cases q.1)) (fun e1 => ok_beq (s_isInN h2 hW.1 rfl hb8) (ok_bi (fun e2 => skip (fun q => by rw [e2] at q; cases q.2)) (fun e2 => ?_))))
            refine ok_gI (by omega) (by omega) (by omega) (by omega) (fun g4 => ih2 v _ (b + 1) ζ2 (by omega) (by omega) (by omega) (by omega) v1 v9 (fun j q1 q2 => ⟨fun q => (eq_s hab hb8 e1 e2).mpr (Or.inl ((hv j q1 q2).mp q)), fun _ => by omega⟩) hL2 h2 hR2 f2) (fun g4 => ?_)
            refine ok_bind (behind a b ζ2 hl1 ha8 hb8 e1 h2 hL2 hR2) (fun q ⟨q1, q2, q3, q4⟩ => ?_)
            have fq := fx_trans f2 q4
            have hRq : q.2.1 21 lv = R := (lb_fx hL2.1 (by omega) hR2 q4).2
            have qb := q1
            unfold FwR at qb
            obtain ⟨qb1, qb2, qb3⟩ := qb
            -- the best behind this pair
            have join : ∀ (n0 : Int) (ζ3 : ZS), 0 ≤ n0 → n0 ≤ 9 → (∀ j : Nat, 1 ≤ j → j ≤ l → ((v ≤ (j : Int) ∨ (q.1 ≤ ((j - 1 : Nat) : Int) ∧ n0 ≤ ((j - 1 : Nat) : Int))) ↔ Eq' A X (j - 1) a (b + 1))) → Lw A ζ3 lv X (12 + lv) → Rf A ζ3 → ζ3.1 21 lv = R → Fx (Wm lv R) ζ ζ3 → Ok (g_X12_fewFrom_98 (g_X12_fewFrom d) (g_X12_fewFrom_16 (g_X12_fewFrom d) (lv : Int) (l : Int) m) (g_X12_fewFrom_33 (g_X12_fewFrom d) (lv : Int) (l : Int) (a : Int) (g_X12_fewFrom_16 (g_X12_fewFrom d) (lv : Int) (l : Int) m) m2) (lv : Int) (l : Int) v (a : Int) (b : Int) q.1 n0 ζ3) (fun r => FwR A X l r.1 ∧ Lw A r.2 lv X (12 + lv) ∧ Rf A r.2 ∧ Fx (Wm lv R) ζ r.2) := by
              intro n0 ζ3 n1 n9 hj hL3 h3 hR3 f3
              unfold g_X12_fewFrom_98 g_X12_fewFrom_115 g_X12_fewFrom_130 g_X12_fewFrom_131
              have go : ∀ v' : Int, 1 ≤ v' → v' ≤ 9 → (∀ j : Nat, 1 ≤ j → j ≤ l → (v' ≤ (j : Int) ↔ (v ≤ (j : Int) ∨ (q.1 ≤ ((j - 1 : Nat) : Int) ∧ n0 ≤ ((j - 1 : Nat) : Int))))) → Ok (g_X12_fewFrom_33 (g_X12_fewFrom d) (lv : Int) (l : Int) (a : Int) (g_X12_fewFrom_16 (g_X12_fewFrom d) (lv : Int) (l : Int) m) m2 v' ((b : Int) + 1) ζ3) (fun r => FwR A X l r.1 ∧ Lw A r.2 lv X (12 + lv) ∧ Rf A r.2 ∧ Fx (Wm lv R) ζ r.2) := fun v' a1 a2 a3 => ih2 v' _ (b + 1) ζ3 (by omega) (by omega) (by omega) (by omega) a1 a2 (fun j z1 z2 => (a3 j z1 z2).trans (hj j z1 z2)) hL3 h3 hR3 f3
              clear hj ih2 ih hv
              exact ok_gI (by omega) (by omega) (by omega) (by omega) (fun c1 => ok_gI (by omega) (by omega) (by omega) (by omega) (fun c2 => go v v1 v9 (fun j z1 z2 => by omega)) (fun c2 => go _ (by omega) (by omega) (fun j z1 z2 => by omega))) (fun c1 => ok_gI (by omega) (by omega) (by omega) (by omega) (fun c2 => go v v1 v9 (fun j z1 z2 => by omega)) (fun c2 => go _ (by omega) (by omega) (fun j z1 z2 => by omega)))
            have yq : ∀ j : Nat, 1 ≤ j → j ≤ l → (q.1 ≤ ((j - 1 : Nat) : Int) ↔ Dq A (j - 1) (cutX A X a b)) := fun j z1 z2 => qb3 (j - 1) (by omega)
            refine ok_gI (by omega) (by omega) (by omega) (by omega) (fun g5 => ?_) (fun g5 => ?_)
            · refine ok_bind (behind b a q.2 hl1 hb8 ha8 e2 q3 q2 hRq) (fun s ⟨s1, s2, s3, s4⟩ => ?_)
              obtain ⟨sb1, sb2, sb3⟩ := s1
              refine join s.1 s.2 sb1 sb2 (fun j z1 z2 => ?_) s2 s3 (lb_fx q2.1 (by omega) hRq s4).2 (fx_trans fq s4)
              rw [eq_s hab hb8 e1 e2, hv j z1 z2, yq j z1 z2, sb3 (j - 1) (by omega)]
            · refine join q.1 q.2 qb1 qb2 (fun j z1 z2 => ?_) q2 q3 hRq fq
              rw [eq_s hab hb8 e1 e2]
              constructor
              · rintro (c | ⟨c, _⟩)
                · exact Or.inl ((hv j z1 z2).mp c)
                · refine Or.inl ((hv j z1 z2).mp ?_)
                  clear hv
                  omega
              · rintro (c | ⟨c, _⟩)
                · exact Or.inl ((hv j z1 z2).mpr c)
                · have := (yq j z1 z2).mpr c
                  exact Or.inr ⟨this, this⟩
        exact inner FU v _ (a + 1) ζ1 (by omega) (by omega) (by omega) (by rw [FU_e]; omega) v1 v9 hv hL1 h1 hR1 f1
    refine outer FU 9 0 0 ζ rfl (by omega) (by rw [FU_e]; omega) (by omega) (by omega) (fun j z1 z2 => ⟨fun q => by omega, fun ⟨c, e, h1, h2, _, _, h5, _⟩ => by unfold Bf at h5; omega⟩) (fun _ => rfl) hL h hR (fx_refl _ _)
def QFw (A : Nat → Nat → Int) (v : Int) : Prop := (((∃ t, t < 8 ∧ inb A t = true) ∧ NV (Sc A (hrd A))) ∧ ((v = 0 ∧ Dq A 0 (Sc A (hrd A))) ∨ (v = 1 ∧ ¬ Dq A 0 (Sc A (hrd A)) ∧ Dq A 1 (Sc A (hrd A))) ∨ (v = 2 ∧ ¬ Dq A 0 (Sc A (hrd A)) ∧ ¬ Dq A 1 (Sc A (hrd A)) ∧ Dq A 2 (Sc A (hrd A))) ∨ (v = -1 ∧ ¬ Dq A 0 (Sc A (hrd A)) ∧ ¬ Dq A 1 (Sc A (hrd A)) ∧ ¬ Dq A 2 (Sc A (hrd A))))) ∨ (¬ ((∃ t, t < 8 ∧ inb A t = true) ∧ NV (Sc A (hrd A))) ∧ v = -1)
theorem qfw_fun {A : Nat → Nat → Int} {v w : Int} (h : QFw A v) (g : QFw A w) : v = w := by
  rcases h with ⟨p, q⟩ | ⟨p, q⟩ <;> rcases g with ⟨p', q'⟩ | ⟨p', q'⟩
  · rcases q with ⟨a, b⟩ | ⟨a, b, c⟩ | ⟨a, b, c, d⟩ | ⟨a, b, c, d⟩ <;> rcases q' with ⟨a', b'⟩ | ⟨a', b', c'⟩ | ⟨a', b', c', d'⟩ | ⟨a', b', c', d'⟩
    all_goals first | omega | exact absurd b b' | exact absurd b' b | exact absurd c c' | exact absurd c' c | exact absurd d d' | exact absurd d' d
  · exact absurd p p'
  · exact absurd p' p
  · omega
theorem bc_none {p : Nat → Bool} {n : Nat} : bc p n = 0 ↔ ∀ i, i < n → p i = false := by
  constructor
  · intro h i hi
    cases e : p i with
    | false => rfl
    | true => have := bc_one hi e; omega
  · intro h
    rw [bc_congr (q := fun _ => false) h, bc_ff]
theorem a_few {A : Nat → Nat → Int} {ζ : ZS} (h : Rf A ζ) (hW : Wall A) : Ok (g_X12_few ζ) (RP A ζ (QFw A)) := by
  have f0 : Fx (fun x _ => x < 25 ∧ x ≠ 5) ζ (zI ζ 0 0 0) := fx_I (fx_refl _ _) (by decide)
  have h0 := rf_0 h 0
  have bl := bc_le (inb A) 8
  unfold g_X12_few g_X12_few_19
  refine ok_beq (s_inMany h0 hW.1) ?_
  dsimp only
  refine ok_gI (by omega) (by omega) (by omega) (by omega) (fun g => ok_some (rp_same h (Or.inr ⟨fun ⟨⟨t, h1, h2⟩, _⟩ => ?_, rfl⟩))) (fun g => ?_)
  · rw [bc_none.mp (show bc (inb A) 8 = 0 by omega) t h1] at h2; cases h2
  have hin : ∃ t, t < 8 ∧ inb A t = true := by
    apply Classical.byContradiction
    intro c
    have : bc (inb A) 8 = 0 := bc_none.mpr (fun i hi => by
      cases e : inb A i with
      | false => rfl
      | true => exact absurd ⟨i, hi, e⟩ c)
    omega
  refine ok_bind (s_findNow h0 hW) (fun r ⟨lw, hr, hf, r01, r1⟩ => ?_)
  have f1 := fx_trans f0 (wq_25 hf)
  refine ok_gI (by omega) (by omega) (by omega) (by omega) (fun g => ok_some ⟨Or.inr ⟨fun q => (by have := r1.mpr q.2; omega), rfl⟩, hr, f1⟩) (fun g => ?_)
  have hcan := r1.mp (by omega)
  generalize r.2 = ζ0 at lw hr hf f1
  obtain ⟨R, hR⟩ : ∃ R : Nat, ζ0.1 21 0 = R := by
    obtain ⟨⟨k, R', n', ρ, a1, a2, a3, a4, a5, a6⟩, a7⟩ := lw
    exact ⟨R', a6.2.1⟩
  have key : ∀ (m : Nat) (w : Int) (l : Nat) (ζ1 : ZS), w = l → l ≤ 3 → 3 - l < m → (∀ j, j < l → ¬ Dq A j (Sc A (hrd A))) → Lw A ζ1 0 (Sc A (hrd A)) 12 → Rf A ζ1 → ζ1.1 21 0 = R → Fx (fun x _ => x < 25 ∧ x ≠ 5) ζ ζ1 → Ok (g_X12_few_23 m w ζ1) (RP A ζ (QFw A)) := by
    intro m
    induction m with
    | zero => intro _ _ _ _ _ h; omega
    | succ m ih =>
      intro w l ζ1 hw hl hm hold hL1 h1 hR1 hf1
      subst hw
      unfold g_X12_few_23
      refine ok_gI (by omega) (by omega) (by omega) (by omega) (fun g1 => ok_some ⟨Or.inl ⟨⟨hin, hcan⟩, Or.inr (Or.inr (Or.inr ⟨rfl, hold 0 (by omega), hold 1 (by omega), hold 2 (by omega)⟩))⟩, h1, hf1⟩) (fun g1 => ?_)
      refine ok_bind (s_fewFrom hW DEP l (by rw [DEP_e]; omega) (by omega) 0 R (Sc A (hrd A)) _ _ ζ1 rfl rfl (by omega) h1 hL1 hR1) (fun q ⟨⟨b1, b2, b3⟩, q2, q3, q4⟩ => ?_)
      have fq := fx_trans hf1 (wm_25 q4)
      have dl := b3 l (Nat.le_refl l)
      refine ok_gI (by omega) (by omega) (by omega) (by omega) (fun g2 => ih _ (l + 1) q.2 (by omega) (by omega) (by omega) (fun j hj => ?_) q2 q3 (lb_fx hL1.1 (by omega) hR1 q4).2 fq) (fun g2 => ok_some ⟨Or.inl ⟨⟨hin, hcan⟩, ?_⟩, q3, fq⟩)
      · by_cases c : j = l
        · subst c; exact fun z => absurd (dl.mpr z) (by omega)
        · exact hold j (by omega)
      · have yes := dl.mp (by omega)
        rcases (show l = 0 ∨ l = 1 ∨ l = 2 by omega) with e | e | e <;> subst e
        · exact Or.inl ⟨rfl, yes⟩
        · exact Or.inr (Or.inl ⟨rfl, hold 0 (by omega), yes⟩)
        · exact Or.inr (Or.inr (Or.inl ⟨rfl, hold 0 (by omega), hold 1 (by omega), yes⟩))
  exact key FU 0 0 ζ0 rfl (by omega) (by rw [FU_e]; omega) (fun j hj => by omega) lw hr hR f1
