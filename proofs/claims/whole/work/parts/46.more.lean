/-! the reference: findMore -/
theorem ak_last {k R : Nat} {ρ : Nat → V4} {w : V4} : InC (ρ R :: Ak k R ρ) w ↔ InC (Ak k (R + 1) ρ) w := by
  have e : rx R ρ (ρ R) = ρ := by
    funext b
    unfold rx
    by_cases h : b = R
    · rw [if_pos h, h]
    · rw [if_neg h]
  have := Ak_rx (k := k) (R := R) (ρ := ρ) (r := ρ R) (w := w)
  rw [e] at this
  exact this
theorem Rk_less {k R : Nat} {ρ : Nat → V4} (h : Rk k (R + 1) ρ) (hR : k ≤ R) : Rk k R ρ := ⟨h.1, h.2.1, hR, h.2.2.2.1, fun b hb => h.2.2.2.2 b (by omega)⟩
def Cm (k R : Nat) (ρ : Nat → V4) (r s : Nat) (v : V4) : Prop := ∃ r' s', VM k R r' s' ∧ (r' < r ∨ (r' = r ∧ s' < s)) ∧ nv (CM k (ρ R) (ρ r') (ρ s')) ∧ par (CM k (ρ R) (ρ r') (ρ s')) v
set_option maxHeartbeats 1000000 in
theorem s_findMore (ζ : ZS) {k R n lv : Nat} {ρ : Nat → V4} {z : Int} (hz : z = ((lv + 1 : Nat) : Int)) (hlv : lv + 1 < 12) (hw : Rw ζ k (R + 1) ρ) (hr : Rk k (R + 1) ρ) (hkR : k ≤ R) (hR : R + 1 + (4 - k) ≤ 24) (hl : Lv ζ lv k R n ρ) : Ok (g_X12_findMore z ζ) (fun ζ' => ∃ n', Lv ζ' (lv + 1) k (R + 1) n' ρ ∧ Fx (Wl (lv + 1)) ζ ζ') := by
  subst hz
  have h1 := hr.1
  have h4 := hr.2.1
  have hr0 := Rk_less hr hkR
  obtain ⟨l1, l2, hI⟩ := hl
  have n44 := (cntR hr0 (by omega) hI.1 hI.2.1).1
  obtain ⟨F, hF⟩ : ∃ F : Nat → V4, F = rf ζ lv := ⟨_, rfl⟩
  rw [← hF] at hI
  have hpos := Ak_pos (k := k) (R := R) (ρ := ρ)
  have hbdF : ∀ i, i < n → ∀ m, m < 4 → 0 ≤ F i m ∧ F i m ≤ 6000000 := fun i hi => ex_bd hpos (Ak_bd hr0) (hI.1 i hi).1 (hI.1 i hi).2
  have hdt : ∀ i, i < n → -2400000000 ≤ dt (ρ R) (F i) ∧ dt (ρ R) (F i) ≤ 2400000000 := fun i hi => dt_bd (hr.2.2.2.2 R (by omega)) (hbdF i hi)
  have exA : ∀ {v}, Ex (ρ R :: Ak k R ρ) v → Ex (Ak k (R + 1) ρ) v := fun hv => Ex_congr (fun w => ak_last) hv
  have exB : ∀ {v}, Ex (Ak k (R + 1) ρ) v → Ex (ρ R :: Ak k R ρ) v := fun hv => Ex_congr (fun w => ak_last.symm) hv
  let Post : ZS → Prop := fun ζ' => ∃ n', Lv ζ' (lv + 1) k (R + 1) n' ρ ∧ Fx (Wl (lv + 1)) ζ ζ'
  let Ke : Nat → V4 → Prop := fun o v => ∃ i, i < o ∧ 0 ≤ dt (ρ R) (F i) ∧ par (F i) v
  let St : (V4 → Prop) → ZS → Prop := fun S ζ1 => ∃ N, Ln ζ1 (lv + 1) N (Ak k (R + 1) ρ) S ∧ Fx (Wl (lv + 1)) ζ ζ1
  have mono : ∀ {S S' : V4 → Prop} {ζ1}, St S ζ1 → (∀ v, S' v → S v) → St S' ζ1 := fun ⟨N, h, hf⟩ e => ⟨N, ln_mono h e, hf⟩
  have src : ∀ {ζ1 : ZS}, Fx (Wl (lv + 1)) ζ ζ1 → Rw ζ1 k (R + 1) ρ ∧ (∀ i, i < 72 → e4 (F i) (rf ζ1 lv i)) ∧ ζ1.1 20 lv = n := by
    intro ζ1 hf
    refine ⟨rw_fx hw hf, fun i hi m hm => ?_, by rw [(hf.1 20 lv (by unfold Wl; omega)).1]; exact l1⟩
    rw [hF]
    exact ((hf.1 22 _ (by unfold Wl; omega)).2).symm
  -- the end
  have fin : ∀ ζ1, St (fun _ => True) ζ1 → Ok (g_X12_findMore_250 ((lv + 1 : Nat) : Int) ζ1) Post := by
    rintro ζ1 ⟨N, hL, hf⟩
    obtain ⟨w1, _, _⟩ := src hf
    unfold g_X12_findMore_250
    refine ok_gk (by omega) (by omega) (ok_some ?_)
    rw [show Int.toNat ((lv + 1 : Nat) : Int) = lv + 1 by omega, w1.2.1]
    refine ⟨N, ⟨?_, ?_, ?_⟩, fx_I hf (by unfold Wl; omega)⟩
    · rw [zI_1, if_neg (by omega)]; exact hL.1
    · rw [zI_1, if_pos ⟨rfl, rfl⟩]
    · have : rf (zI ζ1 21 (lv + 1) ((R + 1 : Nat) : Int)) (lv + 1) = rf ζ1 (lv + 1) := rfl
      rw [this]
      exact isc_all hr hL.2.1 hL.2.2.1 (fun v hv => hL.2.2.2 v hv trivial)
  -- crosses with the last row
  have one : ∀ (r s t : Nat) (S : V4 → Prop) (ζ1 : ZS), r < R + 1 → s < R + 1 → t < R + 1 → St S ζ1 → Ok ((g_X12_crosses (r : Int) (s : Int) (t : Int) ζ1).bind (fun q => g_X12_keepsFound ((lv + 1 : Nat) : Int) q)) (St (fun v => S v ∨ (nv (CX k (ρ r) (ρ s) (ρ t)) ∧ par (CX k (ρ r) (ρ s) (ρ t)) v))) := by
    rintro r s t S ζ1 a b c ⟨N, hL, hf⟩
    obtain ⟨w1, _, _⟩ := src hf
    exact ok_mono (cross_step ζ1 (lv := lv + 1) rfl rfl rfl rfl hlv w1 hr hR hL a b c) (fun ζ2 ⟨N', hL', hf'⟩ => ⟨N', hL', fx_trans hf hf'⟩)
  have split : ∀ {X : Option ZS} {g : ZS → Option ZS} {P : ZS → Prop}, Ok (X.bind g) P → ∀ {h : ZS → Option ZS}, (∀ ζ2, P ζ2 → Ok (h ζ2) Post) → Ok (X.bind (fun q => (g q).bind h)) Post := by
    rintro X g P ⟨ζ2, e2, h2⟩ h hh
    cases X with
    | none => cases e2
    | some q =>
      have e2 : g q = some ζ2 := e2
      show Ok ((g q).bind h) Post
      rw [e2]; exact hh ζ2 h2
  have ls : ∀ (r : Nat) (r128 : Int → ZS → Option ZS), 2 ≤ k → r < R → (∀ ζ2, St (fun v => Ke n v ∨ Cm k R ρ (r + 1) 0 v) ζ2 → Ok (r128 ((r : Int) + 1) ζ2) Post) → ∀ (m : Nat) (y : Int) (s : Nat) (ζ1 : ZS), y = s → s ≤ R → R - s < m → r ≤ s → (k < 4 → s ≤ r + 1) → (4 ≤ k → r < s) → St (fun v => Ke n v ∨ Cm k R ρ r s v) ζ1 → Ok (g_X12_findMore_165 ((lv + 1 : Nat) : Int) (R : Int) 0 (r : Int) r128 m y ζ1) Post := by
    intro r r128 hk2 hrR hnext m
    induction m with
    | zero => intro _ _ _ _ _ h; omega
    | succ m ih =>
      intro y s ζ1 hy hs hn hrs hk4 hk4' hst
      subst hy
      have w1 := (src hst.choose_spec.2).1
      unfold g_X12_findMore_165 g_X12_findMore_183 g_X12_findMore_233
      rw [w1.1]
      have done : (∀ r' s', VM k R r' s' → r' = r → s' < s) → Ok (r128 ((r : Int) + 1) ζ1) Post := by
        intro hall
        refine hnext ζ1 (mono hst (fun v hv => ?_))
        rcases hv with hv | ⟨r', s', q1, q2, q3⟩
        · exact Or.inl hv
        · refine Or.inr ⟨r', s', q1, ?_, q3⟩
          by_cases e : r' = r
          · exact Or.inr ⟨e, hall r' s' q1 e⟩
          · omega
      have step : s < R → (k < 4 → s = r) → Ok (gI (k : Int) 2 ((k : Int) = 2) ((g_X12_crosses (R : Int) (R : Int) (R : Int) ζ1).bind fun q3 => (g_X12_keepsFound ((lv + 1 : Nat) : Int) q3).bind fun q1 => g_X12_findMore_165 ((lv + 1 : Nat) : Int) (R : Int) 0 (r : Int) r128 m ((s : Int) + 1) q1) (gI (k : Int) 3 ((k : Int) = 3) ((g_X12_crosses (R : Int) (r : Int) (r : Int) ζ1).bind fun q2 => (g_X12_keepsFound ((lv + 1 : Nat) : Int) q2).bind fun q1 => g_X12_findMore_165 ((lv + 1 : Nat) : Int) (R : Int) 0 (r : Int) r128 m ((s : Int) + 1) q1) ((g_X12_crosses (R : Int) (r : Int) (s : Int) ζ1).bind fun q1 => (g_X12_keepsFound ((lv + 1 : Nat) : Int) q1).bind fun q1 => g_X12_findMore_165 ((lv + 1 : Nat) : Int) (R : Int) 0 (r : Int) r128 m ((s : Int) + 1) q1))) Post := by
        intro hsR hkk
        have go : ∀ (a b c : Nat), CX k (ρ a) (ρ b) (ρ c) = CM k (ρ R) (ρ r) (ρ s) → ∀ ζ2, St (fun v => (Ke n v ∨ Cm k R ρ r s v) ∨ (nv (CX k (ρ a) (ρ b) (ρ c)) ∧ par (CX k (ρ a) (ρ b) (ρ c)) v)) ζ2 → Ok (g_X12_findMore_165 ((lv + 1 : Nat) : Int) (R : Int) 0 (r : Int) r128 m ((s : Int) + 1) ζ2) Post := by
          intro a b c e ζ2 h2
          refine ih _ (s + 1) ζ2 (by omega) (by omega) (by omega) (by omega) (by omega) (by omega) (mono h2 (fun v hv => ?_))
          rw [e]
          rcases hv with hv | ⟨r', s', q1, q2, q3, q4⟩
          · exact Or.inl (Or.inl hv)
          · by_cases ee : r' = r ∧ s' = s
            · obtain ⟨e1, e2⟩ := ee
              subst e1; subst e2
              exact Or.inr ⟨q3, q4⟩
            · exact Or.inl (Or.inr ⟨r', s', q1, by omega, q3, q4⟩)
        refine ok_gI (by omega) (by omega) (by omega) (by omega) (fun e => ?_) (fun e => ?_)
        · have e : k = 2 := by omega
          exact split (one R R R _ ζ1 (by omega) (by omega) (by omega) hst) (go R R R (by unfold CM; rw [if_pos e, e]))
        · refine ok_gI (by omega) (by omega) (by omega) (by omega) (fun e3 => ?_) (fun e3 => ?_)
          · have e3 : k = 3 := by omega
            exact split (one R r r _ ζ1 (by omega) (by omega) (by omega) hst) (go R r r (by unfold CM; rw [if_neg (by omega), if_pos e3, e3]))
          · exact split (one R r s _ ζ1 (by omega) (by omega) (by omega) hst) (go R r s (by unfold CM; rw [if_neg (by omega), if_neg (by omega)]))
      refine ok_gI (by omega) (by omega) (by omega) (by omega) (fun hk => ?_) (fun hk => ?_)
      · refine ok_gI (by omega) (by omega) (by omega) (by omega) (fun h => ?_) (fun h => ?_)
        · refine done (fun r' s' q1 e => ?_)
          have := q1.2
          rw [if_pos (by omega)] at this
          omega
        · exact step (by omega) (by omega)
      · refine ok_gI (by omega) (by omega) (by omega) (by omega) (fun h => ?_) (fun h => ?_)
        · refine done (fun r' s' q1 e => ?_)
          have := q1.2
          rw [if_neg (by omega)] at this
          omega
        · exact step (by omega) (by omega)
  have lr : (∃ a, a < n ∧ 0 ≤ dt (ρ R) (F a)) → 2 ≤ k → ∀ (m : Nat) (y : Int) (r : Nat) (ζ1 : ZS), y = r → r ≤ R → R - r < m → St (fun v => Ke n v ∨ Cm k R ρ r 0 v) ζ1 → Ok (g_X12_findMore_128 ((lv + 1 : Nat) : Int) (R : Int) 0 m y ζ1) Post := by
    intro _ hk2 m
    induction m with
    | zero => intro _ _ _ _ _ h; omega
    | succ m ih =>
      intro y r ζ1 hy hrR hn hst
      subst hy
      have w1 := (src hst.choose_spec.2).1
      unfold g_X12_findMore_128 g_X12_findMore_163
      rw [w1.1]
      refine ok_gI (by omega) (by omega) (by omega) (by omega) (fun h => ?_) (fun h => ?_)
      · refine fin ζ1 ?_
        obtain ⟨N, hL, hf⟩ := hst
        refine ⟨N, ⟨hL.1, hL.2.1, hL.2.2.1, fun v hv _ => hL.2.2.2 v hv ?_⟩, hf⟩
        rcases isc_dd hpos hI (exB hv) with ⟨i, hi, g1, g2⟩ | ⟨a, b, ha, hb, g1, g2, g3, g4⟩
        · exact Or.inl ⟨i, hi, g1, g2⟩
        · have z0 : dt (ρ R) v = 0 := dt_par0 g4 (pr_pos hpos (hI.1 a ha).1 (hI.1 b hb).1 g1 g2).2 (pr_dt _ _ _)
          have nz : ∃ m, m < k ∧ ρ R m ≠ 0 := by
            apply Classical.byContradiction
            intro hno
            have zz : ∀ m, m < 4 → ρ R m * F a m = 0 := fun m hm => by
              by_cases c : m < k
              · rw [show ρ R m = 0 from Classical.byContradiction fun q => hno ⟨m, c, q⟩, Int.zero_mul]
              · rw [Ak_zero (hI.1 a ha).1.1 m hm (by omega), Int.mul_zero]
            have := zz 0 (by decide)
            have := zz 1 (by decide)
            have := zz 2 (by decide)
            have := zz 3 (by decide)
            unfold dt at g1
            omega
          obtain ⟨r', s', q1, q2, q3⟩ := cx_more hr hkR hk2 hv nz z0
          have := q1.1
          exact Or.inr ⟨r', s', q1, Or.inl (by omega), q2, q3⟩
      · refine ok_gI (by omega) (by omega) (by omega) (by omega) (fun _ => ?_) (fun q => absurd rfl q)
        refine ok_gI (by omega) (by omega) (by omega) (by omega) (fun q => by omega) (fun _ => ?_)
        have nx : ∀ ζ2, St (fun v => Ke n v ∨ Cm k R ρ (r + 1) 0 v) ζ2 → Ok (g_X12_findMore_128 ((lv + 1 : Nat) : Int) (R : Int) 0 m ((r : Int) + 1) ζ2) Post := fun ζ2 h2 => ih _ (r + 1) ζ2 (by omega) (by omega) (by omega) h2
        refine ok_gI (by omega) (by omega) (by omega) (by omega) (fun hk => ?_) (fun hk => ?_)
        · refine ls r _ hk2 (by omega) nx FU _ (r + 1) ζ1 (by omega) (by omega) (by rw [FU_e]; omega) (by omega) (by omega) (by omega) (mono hst (fun v hv => ?_))
          rcases hv with hv | ⟨r', s', q1, q2, q3⟩
          · exact Or.inl hv
          · refine Or.inr ⟨r', s', q1, ?_, q3⟩
            have := q1.2
            rw [if_pos (by omega)] at this
            omega
        · refine ls r _ hk2 (by omega) nx FU _ r ζ1 rfl (by omega) (by rw [FU_e]; omega) (by omega) (by omega) (by omega) (mono hst (fun v hv => ?_))
          rcases hv with hv | ⟨r', s', q1, q2, q3⟩
          · exact Or.inl hv
          · refine Or.inr ⟨r', s', q1, ?_, q3⟩
            have := q1.2
            rw [if_neg (by omega)] at this
            omega
  -- all kept, or none: nothing to cross
  have quick : ∀ ζ1, St (fun _ => True) ζ1 → Ok (g_X12_findMore_119 ((lv + 1 : Nat) : Int) (R : Int) ζ1) Post := by
    intro ζ1 hst
    have w1 := (src hst.choose_spec.2).1
    unfold g_X12_findMore_119 g_X12_findMore_124
    rw [show FU = 4999 + 1 from rfl]
    unfold g_X12_findMore_128
    refine ok_gI (by omega) (by omega) (by omega) (by omega) (fun _ => fin ζ1 hst) (fun _ => ?_)
    exact ok_gI (by omega) (by omega) (by omega) (by omega) (fun q => absurd q (by decide)) (fun _ => fin ζ1 hst)
  let Sk : Nat → ZS → Prop := fun o ζ1 => ∃ N, Ln ζ1 (lv + 1) N (Ak k (R + 1) ρ) (Ke o) ∧ Fx (Wl (lv + 1)) ζ ζ1 ∧ N ≤ o ∧ (N = o → ∀ i, i < o → 0 ≤ dt (ρ R) (F i))
  have copy : ∀ (o : Nat) (r16 : Int → ZS → Option ZS), o < n → 0 ≤ dt (ρ R) (F o) → (∀ ζ2, Sk (o + 1) ζ2 → Ok (r16 ((o : Int) + 1) ζ2) Post) → ∀ (m : Nat) (y : Int) (j : Nat) (ζ1 : ZS), y = j → j ≤ 4 → 4 - j < m → Sk o ζ1 → (∀ x, x < j → fnd ζ1 x = F o x) → Ok (g_X12_findMore_45 ((lv + 1 : Nat) : Int) (R : Int) (o : Int) r16 m y ζ1) Post := by
    intro o r16 hon h0 hnext m
    induction m with
    | zero => intro _ _ _ _ _ h; omega
    | succ m ih =>
      intro y j ζ1 hy hj hm hst hfd
      subst hy
      obtain ⟨N, hL, hf, hN1, hN2⟩ := hst
      obtain ⟨w1, f1, c1⟩ := src hf
      unfold g_X12_findMore_45 g_X12_findMore_87
      refine ok_gI (by omega) (by omega) (by omega) (by omega) (fun h => ?_) (fun h => ?_)
      · have e0 : e4 (F o) (fnd ζ1) := fun m hm => (hfd m (by omega)).symm
        have posF := ex_pos hpos (hI.1 o hon).1
        have pos1 := pos_e4 posF e0
        have exF : Ex (Ak k (R + 1) ρ) (F o) := exA (ex_keep (hI.1 o hon).1 h0)
        refine ok_bind (keep_step ζ1 (lv := lv + 1) rfl hlv w1 hr hR hL (fun m hm => by rw [← e0 m hm]; have := hbdF o hon m hm; omega) (fun m g1 g2 => by rw [← e0 m g2]; exact Ak_zero (hI.1 o hon).1.1 m g2 g1) (fun hn _ => ex_par (par_e4 (wv_self hn) (e4_symm e0) (fun _ _ => rfl)) posF (wv_pos hn (par_self _) pos1) exF)) (fun ζ2 ⟨N', n1, n2, hL', hf', _⟩ => hnext ζ2 ⟨N', ln_mono hL' (fun v hv => ?_), fx_trans hf hf', by omega, fun e i hi => ?_⟩)
        · obtain ⟨i, hi, g1, g2⟩ := hv
          by_cases e : i = o
          · rw [e] at g2; exact Or.inr ⟨pos1.2, par_e4 g2 e0 (fun _ _ => rfl)⟩
          · exact Or.inl ⟨i, by omega, g1, g2⟩
        · by_cases e' : i = o
          · rw [e']; exact h0
          · exact hN2 (by omega) i (by omega)
      · have ex : ζ1.2.1 22 (Int.toNat (4 * (72 * (((lv + 1 : Nat) : Int) - 1) + (o : Int)) + (j : Int))) = F o j := by
          rw [show Int.toNat (4 * (72 * (((lv + 1 : Nat) : Int) - 1) + (o : Int)) + (j : Int)) = 4 * (72 * lv + o) + j by omega]
          exact (f1 o (by omega) j (by omega)).symm
        rw [ex, show Int.toNat (j : Int) = j by omega]
        refine ok_gk (by omega) (by omega) (ok_gk (by omega) (by omega) (ih _ (j + 1) _ (by omega) (by omega) (by omega) ⟨N, ?_, fx_J hf (by unfold Wl; omega), hN1, hN2⟩ (fun x hx => ?_)))
        · have er : ∀ i, rf (zJ ζ1 23 j (F o j)) (lv + 1) i = rf ζ1 (lv + 1) i := fun i => by funext x; show (zJ ζ1 _ _ _).2.1 22 _ = _; rw [zJ_2, if_neg (by omega)]; rfl
          unfold Ln
          simp only [er]
          exact hL
        · show (zJ ζ1 23 j (F o j)).2.1 23 x = _
          rw [zJ_2]
          by_cases e : x = j
          · rw [if_pos ⟨rfl, e⟩, e]
          · rw [if_neg (by omega)]; exact hfd x (by omega)
  have first : ∀ (m : Nat) (y : Int) (o : Nat) (ζ1 : ZS), y = o → o ≤ n → n - o < m → Sk o ζ1 → Ok (g_X12_findMore_16 ((lv + 1 : Nat) : Int) (R : Int) m y ζ1) Post := by
    intro m
    induction m with
    | zero => intro _ _ _ _ _ h; omega
    | succ m ih =>
      intro y o ζ1 hy ho hm hst
      subst hy
      obtain ⟨N, hL, hf, hN1, hN2⟩ := hst
      obtain ⟨w1, f1, c1⟩ := src hf
      unfold g_X12_findMore_16
      rw [show Int.toNat (((lv + 1 : Nat) : Int) - 1) = lv by omega, show Int.toNat ((lv + 1 : Nat) : Int) = lv + 1 by omega, c1, hL.1]
      refine ok_gk (by omega) (by omega) (ok_gI (by omega) (by omega) (by omega) (by omega) (fun h => ?_) (fun h => ?_))
      · have eo : o = n := by omega
        subst eo
        refine ok_gk (by omega) (by omega) (ok_gk (by omega) (by omega) (ok_gI (by omega) (by omega) (by omega) (by omega) (fun hall => ?_) (fun hna => ?_)))
        · -- all are kept
          have kept := hN2 (by omega)
          refine quick ζ1 ⟨N, ⟨hL.1, hL.2.1, hL.2.2.1, fun v hv _ => hL.2.2.2 v hv ?_⟩, hf⟩
          rcases isc_dd hpos hI (exB hv) with ⟨i, hi, g1, g2⟩ | ⟨a, b, ha, hb, g1, g2, g3, g4⟩
          · exact ⟨i, hi, g1, g2⟩
          · have := kept b hb; omega
        · refine ok_gk (by omega) (by omega) (ok_gI (by omega) (by omega) (by omega) (by omega) (fun hz => ?_) (fun hnz => ?_))
          · -- none is kept
            have none_ : ∀ i, i < o → ¬ 0 ≤ dt (ρ R) (F i) := fun i hi q => by
              obtain ⟨l, hl, _⟩ := hL.2.2.2 (F i) (exA (ex_keep (hI.1 i hi).1 q)) ⟨i, hi, q, par_self _⟩
              omega
            refine quick ζ1 ⟨N, ⟨hL.1, hL.2.1, hL.2.2.1, fun v hv _ => hL.2.2.2 v hv ?_⟩, hf⟩
            rcases isc_dd hpos hI (exB hv) with ⟨i, hi, g1, g2⟩ | ⟨a, b, ha, hb, g1, g2, g3, g4⟩
            · exact ⟨i, hi, g1, g2⟩
            · exact absurd (Int.le_of_lt g1) (none_ a ha)
          · have hk2 : 2 ≤ k := by
              apply Classical.byContradiction
              intro c
              have ek : k = 1 := by omega
              have on1 : o ≤ 1 := by
                apply Classical.byContradiction
                intro c2
                have z : ∀ i, i < o → ∀ m, m < 4 → m ≠ 0 → F i m = 0 := fun i hi m hm hm0 => Ak_zero (hI.1 i hi).1.1 m hm (by omega)
                have := hI.2.1 0 1 (by omega) (by omega) (fun i hi j hj => by
                  by_cases q : i = 0
                  · by_cases q' : j = 0
                    · rw [q, q']
                    · rw [z 0 (by omega) j hj q', z 1 (by omega) j hj q']; simp
                  · rw [z 0 (by omega) i hi q, z 1 (by omega) i hi q]; simp)
                omega
              omega
            have some_ : ∃ a, a < o ∧ 0 ≤ dt (ρ R) (F a) := by
              apply Classical.byContradiction
              intro c
              -- a kept one there is, for N is not 0
              have ex := hL.2.1 0 (by omega)
              rcases isc_dd hpos hI (exB ex.1) with ⟨i, hi, g1, g2⟩ | ⟨a, b, ha, hb, g1, g2, g3, g4⟩
              · exact c ⟨i, hi, g1⟩
              · exact c ⟨a, ha, Int.le_of_lt g1⟩
            unfold g_X12_findMore_124
            exact lr some_ hk2 FU 0 0 ζ1 rfl (by omega) (by rw [FU_e]; omega) ⟨N, ln_mono hL (fun v hv => by
              rcases hv with hv | ⟨r', s', q1, q2, q3⟩
              · exact hv
              · omega), hf⟩
      · have hon : o < n := by omega
        have ep : psum (fun m => rr ζ1 R m * rf ζ1 lv o m) k = dt (ρ R) (F o) := by
          rw [psum_congr (g := fun m => ρ R m * F o m) (fun m hm => by rw [w1.2.2 R (by omega) m (by omega), f1 o (by omega) m (by omega)])]
          exact psum_dt' h4 (fun m g1 g2 => Ak_zero (hI.1 o hon).1.1 m g2 g1)
        have go := hdt o hon
        refine ok_beq (s_times ζ1 (r := R) (lv := lv) (c := o) rfl (by omega) rfl (by omega) (by omega) (by omega) h4 w1.1) ?_
        rw [ep]
        refine ok_gJ (by dsimp only; omega) (by dsimp only; omega) (by omega) (by omega) (fun h0 => ?_) (fun h0 => ?_)
        · have h0 : dt (ρ R) (F o) < 0 := h0
          refine ih _ (o + 1) ζ1 (by omega) (by omega) (by omega) ⟨N, ln_mono hL (fun v ⟨i, hi, g1, g2⟩ => ?_), hf, by omega, fun e => by omega⟩
          by_cases e : i = o
          · rw [e] at g1; omega
          · exact ⟨i, by omega, g1, g2⟩
        · have h0 : ¬ dt (ρ R) (F o) < 0 := h0
          exact copy o _ hon (by omega) (fun ζ2 h2 => ih _ (o + 1) ζ2 (by omega) (by omega) (by omega) h2) FU 0 0 ζ1 rfl (by omega) (by rw [FU_e]; omega) ⟨N, hL, hf, hN1, hN2⟩ (fun x hx => by omega)
  unfold g_X12_findMore
  rw [hw.2.1, show ((R + 1 : Nat) : Int) - 1 = (R : Int) by omega, show Int.toNat ((lv + 1 : Nat) : Int) = lv + 1 by omega]
  refine ok_gk (by omega) (by omega) (first FU 0 0 _ rfl (by omega) (by rw [FU_e]; omega) ⟨0, ⟨?_, fun i hi => by omega, fun i j hi => by omega, fun v hv ⟨i, hi, _⟩ => by omega⟩, fx_I (fx_refl _ _) (by unfold Wl; exact Or.inl ⟨rfl, rfl⟩), by omega, fun _ i hi => by omega⟩)
  rw [zI_1, if_pos ⟨rfl, rfl⟩]; rfl
