/-! gaps and regrets: the class -/
theorem s_raise {ζ : ZS} {k n i : Nat} {X : V4 → Prop} {l : V4} {z y : Int} (hcs : Cs ζ 68 k X 12) (hn : ζ.1 68 5 = n) (hz : z = i) (hi : i < n) (hrow : ∀ m, m < 4 → ζ.1 135 m = l m) (hbd : bd l) (hy : y = 0 ∨ y = 1) (hfb : y = 0 → Fb (ζ.2.1 145 0) (ζ.2.1 145 1)) : Ok (g_X4_raise z y ζ) (fun ζ' => Fx (We 145) ζ ζ' ∧ ((ζ' = ζ ∧ y = 0 ∧ dt l (cw ζ 68 i) * ζ.2.1 145 1 ≤ ζ.2.1 145 0 * dt sG (cw ζ 68 i)) ∨ (ζ'.2.1 145 0 = dt l (cw ζ 68 i) ∧ ζ'.2.1 145 1 = dt sG (cw ζ 68 i) ∧ (y = 0 → ζ.2.1 145 0 * dt sG (cw ζ 68 i) < dt l (cw ζ 68 i) * ζ.2.1 145 1)))) := by
  obtain ⟨n', c3, k1, k4, c5, n42, hne, hpt, -, -⟩ := cs_n hcs (by omega)
  have en : n' = n := by omega
  subst en
  have es : g_X1_sum 68 z ζ = some (dt sG (cw ζ 68 i), ζ) := by
    rw [s_sum ζ 68 hz (by omega) k4 c3, psum_s k4 (fun m g1 g2 => (hpt i hi).2.2.2 m g1 g2)]
  have fc : Fb (dt l (cw ζ 68 i)) (dt sG (cw ζ 68 i)) := fb_of hbd (hpt i hi).2.2.1 (hpt i hi).2.1
  unfold g_X4_raise g_X4_raise_45 g_X4_raise_53 g_X3_become g_X3_isUnder g_X3_isUnder_21
  refine ok_beq (cs_prod ζ 68 135 hcs (by omega) hz hn hi rfl hrow hbd) (ok_beq es ?_)
  dsimp only
  have take : (y = 0 → ζ.2.1 145 0 * dt sG (cw ζ 68 i) < dt l (cw ζ 68 i) * ζ.2.1 145 1) → Ok (some (zJ (zJ ζ 145 0 (dt l (cw ζ 68 i))) 145 1 (dt sG (cw ζ 68 i)))) (fun ζ' => Fx (We 145) ζ ζ' ∧ ((ζ' = ζ ∧ y = 0 ∧ dt l (cw ζ 68 i) * ζ.2.1 145 1 ≤ ζ.2.1 145 0 * dt sG (cw ζ 68 i)) ∨ (ζ'.2.1 145 0 = dt l (cw ζ 68 i) ∧ ζ'.2.1 145 1 = dt sG (cw ζ 68 i) ∧ (y = 0 → ζ.2.1 145 0 * dt sG (cw ζ 68 i) < dt l (cw ζ 68 i) * ζ.2.1 145 1)))) := fun q => by
    refine ok_some ⟨fx_J (fx_J (fx_refl _ _) rfl) rfl, Or.inr ⟨?_, ?_, q⟩⟩
    · rw [zJ_2, if_neg (by omega), zJ_2, if_pos ⟨rfl, rfl⟩]
    · rw [zJ_2, if_pos ⟨rfl, rfl⟩]
  refine ok_gI (by omega) (by omega) (by omega) (by omega) (fun g => ?_) (fun g => ok_beq rfl (take (fun q => absurd q g)))
  have fb := hfb g
  have m1 := fb_mul fc fb
  have m2 := fb_mul fb fc
  by_cases q : dt l (cw ζ 68 i) * ζ.2.1 145 1 ≤ ζ.2.1 145 0 * dt sG (cw ζ 68 i)
  · refine ok_beq (r := (0, ζ)) (ok_eq (ok_gJ m1.1 m1.2 m2.1 m2.2 (fun _ => ok_gz (Or.inl rfl) (ok_some rfl)) (fun c => absurd q c))) ?_
    exact ok_gI (by omega) (by omega) (by omega) (by omega) (fun _ => ok_some ⟨fx_refl _ _, Or.inl ⟨rfl, g, q⟩⟩) (fun c => absurd rfl c)
  · refine ok_beq (r := (1, ζ)) (ok_eq (ok_gJ m1.1 m1.2 m2.1 m2.2 (fun c => absurd c q) (fun _ => ok_gz (Or.inr rfl) (ok_some rfl)))) ?_
    exact ok_gI (by omega) (by omega) (by omega) (by omega) (fun c => by dsimp only at c; omega) (fun _ => ok_beq rfl (take (fun _ => by omega)))
def Wgp (x _y : Nat) : Prop := x = 135 ∨ x = 145
theorem gp_sc {ζ ζ' : ZS} (h : Fx Wgp ζ ζ') : Fx Wsc ζ ζ' := fx_mono h (fun x y q => by unfold Wgp at q; unfold Wsc; omega)
theorem s_fillGap {A : Nat → Nat → Int} {ζ : ZS} (hw : Wa A) (hva : Va A ζ) {a b k : Nat} {z y : Int} {X : V4 → Prop} (hz : z = a) (hy : y = b) (ha : a < 8) (hb : b < 8) (hcs : Cs ζ 68 k X 12) (hp : Xp X) (hX : NV X) : Ok (g_X4_fillGap z y ζ) (fun ζ' => Fu (Sg (leadv A b a) X) (ζ'.2.1 145 0) (ζ'.2.1 145 1) ∧ Fb (ζ'.2.1 145 0) (ζ'.2.1 145 1) ∧ Fx Wgp ζ ζ') := by
  unfold g_X4_fillGap
  refine ok_bind (s_fillLead (A := A) (a := b) (b := a) (e := 135) hva.1 hy hz hb ha (by omega) rfl) (fun ζ1 ⟨h1, f1⟩ => ?_)
  have f1' : Fx Wgp ζ ζ1 := fx_mono f1 (fun x y q => Or.inl q)
  have cs1 : Cs ζ1 68 k X 12 := cs_fx hcs (fun x y g1 g2 => f1.1 x y (by unfold We; omega))
  obtain ⟨n, c3, k1, k4, c5, n42, hne, hpt, hal, -⟩ := cs_n cs1 (by omega)
  have hn0 : 0 < n := hne.mpr hX
  have key : ∀ (m : Nat) (w : Int) (c : Nat) (ζ2 : ZS), w = c → c ≤ n → n - c < m → Fx (We 145) ζ1 ζ2 → (0 < c → Fu (Cg (leadv A b a) (cw ζ1 68) c) (ζ2.2.1 145 0) (ζ2.2.1 145 1) ∧ Fb (ζ2.2.1 145 0) (ζ2.2.1 145 1)) → Ok (g_X4_fillGap_16 m w ζ2) (fun ζ' => Fu (Sg (leadv A b a) X) (ζ'.2.1 145 0) (ζ'.2.1 145 1) ∧ Fb (ζ'.2.1 145 0) (ζ'.2.1 145 1) ∧ Fx Wgp ζ ζ') := by
    intro m
    induction m with
    | zero => intro _ _ _ _ _ h; omega
    | succ m ih =>
      intro w c ζ2 hw hc hm hf hold
      subst hw
      unfold g_X4_fillGap_16 g_X4_fillGap_45
      have e5 : ζ2.1 68 5 = n := by rw [(hf.1 68 5 (by unfold We; omega)).1]; exact c5
      have cs2 : Cs ζ2 68 k X 12 := cs_fx cs1 (fun x y g1 g2 => hf.1 x y (by unfold We; omega))
      have er : ∀ i, cw ζ2 68 i = cw ζ1 68 i := fun i => by funext x; exact (hf.1 69 _ (by unfold We; omega)).2
      have row2 : ∀ m, m < 4 → ζ2.1 135 m = leadv A b a m := fun m hm => by rw [(hf.1 135 m (by unfold We; omega)).1]; exact h1 m hm
      rw [e5]
      refine ok_gI (by omega) (by omega) (by omega) (by omega) (fun g => ?_) (fun g => ?_)
      · have ec : c = n := by omega
        subst ec
        have o := hold hn0
        exact ok_some ⟨fu_ext o.1 (fun a' b' ⟨i, hi, e1, e2⟩ => ⟨_, (hpt i hi).1, (hpt i hi).2.1, e1, e2⟩) (cg_bd hp hal o.1.2.2), o.2, fx_trans f1' (fx_mono hf (fun x y q => Or.inr q))⟩
      · have hcn : c < n := by omega
        have fc : Fb (dt (leadv A b a) (cw ζ1 68 c)) (dt sG (cw ζ1 68 c)) := fb_of (leadv_bd hw hb ha) (hpt c hcn).2.2.1 (hpt c hcn).2.1
        have next : ∀ yy : Int, (yy = 0 ∨ yy = 1) → (yy = 0 ↔ 0 < c) → Ok ((g_X4_raise (c : Int) yy ζ2).bind fun q1 => g_X4_fillGap_16 m ((c : Int) + 1) q1) (fun ζ' => Fu (Sg (leadv A b a) X) (ζ'.2.1 145 0) (ζ'.2.1 145 1) ∧ Fb (ζ'.2.1 145 0) (ζ'.2.1 145 1) ∧ Fx Wgp ζ ζ') := by
          intro yy hyy hyc
          refine ok_bind (s_raise cs2 e5 rfl hcn row2 (leadv_bd hw hb ha) hyy (fun q => (hold (hyc.mp q)).2)) (fun ζ3 ⟨f3, hr⟩ => ?_)
          rw [er] at hr
          refine ih _ (c + 1) ζ3 (by omega) (by omega) (by omega) (fx_trans hf f3) (fun _ => ?_)
          rcases hr with ⟨r1, r2, r3⟩ | ⟨r1, r2, r3⟩
          · have o := hold (hyc.mp r2)
            rw [r1]
            exact ⟨fu_iff (fu_l o.1 (fu_one fc.2.1) r3) (fun x y => cg_s), o.2⟩
          · rw [r1, r2]
            refine ⟨?_, fc⟩
            rcases hyy with q | q
            · have o := hold (hyc.mp q)
              exact fu_iff (fu_r o.1 (fu_one fc.2.1) (by have := r3 q; omega)) (fun x y => cg_s)
            · have c0 : c = 0 := by
                apply Classical.byContradiction
                intro z
                have := hyc.mpr (by omega)
                omega
              subst c0
              exact fu_iff (fu_one fc.2.1) (fun x y => ⟨fun q => ⟨0, by omega, q⟩, fun ⟨i, hi, q⟩ => by rw [show i = 0 by omega] at q; exact q⟩)
        exact ok_gI (by omega) (by omega) (by omega) (by omega) (fun g0 => next 1 (Or.inr rfl) ⟨fun q => by omega, fun q => by omega⟩) (fun g0 => next 0 (Or.inl rfl) ⟨fun _ => by omega, fun _ => rfl⟩)
  exact key FU 0 0 ζ1 rfl (by omega) (by rw [FU_e]; omega) (fx_refl _ _) (fun q => by omega)
theorem s_fillRegret {A : Nat → Nat → Int} {ζ : ZS} (hw : Wa A) (hva : Va A ζ) {t k : Nat} {z : Int} {X : V4 → Prop} (hz : z = t) (ht : t < 8) (hcs : Cs ζ 68 k X 12) (hp : Xp X) : Ok (g_X4_fillRegret z ζ) (fun ζ' => Fu (Rgt A X t) (ζ'.2.1 145 0) (ζ'.2.1 145 1) ∧ Fb (ζ'.2.1 145 0) (ζ'.2.1 145 1) ∧ Fx Wgp ζ ζ') := by
  subst hz
  let S : Nat → Int → Int → Prop := fun j a b => (a = 0 ∧ b = 1) ∨ ∃ u, u < j ∧ inb A u = true ∧ Sg (leadv A u t) X a b
  have key : ∀ (m : Nat) (w : Int) (j : Nat) (ζ1 : ZS), w = j → j ≤ 8 → 8 - j < m → Fx Wgp ζ ζ1 → Fu (S j) (ζ1.2.1 145 0) (ζ1.2.1 145 1) → Fb (ζ1.2.1 145 0) (ζ1.2.1 145 1) → Ok (g_X4_fillRegret_8 (t : Int) m w ζ1) (fun ζ' => Fu (Rgt A X t) (ζ'.2.1 145 0) (ζ'.2.1 145 1) ∧ Fb (ζ'.2.1 145 0) (ζ'.2.1 145 1) ∧ Fx Wgp ζ ζ') := by
    intro m
    induction m with
    | zero => intro _ _ _ _ _ h; omega
    | succ m ih =>
      intro w j ζ1 hwj hj hm hf hfu hfb
      subst hwj
      have va1 : Va A ζ1 := va_fx hva (fun x y g => (hf.1 x y (by unfold Wgp; omega)).1)
      have cs1 : Cs ζ1 68 k X 12 := cs_fx hcs (fun x y g1 g2 => hf.1 x y (by unfold Wgp; omega))
      unfold g_X4_fillRegret_8 g_X4_fillRegret_70
      refine ok_gI (by omega) (by omega) (by omega) (by omega) (fun g => ok_some ⟨?_, hfb, hf⟩) (fun g => ?_)
      · have : j = 8 := by omega
        subst this
        exact hfu
      · have hj8 : j < 8 := by omega
        refine ok_beq (s_isInC va1.2 (by omega)) ?_
        rw [inz_n hj8]
        refine ok_bi (fun e => ih _ (j + 1) ζ1 (by omega) (by omega) (by omega) hf (fu_iff hfu (fun x y => ⟨fun q => ?_, fun q => ?_⟩)) hfb) (fun e => ?_)
        · rcases q with q | ⟨u, q1, q2⟩
          · exact Or.inl q
          · exact Or.inr ⟨u, by omega, q2⟩
        · rcases q with q | ⟨u, q1, q2, q3⟩
          · exact Or.inl q
          · refine Or.inr ⟨u, ?_, q2, q3⟩
            apply Classical.byContradiction
            intro c
            have : u = j := by omega
            subst this
            rw [e] at q2; cases q2
        · refine ok_bind (s_fillLead (A := A) (a := j) (b := t) (e := 135) va1.1 rfl rfl hj8 ht (by omega) rfl) (fun ζ2 ⟨h2, f2⟩ => ?_)
          have cs2 : Cs ζ2 68 k X 12 := cs_fx cs1 (fun x y g1 g2 => f2.1 x y (by unfold We; omega))
          obtain ⟨n, c3, k1, k4, c5, n42, hne, hpt, hal, -⟩ := cs_n cs2 (by omega)
          have e0 : ζ2.2.1 145 0 = ζ1.2.1 145 0 := (f2.1 145 0 (by unfold We; omega)).2
          have e1 : ζ2.2.1 145 1 = ζ1.2.1 145 1 := (f2.1 145 1 (by unfold We; omega)).2
          have inner : ∀ (m2 : Nat) (w : Int) (c : Nat) (ζ3 : ZS), w = c → c ≤ n → n - c < m2 → Fx (We 145) ζ2 ζ3 → Fu (fun x y => S j x y ∨ Cg (leadv A j t) (cw ζ2 68) c x y) (ζ3.2.1 145 0) (ζ3.2.1 145 1) → Fb (ζ3.2.1 145 0) (ζ3.2.1 145 1) → Ok (g_X4_fillRegret_41 (t : Int) (j : Int) (g_X4_fillRegret_8 (t : Int) m) m2 w ζ3) (fun ζ' => Fu (Rgt A X t) (ζ'.2.1 145 0) (ζ'.2.1 145 1) ∧ Fb (ζ'.2.1 145 0) (ζ'.2.1 145 1) ∧ Fx Wgp ζ ζ') := by
            intro m2
            induction m2 with
            | zero => intro _ _ _ _ _ h; omega
            | succ m2 ih2 =>
              intro w c ζ3 hwc hc hm2 hf3 hfu3 hfb3
              subst hwc
              unfold g_X4_fillRegret_41 g_X4_fillRegret_70
              have e5 : ζ3.1 68 5 = n := by rw [(hf3.1 68 5 (by unfold We; omega)).1]; exact c5
              have cs3 : Cs ζ3 68 k X 12 := cs_fx cs2 (fun x y g1 g2 => hf3.1 x y (by unfold We; omega))
              have er : ∀ i, cw ζ3 68 i = cw ζ2 68 i := fun i => by funext x; exact (hf3.1 69 _ (by unfold We; omega)).2
              have row3 : ∀ m, m < 4 → ζ3.1 135 m = leadv A j t m := fun m hm => by rw [(hf3.1 135 m (by unfold We; omega)).1]; exact h2 m hm
              rw [e5]
              refine ok_gI (by omega) (by omega) (by omega) (by omega) (fun g1 => ?_) (fun g1 => ?_)
              · have ec : c = n := by omega
                subst ec
                refine ih _ (j + 1) ζ3 (by omega) (by omega) (by omega) (fx_trans hf (fx_trans (fx_mono f2 (fun x y q => Or.inl q)) (fx_mono hf3 (fun x y q => Or.inr q)))) (fu_ext hfu3 (fun x y q => ?_) (fun x y q => ?_)) hfb3
                · rcases q with (q | ⟨u, a1, a2⟩) | ⟨i, hi, q1, q2⟩
                  · exact Or.inl q
                  · exact Or.inr ⟨u, by omega, a2⟩
                  · exact Or.inr ⟨j, by omega, e, _, (hpt i hi).1, (hpt i hi).2.1, q1, q2⟩
                · rcases q with q | ⟨u, a1, a2, a3⟩
                  · exact hfu3.2.2 x y (Or.inl (Or.inl q))
                  · by_cases cc : u = j
                    · subst cc
                      exact cg_bd hp hal (fun a' b' hc => hfu3.2.2 a' b' (Or.inr hc)) x y a3
                    · exact hfu3.2.2 x y (Or.inl (Or.inr ⟨u, by omega, a2, a3⟩))
              · have hcn : c < n := by omega
                have fc : Fb (dt (leadv A j t) (cw ζ2 68 c)) (dt sG (cw ζ2 68 c)) := fb_of (leadv_bd hw hj8 ht) (hpt c hcn).2.2.1 (hpt c hcn).2.1
                refine ok_bind (s_raise cs3 e5 rfl hcn row3 (leadv_bd hw hj8 ht) (Or.inl rfl) (fun _ => hfb3)) (fun ζ4 ⟨f4, hr⟩ => ?_)
                rw [er] at hr
                have es : ∀ x y, ((S j x y ∨ Cg (leadv A j t) (cw ζ2 68) c x y) ∨ (x = dt (leadv A j t) (cw ζ2 68 c) ∧ y = dt sG (cw ζ2 68 c))) ↔ (S j x y ∨ Cg (leadv A j t) (cw ζ2 68) (c + 1) x y) := fun x y => by rw [or_assoc, cg_s]
                rcases hr with ⟨r1, _, r3⟩ | ⟨r1, r2, r3⟩
                · rw [r1]
                  exact ih2 _ (c + 1) ζ3 (by omega) (by omega) (by omega) hf3 (fu_iff (fu_l hfu3 (fu_one fc.2.1) r3) es) hfb3
                · refine ih2 _ (c + 1) ζ4 (by omega) (by omega) (by omega) (fx_trans hf3 f4) ?_ ?_
                  · rw [r1, r2]
                    exact fu_iff (fu_r hfu3 (fu_one fc.2.1) (by have := r3 rfl; omega)) es
                  · rw [r1, r2]; exact fc
          refine inner FU 0 0 ζ2 rfl (by omega) (by rw [FU_e]; omega) (fx_refl _ _) ?_ ?_
          · rw [e0, e1]
            exact fu_iff hfu (fun x y => ⟨fun q => Or.inl q, fun q => by
              rcases q with q | ⟨i, hi, _⟩
              · exact q
              · omega⟩)
          · rw [e0, e1]; exact hfb
  unfold g_X4_fillRegret g_X3_become
  refine ok_beq rfl ?_
  have e0 : (zJ (zJ ζ 145 0 0) 145 1 1).2.1 145 0 = 0 := by rw [zJ_2, if_neg (by omega), zJ_2, if_pos ⟨rfl, rfl⟩]
  have e1 : (zJ (zJ ζ 145 0 0) 145 1 1).2.1 145 1 = 1 := by rw [zJ_2, if_pos ⟨rfl, rfl⟩]
  refine key FU 0 0 _ rfl (by omega) (by rw [FU_e]; omega) (fx_J (fx_J (fx_refl _ _) (Or.inr rfl)) (Or.inr rfl)) ?_ ?_
  · rw [e0, e1]
    exact fu_iff (fu_one (by omega)) (fun x y => ⟨fun q => Or.inl q, fun q => by
      rcases q with q | ⟨u, q1, _⟩
      · exact q
      · omega⟩)
  · rw [e0, e1]
    exact ⟨⟨by omega, by omega⟩, by omega, by omega⟩
theorem b_regret {A : Nat → Nat → Int} {ζ : ZS} (h : Cls A ζ) (hW : Wall A) {z y : Int} (hz : r32 z) (hy : r32 y) : Ok (g_X11_regret z y ζ) (CP A ζ (QRg A z y)) := by
  have qk := hW.1.1
  obtain ⟨k, hk⟩ : ∃ k : Nat, A 0 20 = k := ⟨(A 0 20).toNat, by omega⟩
  unfold g_X11_regret g_X11_regret_32
  refine ok_bind (s_fresh hW h) (fun ζ1 ⟨c1, f1⟩ => ok_beq (s_isPart ζ1 hy) (ok_bi (fun e => ok_some ⟨Or.inr ⟨fun q => bd_f e q.2.1, rfl⟩, cf_cls c1, f1⟩) (fun e => ?_)))
  have ey := bd_t e
  refine ok_beq (s_isInC c1.2.1.1.2 hz) (ok_bi (fun e2 => ok_some ⟨Or.inr ⟨fun q => (by have := q.1; rw [e2] at this; cases this), rfl⟩, cf_cls c1, f1⟩) (fun e2 => ?_))
  have iz := inz_r e2
  refine ok_bind (s_theyCan (A := A) (cf_fit c1 hk) (by omega)) (fun r ⟨r1, b, r2, r3⟩ => ?_)
  rw [r2, r1]
  refine ok_bi (fun e3 => ok_some ⟨Or.inr ⟨fun q => (by have := r3.mpr q.2.2; rw [e3] at this; cases this), rfl⟩, cf_cls c1, f1⟩) (fun e3 => ?_)
  have hcan := r3.mp e3
  refine ok_bind (s_fillRegret hW.1 c1.2.1.1 (t := z.toNat) (by omega) (by omega) (cf_fit c1 hk) sc_xp) (fun ζ2 ⟨q1, q2, q3⟩ => ?_)
  have b1 := q2.1
  have b2 := q2.2
  refine ok_bind (s_reduce rfl rfl b2.1 (by omega) (by omega)) (fun ζ3 ⟨d1, d2, f3⟩ => ok_beq (s_part hy) (ok_some ?_))
  have fs : Fx Wsc ζ1 ζ3 := fx_trans (gp_sc q3) (fx_mono f3 (fun x y q => by unfold We at q; unfold Wsc; omega))
  refine ⟨Or.inl ⟨⟨e2, ey, hcan⟩, _, _, q1, ?_⟩, cf_cls (cf_sc hW.2.1 c1 fs), fx_trans f1 (wsc_26 fs)⟩
  dsimp only
  rw [d1, d2]
  exact red_e ey
theorem b_least {A : Nat → Nat → Int} {ζ : ZS} (h : Cls A ζ) (hW : Wall A) : Ok (g_X11_least ζ) (CP A ζ (QL A)) := by
  have qk := hW.1.1
  obtain ⟨k, hk⟩ : ∃ k : Nat, A 0 20 = k := ⟨(A 0 20).toNat, by omega⟩
  unfold g_X11_least g_X11_least_29
  refine ok_bind (s_fresh hW h) (fun ζ1 ⟨c1, f1⟩ => ?_)
  refine ok_bind (s_theyCan (A := A) (cf_fit c1 hk) (by omega)) (fun r ⟨r1, b, r2, r3⟩ => ?_)
  rw [r2, r1]
  refine ok_bi (fun e3 => ok_some ⟨Or.inr ⟨fun q => (by have := r3.mpr q; rw [e3] at this; cases this), rfl⟩, cf_cls c1, f1⟩) (fun e3 => ?_)
  have hcan := r3.mp e3
  have key : ∀ (m : Nat) (v a b w : Int) (j : Nat) (ζ2 : ZS), w = j → j ≤ 8 → 8 - j < m → Fx Wgp ζ1 ζ2 → Lf A (Sc A (hrd A)) j v a b → Ok (g_X4_leastRegret_10 m v a b w ζ2) (fun r => QLe A (Sc A (hrd A)) r.1 ∧ Fx Wgp ζ1 r.2) := by
    intro m
    induction m with
    | zero => intro _ _ _ _ _ _ _ _ h; omega
    | succ m ih =>
      intro v a b w j ζ2 hw hj hm hf hl
      subst hw
      have va1 : Va A ζ2 := va_fx c1.2.1.1 (fun x y g => (hf.1 x y (by unfold Wgp; omega)).1)
      have cs1 : Cs ζ2 68 k (Sc A (hrd A)) 12 := cs_fx (cf_fit c1 hk) (fun x y g1 g2 => hf.1 x y (by unfold Wgp; omega))
      have vb : -1 ≤ v ∧ v ≤ 8 := by rcases hl with ⟨q, _⟩ | ⟨t, q, q2, _⟩ <;> omega
      unfold g_X4_leastRegret_10 g_X4_leastRegret_65 g_X4_leastRegret_51 g_X3_isUnder g_X3_isUnder_21
      refine ok_gI (by omega) (by omega) (by omega) (by omega) (fun g => ok_some ⟨lf_end (by rw [show j = 8 by omega] at hl; exact hl), hf⟩) (fun g => ?_)
      have hj8 : j < 8 := by omega
      refine ok_beq (s_isInC va1.2 (by omega)) ?_
      rw [inz_n hj8]
      refine ok_bi (fun e => ih _ _ _ _ (j + 1) ζ2 (by omega) (by omega) (by omega) hf (lf_skip hl e)) (fun e => ?_)
      refine ok_bind (s_fillRegret hW.1 va1 (t := j) rfl hj8 cs1 sc_xp) (fun ζ3 ⟨q1, q2, q3⟩ => ?_)
      have f2 := fx_trans hf q3
      refine ok_gI (by omega) (by omega) (by omega) (by omega) (fun g1 => ih _ _ _ _ (j + 1) ζ3 (by omega) (by omega) (by omega) f2 (lf_take hl e q1 q2 (fun c => by omega))) (fun g1 => ?_)
      have fb : Fb a b := by rcases hl with ⟨q, _⟩ | ⟨t, _, _, _, _, q, _⟩; omega; exact q
      have m1 := fb_mul fb q2
      have m2 := fb_mul q2 fb
      by_cases q : a * ζ3.2.1 145 1 ≤ ζ3.2.1 145 0 * b
      · refine ok_beq (r := (0, ζ3)) (ok_eq (ok_gJ m1.1 m1.2 m2.1 m2.2 (fun _ => ok_gz (Or.inl rfl) (ok_some rfl)) (fun c => absurd q c))) ?_
        exact ok_gI (by omega) (by omega) (by omega) (by omega) (fun _ => ih _ _ _ _ (j + 1) ζ3 (by omega) (by omega) (by omega) f2 (lf_keep hl (by omega) q1 q)) (fun c => absurd rfl c)
      · refine ok_beq (r := (1, ζ3)) (ok_eq (ok_gJ m1.1 m1.2 m2.1 m2.2 (fun c => absurd c q) (fun _ => ok_gz (Or.inr rfl) (ok_some rfl)))) ?_
        exact ok_gI (by omega) (by omega) (by omega) (by omega) (fun c => by dsimp only at c; omega) (fun _ => ih _ _ _ _ (j + 1) ζ3 (by omega) (by omega) (by omega) f2 (lf_take hl e q1 q2 (fun _ => Int.not_le.mp q)))
  unfold g_X4_leastRegret
  refine ok_bind (key FU (-1) 0 1 0 0 ζ1 rfl (by omega) (by rw [FU_e]; omega) (fx_refl _ _) (Or.inl ⟨rfl, fun u hu => by omega⟩)) (fun q ⟨q1, q2⟩ => ok_some ⟨Or.inl ⟨hcan, q1⟩, cf_cls (cf_sc hW.2.1 c1 (gp_sc q2)), fx_trans f1 (wsc_26 (gp_sc q2))⟩)
