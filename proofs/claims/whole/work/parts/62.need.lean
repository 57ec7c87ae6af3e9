/-! what a thing would need -/
/-- with a growth: surely best (s not 0), or it may be -/
def Dg (A : Nat → Nat → Int) (X : V4 → Prop) (t m : Nat) (s g : Int) : Prop := if s = 0 then NV (fulg A X t m g 8) else ∀ u, u < 8 → u ≠ t → inb A u = true → Al X (gro A t m g u)
theorem dg_mono {A : Nat → Nat → Int} {X : V4 → Prop} (hX : ∀ w, X w → ∀ i, i < 4 → 0 ≤ w i) {t m : Nat} (hm : m < 4) {s g g' : Int} (h : Dg A X t m s g) (hg : g ≤ g') : Dg A X t m s g' := by
  have key : ∀ u w, X w → 0 ≤ dt (gro A t m g u) w → 0 ≤ dt (gro A t m g' u) w := fun u w hw h0 => by
    rw [dt_gro A _ hm] at h0 ⊢
    have := Int.mul_nonneg (show 0 ≤ g' - g by omega) (hX w hw m hm)
    have e : (g' - g) * w m = g' * w m - g * w m := by grind
    omega
  unfold Dg at h ⊢
  split at h
  · rename_i e
    rw [if_pos e]
    obtain ⟨w, a, b⟩ := h
    exact ⟨w, ⟨a.1, fun u h1 h2 h3 => key u w a.1 (a.2 u h1 h2 h3)⟩, b⟩
  · rename_i e
    rw [if_neg e]
    exact fun u h1 h2 h3 w hw => key u w hw (h u h1 h2 h3 w hw)
/-- the least growth that does, within the top -/
def Ng (D : Int → Prop) (top v : Int) : Prop := (D top ∧ 0 ≤ v ∧ v ≤ top ∧ D v ∧ ∀ g, 0 ≤ g → g < v → ¬ D g) ∨ (¬ D top ∧ v = -1)
theorem ng_fun {D : Int → Prop} {top v w : Int} (h : Ng D top v) (g : Ng D top w) : v = w := by
  rcases h with ⟨a, b, _, c, d⟩ | ⟨a, b⟩ <;> rcases g with ⟨a', b', _, c', d'⟩ | ⟨a', b'⟩
  · rcases Int.lt_trichotomy v w with q | q | q
    · exact absurd c (d' v b q)
    · exact q
    · exact absurd c' (d w b' q)
  · exact absurd a a'
  · exact absurd a' a
  · omega
def QN (A : Nat → Nat → Int) (z y s v : Int) : Prop := ((inz A z = true ∧ (0 ≤ y ∧ y < A 0 20) ∧ NV (Sc A (hrd A))) ∧ Ng (Dg A (Sc A (hrd A)) z.toNat y.toNat s) (100 - val A z.toNat y.toNat) v) ∨ (¬ (inz A z = true ∧ (0 ≤ y ∧ y < A 0 20) ∧ NV (Sc A (hrd A))) ∧ v = -1)
theorem qn_fun {A : Nat → Nat → Int} {z y s v w : Int} (h : QN A z y s v) (g : QN A z y s w) : v = w := by
  rcases h with ⟨a, b⟩ | ⟨a, b⟩ <;> rcases g with ⟨a', b'⟩ | ⟨a', b'⟩
  · exact ng_fun b b'
  · exact absurd a a'
  · exact absurd a' a
  · omega
theorem rai_back {A : Nat → Nat → Int} {ζ : ZS} {lv q : Nat} {X : V4 → Prop} {t m v : Int} (h : Lb (rai A t m v) ζ lv X q) : Lb A ζ lv X q := by
  obtain ⟨k, R, n, ρ, hk, h⟩ := h
  exact ⟨k, R, n, ρ, by rw [rai_e A t m v 0 20 (by omega)] at hk; exact hk, h⟩
theorem rg_rf {A : Nat → Nat → Int} {ζ : ZS} (h32 : A 0 32 = -1) {t m v : Int} (h : Rf (rai A t m v) ζ) : Rg A ζ := fun x y hp hn => by
  have hn2 : ¬ (x = 0 ∧ (y = 32 ∨ y = 33 ∨ y = 34)) := by unfold psl at hp; omega
  rw [← rai_e A t m v x y hn2]
  refine h x y ?_
  unfold psl at hp ⊢
  omega
theorem s_isThingIn {A : Nat → Nat → Int} {ζ : ZS} (h : Rf A ζ) (hw : Wa A) {z : Int} (hz : r32 z) : g_X12_isThingIn z ζ = some (bi (inz A z), ζ) := by
  apply ok_eq
  unfold g_X12_isThingIn g_X12_isThingIn_22 g_X12_isThingIn_23
  refine ok_beq (s_within ζ hz (by omega) (by omega)) (ok_bi (fun e => ok_gz (Or.inl rfl) (ok_some (by unfold inz; rw [e]; rfl))) (fun e => ?_))
  exact ok_beq (s_isIn h hw hz) (ok_bi (fun e => ok_gz (Or.inl rfl) (ok_some (by rw [e]; rfl))) (fun e => ok_gz (Or.inr rfl) (ok_some (by rw [e]; rfl))))
theorem s_doesWith {A : Nat → Nat → Int} {ζ : ZS} (h : Rf A ζ) (hw : Wa A) (h32 : A 0 32 = -1) {t m : Nat} {z y to s : Int} {X : V4 → Prop} (hz : z = t) (hy : y = m) (ht : t < 8) (hm : (m : Int) < A 0 20) (hto : 0 ≤ to ∧ to ≤ 100) (hs : r32 s) (hL : Lw A ζ 0 X 12) : Ok (g_X12_doesWith z y to s ζ) (fun r => (∃ p : Bool, r.1 = bi p ∧ (p = true ↔ Dg A X t m s (to - val A t m))) ∧ Lw A r.2 0 X 12 ∧ Rf A r.2 ∧ Fx (fun x _ => x < 25 ∧ x ≠ 5) ζ r.2) := by
  subst hz; subst hy
  have qk := hw.1
  have hrf := rg_rai h32 (rg_of h) (t : Int) (m : Int) to
  have hwa := rai_wa hw (t : Int) (m : Int) to
  have hwx : Wx (rai A (t : Int) (m : Int) to) := rai_wx (by omega) (by omega) hto
  have eab : ∀ u, u ≠ t → abv (rai A (t : Int) (m : Int) to) t u = gro A t m (to - val A t m) u := fun u hu => rai_abv hm hu
  have f2 : Fx (fun x _ => x < 25 ∧ x ≠ 5) ζ (zI (zI (zI ζ 0 32 (t : Int)) 0 33 (m : Int)) 0 34 to) := fx_I (fx_I (fx_I (fx_refl _ _) (show (0 : Nat) < 25 ∧ (0 : Nat) ≠ 5 by decide)) (show (0 : Nat) < 25 ∧ (0 : Nat) ≠ 5 by decide)) (show (0 : Nat) < 25 ∧ (0 : Nat) ≠ 5 by decide)
  have lb2 : Lb (rai A (t : Int) (m : Int) to) (zI (zI (zI ζ 0 32 (t : Int)) 0 33 (m : Int)) 0 34 to) 0 X 12 := rai_lb (lb_z0 (lb_z0 (lb_z0 hL.1))) _ _ _
  have lw2 : Lw (rai A (t : Int) (m : Int) to) (zI (zI (zI ζ 0 32 (t : Int)) 0 33 (m : Int)) 0 34 to) 0 X 12 := ⟨lb2, by simp only [zI_1]; simpa using hL.2⟩
  unfold g_X12_doesWith
  generalize zI (zI (zI ζ 0 32 (t : Int)) 0 33 (m : Int)) 0 34 to = ζ1 at hrf f2 lb2 lw2 ⊢
  have fin : ∀ (ζ2 : ZS) (p : Bool), Rf (rai A (t : Int) (m : Int) to) ζ2 → Lw (rai A (t : Int) (m : Int) to) ζ2 0 X 12 → Fx (fun x _ => x < 25 ∧ x ≠ 5) ζ ζ2 → (p = true ↔ Dg A X t m s (to - val A t m)) → Ok (g_X12_doesWith_35 (bi p) ζ2) (fun r => (∃ p : Bool, r.1 = bi p ∧ (p = true ↔ Dg A X t m s (to - val A t m))) ∧ Lw A r.2 0 X 12 ∧ Rf A r.2 ∧ Fx (fun x _ => x < 25 ∧ x ≠ 5) ζ r.2) := by
    intro ζ2 p r2 l2 g2 hp
    unfold g_X12_doesWith_35
    refine ok_gz (bi_r p) (ok_some ⟨⟨p, rfl, hp⟩, ⟨lb_z0 (rai_back l2.1), ?_⟩, rg_back h32 (rg_rf h32 r2), fx_I g2 (show (0 : Nat) < 25 ∧ (0 : Nat) ≠ 5 by decide)⟩)
    simp only [zI_1]
    simpa using l2.2
  refine ok_gI hs.1 hs.2 (by omega) (by omega) (fun g => ?_) (fun g => ?_)
  · obtain ⟨R, hR⟩ : ∃ R : Nat, ζ1.1 21 0 = R := by
      obtain ⟨k, R', n', ρ, a1, a2, a3, a4, a5, a6⟩ := lb2
      exact ⟨R', a6.2.1⟩
    refine ok_bind (s_mayBe hrf hwa hwx (lv := 0) rfl rfl ht (by omega) lw2 (by omega) hR) (fun r ⟨⟨p, r1, r2⟩, r3, r4, r5⟩ => ?_)
    rw [r1]
    refine fin r.2 p r4 r3 (fx_trans f2 (wm_25 r5)) (r2.trans ?_)
    unfold Dg
    rw [if_pos g]
    have ef : ∀ w, ful (rai A (t : Int) (m : Int) to) X t 8 w ↔ fulg A X t m (to - val A t m) 8 w := fun w => by
      unfold ful fulg
      constructor
      · exact fun c => ⟨c.1, fun u h1 h2 h3 => by rw [← eab u h2]; exact c.2 u h1 h2 (by rw [rai_inb]; exact h3)⟩
      · exact fun c => ⟨c.1, fun u h1 h2 h3 => by rw [eab u h2]; exact c.2 u h1 h2 (by rw [rai_inb] at h3; exact h3)⟩
    exact ⟨fun ⟨w, a, b⟩ => ⟨w, (ef w).mp a, b⟩, fun ⟨w, a, b⟩ => ⟨w, (ef w).mpr a, b⟩⟩
  · refine ok_bind (s_isSure hrf hwa hwx (lv := 0) rfl rfl ht (by omega) lb2 (by omega)) (fun r ⟨r0, p, r1, r2⟩ => ?_)
    rw [r1, r0]
    refine fin ζ1 p hrf lw2 f2 (r2.trans ?_)
    unfold Dg sur
    rw [if_neg g]
    constructor
    · exact fun c u h1 h2 h3 => by rw [← eab u h2]; exact c u h1 h2 (by rw [rai_inb]; exact h3)
    · exact fun c u h1 h2 h3 => by rw [eab u h2]; exact c u h1 h2 (by rw [rai_inb] at h3; exact h3)
theorem sc_nn {A : Nat → Nat → Int} {P : Nat → Bool} : ∀ w, Sc A P w → ∀ i, i < 4 → 0 ≤ w i := fun _ h => h.1
theorem a_need {A : Nat → Nat → Int} {ζ : ZS} (h : Rf A ζ) (hW : Wall A) {z y s : Int} (hz : r32 z) (hy : r32 y) (hs : r32 s) : Ok (g_X12_need z y s ζ) (RP A ζ (QN A z y s)) := by
  have hW' := hW
  obtain ⟨hw, hsay, hv, hwx, h32, _⟩ := hW
  have qk := hw.1
  have f0 : Fx (fun x _ => x < 25 ∧ x ≠ 5) ζ (zI ζ 0 0 0) := fx_I (fx_refl _ _) (by decide)
  unfold g_X12_need g_X12_need_34
  refine ok_beq (s_isThingIn (rf_0 h 0) hw hz) (ok_bi (fun e => ok_some (rp_same h (Or.inr ⟨fun q => (by rw [e] at q; cases q.1), rfl⟩))) (fun e => ?_))
  have ek : (zI ζ 0 0 0).1 0 20 = A 0 20 := rf_k (rf_0 h 0)
  rw [ek]
  refine ok_beq (s_within _ hy (by omega) (by omega)) (ok_bi (fun g => ok_some (rp_same h (Or.inr ⟨fun q => ?_, rfl⟩))) (fun g => ?_))
  · rw [decide_eq_true q.2.1.1, decide_eq_true (show y ≤ A 0 20 - 1 by omega)] at g; cases g
  simp only [Bool.and_eq_true, decide_eq_true_eq] at g
  refine ok_bind (s_findNow (rf_0 h 0) hW') (fun r ⟨lw, hr, hf, r01, r1⟩ => ?_)
  have f1 := fx_trans f0 (wq_25 hf)
  refine ok_gI (by omega) (by omega) (by omega) (by omega) (fun g => ok_some ⟨Or.inr ⟨fun q => (by have := r1.mpr q.2.2; omega), rfl⟩, hr, f1⟩) (fun g0 => ?_)
  have hcan := r1.mp (by omega)
  generalize r.2 = ζ0 at lw hr hf f1
  have iz := inz_r e
  have ht : z.toNat < 8 := by omega
  have hm : ((y.toNat : Nat) : Int) < A 0 20 := by omega
  have vb := val_bd hw (t := z.toNat) (m := y.toNat) ht (by omega)
  obtain ⟨v, hvv⟩ : ∃ v, v = val A z.toNat y.toNat := ⟨_, rfl⟩
  have yes : ∀ x, Ng (Dg A (Sc A (hrd A)) z.toNat y.toNat s) (100 - v) x → QN A z y s x := fun x hx => Or.inl ⟨⟨e, by omega, hcan⟩, by rw [← hvv]; exact hx⟩
  have mono : ∀ {a b : Int}, Dg A (Sc A (hrd A)) z.toNat y.toNat s a → a ≤ b → Dg A (Sc A (hrd A)) z.toNat y.toNat s b := fun ha hab => dg_mono sc_nn (by omega) ha hab
  refine ok_beq (s_valueOf hr hw (t := z.toNat) (m := y.toNat) (by omega) (by omega) ht hm) ?_
  rw [← hvv]
  rw [← hvv] at vb
  refine ok_bind (s_doesWith hr hw h32 (t := z.toNat) (m := y.toNat) (by omega) (by omega) ht hm (by omega) hs lw) (fun q ⟨⟨p, q1, q2⟩, q3, q4, q5⟩ => ?_)
  rw [← hvv] at q2
  rw [q1]
  have f2 := fx_trans f1 q5
  refine ok_bi (fun e2 => ok_some ⟨yes _ (Or.inr ⟨fun c => (by have := q2.mpr c; rw [e2] at this; cases this), rfl⟩), q4, f2⟩) (fun e2 => ?_)
  have htop := q2.mp e2
  have key : ∀ (n : Nat) (lo hi : Int) (ζ1 : ZS), v - 1 ≤ lo → lo < hi → hi ≤ 100 → (hi - lo).toNat < n → Dg A (Sc A (hrd A)) z.toNat y.toNat s (hi - v) → (lo < v ∨ ¬ Dg A (Sc A (hrd A)) z.toNat y.toNat s (lo - v)) → Lw A ζ1 0 (Sc A (hrd A)) 12 → Rf A ζ1 → Fx (fun x _ => x < 25 ∧ x ≠ 5) ζ ζ1 → Ok (g_X12_need_68 z y s v n lo hi ζ1) (RP A ζ (QN A z y s)) := by
    intro n
    induction n with
    | zero => intro _ _ _ _ _ _ h; omega
    | succ n ih =>
      intro lo hi ζ1 h1 h2 h3 hn hhi hlo hL1 hr1 hf1
      unfold g_X12_need_68 g_X12_need_109
      refine ok_gI (by omega) (by omega) (by omega) (by omega) (fun c => ?_) (fun c => ?_)
      · refine ok_some ⟨yes _ (Or.inl ⟨htop, by omega, by omega, hhi, fun g a b c2 => ?_⟩), hr1, hf1⟩
        rcases hlo with q | q
        · omega
        · exact q (mono c2 (by omega))
      · have em : Int.tdiv (lo + hi) 2 = (lo + hi) / 2 := Int.tdiv_eq_ediv_of_nonneg (by omega)
        rw [em]
        obtain ⟨mid, hmid⟩ : ∃ mid, mid = (lo + hi) / 2 := ⟨_, rfl⟩
        have m1 : lo < mid := by clear hlo ih; omega
        have m2 : mid < hi := by clear hlo ih; omega
        have n1 : (hi - mid).toNat < n := by clear hlo ih; omega
        have n2 : (mid - lo).toNat < n := by clear hlo ih; omega
        rw [← hmid]
        refine ok_gd (by omega) (by omega) (by omega) (by omega) (ok_bind (s_doesWith hr1 hw h32 (t := z.toNat) (m := y.toNat) (by omega) (by omega) ht hm (by omega) hs hL1) (fun q ⟨⟨p, q1, q2⟩, q3, q4, q5⟩ => ?_))
        rw [← hvv] at q2
        rw [q1]
        refine ok_bi (fun e2 => ih mid hi q.2 (by omega) m2 h3 n1 hhi (Or.inr (fun c => by have := q2.mpr c; rw [e2] at this; cases this)) q3 q4 (fx_trans hf1 q5)) (fun e2 => ih lo mid q.2 h1 m1 (by omega) n2 (q2.mp e2) hlo q3 q4 (fx_trans hf1 q5))
  exact key FU (v - 1) 100 q.2 (by omega) (by omega) (by omega) (by rw [FU_e]; omega) htop (Or.inl (by omega)) q3 q4 f2
/-! the class -/
theorem b_need {A : Nat → Nat → Int} {ζ : ZS} (h : Cls A ζ) (hW : Wall A) {z y s : Int} (hz : r32 z) (hy : r32 y) (hs : r32 s) : Ok (g_X11_need z y s ζ) (CP A ζ (QN A z y s)) := by
  have qk := hW.1.1
  have hw := hW.1
  obtain ⟨k, hk⟩ : ∃ k : Nat, A 0 20 = k := ⟨(A 0 20).toNat, by omega⟩
  unfold g_X11_need g_X11_need_33 g_X11_need_60
  refine ok_bind (s_fresh hW h) (fun ζ1 ⟨c1, f1⟩ => ok_beq (s_isInC c1.2.1.1.2 hz) (ok_bi (fun e => ok_some ⟨Or.inr ⟨fun q => (by rw [e] at q; cases q.1), rfl⟩, cf_cls c1, f1⟩) (fun e => ?_)))
  refine ok_beq (s_hasMeasure c1.1.2.2.1 hw hy) (ok_bi (fun g => ok_some ⟨Or.inr ⟨fun q => ?_, rfl⟩, cf_cls c1, f1⟩) (fun g => ?_))
  · rw [decide_eq_true q.2.1.1, decide_eq_true q.2.1.2] at g; cases g
  simp only [Bool.and_eq_true, decide_eq_true_eq] at g
  have hfit := cf_fit c1 hk
  refine ok_bind (s_theyCan (A := A) hfit (by omega)) (fun r ⟨r1, b, r2, r3⟩ => ?_)
  rw [r2, r1]
  refine ok_bi (fun e2 => ok_some ⟨Or.inr ⟨fun q => (by have := r3.mpr q.2.2; rw [e2] at this; cases this), rfl⟩, cf_cls c1, f1⟩) (fun e2 => ?_)
  have hcan := r3.mp e2
  have iz := inz_r e
  have ht : z.toNat < 8 := by omega
  have hm4 : y.toNat < 4 := by omega
  have vb := val_bd hw (t := z.toNat) (m := y.toNat) ht hm4
  have ev : ∀ {ζ2 : ZS}, Va A ζ2 → ζ2.1 (40 + 1 + z.toNat) y.toNat = val A z.toNat y.toNat := fun hv => hv.1 _ _ ht hm4
  have yes : ∀ x, Ng (Dg A (Sc A (hrd A)) z.toNat y.toNat s) (100 - val A z.toNat y.toNat) x → QN A z y s x := fun x hx => Or.inl ⟨⟨e, g, hcan⟩, hx⟩
  have mono : ∀ {a b : Int}, Dg A (Sc A (hrd A)) z.toNat y.toNat s a → a ≤ b → Dg A (Sc A (hrd A)) z.toNat y.toNat s b := fun ha hab => dg_mono sc_nn hm4 ha hab
  have done : ∀ {x : Int} {ζ2 : ZS}, Fx Wsc ζ1 ζ2 → Ng (Dg A (Sc A (hrd A)) z.toNat y.toNat s) (100 - val A z.toNat y.toNat) x → CP A ζ (QN A z y s) (x, ζ2) := fun f2 hx => ⟨yes _ hx, cf_cls (cf_sc hW.2.1 c1 f2), fx_trans f1 (wsc_26 f2)⟩
  have ww : ∀ {ζ2 ζ3 : ZS}, Fx Wsc ζ1 ζ2 → Fx Ww ζ2 ζ3 → Fx Wsc ζ1 ζ3 := fun a b => fx_trans a (fx_mono b (fun x y q => by unfold Ww at q; unfold Wsc; omega))
  have keep : ∀ {ζ2 : ZS}, Fx Wsc ζ1 ζ2 → Va A ζ2 ∧ Cs ζ2 68 k (Sc A (hrd A)) 12 := fun f2 => ⟨(cf_sc hW.2.1 c1 f2).2.1.1, cf_fit (cf_sc hW.2.1 c1 f2) hk⟩
  refine ok_gI hs.1 hs.2 (by omega) (by omega) (fun gs => ?_) (fun gs => ?_)
  · -- it may be
    have eD : ∀ x, Dg A (Sc A (hrd A)) z.toNat y.toNat s x ↔ NV (fulg A (Sc A (hrd A)) z.toNat y.toNat x 8) := fun x => by unfold Dg; rw [if_pos gs]
    have ask : ∀ (ζ2 : ZS) (gr : Int), Fx Wsc ζ1 ζ2 → 0 ≤ gr → val A z.toNat y.toNat + gr ≤ 100 → Ok (g_X4_whereBest z y gr ζ2) (fun r => ∃ c n : Nat, r.1 = c ∧ kd c = 1 ∧ r.2.1 c 5 = n ∧ n ≤ 42 ∧ (0 < n ↔ Dg A (Sc A (hrd A)) z.toNat y.toNat s gr) ∧ Fx Wsc ζ1 r.2) := by
      intro ζ2 gr f2 a b
      obtain ⟨va2, cs2⟩ := keep f2
      refine ok_mono (s_whereBest (t := z.toNat) (m := y.toNat) hw va2 cs2 (by omega) (by omega) rfl ht hm4 ⟨a, b⟩) (fun r ⟨d, Y, hd, e1, hc, hY, hf⟩ => ?_)
      obtain ⟨nn, c3, k1, k4, hnn, n42, hne, _⟩ := cs_n hc (by omega)
      refine ⟨73 + 4 * d, nn, e1, kd_c17 d (by omega), hnn, n42, hne.trans ?_, ww f2 hf⟩
      rw [eD]
      rcases hY with hY | hY
      · exact ⟨fun ⟨w, a, b⟩ => ⟨w, (hY w).mp a, b⟩, fun ⟨w, a, b⟩ => ⟨w, (hY w).mpr a, b⟩⟩
      · exact ⟨fun q => absurd q hY.1, fun q => absurd q hY.2⟩
    obtain ⟨top, htp⟩ : ∃ top, top = 100 - val A z.toNat y.toNat := ⟨_, rfl⟩
    have key : ∀ (n : Nat) (hi lo i : Int) (ζ2 : ZS), 0 ≤ lo → lo ≤ hi → hi ≤ top → 0 ≤ i → hi - lo ≤ 100 - i → (hi - lo).toNat < n → Dg A (Sc A (hrd A)) z.toNat y.toNat s hi → Dg A (Sc A (hrd A)) z.toNat y.toNat s top → (∀ x, 0 ≤ x → x < lo → ¬ Dg A (Sc A (hrd A)) z.toNat y.toNat s x) → Fx Wsc ζ1 ζ2 → Ok (g_X4_needToMaybe_36 z y n hi lo i ζ2) (CP A ζ (QN A z y s)) := by
      intro n
      induction n with
      | zero => intro _ _ _ _ _ _ _ _ _ h; omega
      | succ n ih =>
        intro hi lo i ζ2 h1 h2 h3 h4 h5 hn hhi htop hlo f2
        have fin : hi ≤ lo → Ok (g_X4_needToMaybe_89 hi ζ2) (CP A ζ (QN A z y s)) := fun c => by
          have ehl : hi = lo := by omega
          unfold g_X4_needToMaybe_89
          exact ok_some (done f2 (Or.inl ⟨by rw [← htp]; exact htop, by omega, by omega, hhi, fun x a b => hlo x a (by omega)⟩))
        unfold g_X4_needToMaybe_36 g_X4_needToMaybe_83
        refine ok_gI (by omega) (by omega) (by omega) (by omega) (fun c => fin (by omega)) (fun c => ok_gI (by omega) (by omega) (by omega) (by omega) (fun c2 => fin c2) (fun c2 => ?_))
        have em : Int.tdiv (lo + hi) 2 = (lo + hi) / 2 := Int.tdiv_eq_ediv_of_nonneg (by omega)
        rw [em]
        obtain ⟨mid, hmid⟩ : ∃ mid, mid = (lo + hi) / 2 := ⟨_, rfl⟩
        have m1 : lo ≤ mid := by clear hlo ih; omega
        have m2 : mid < hi := by clear hlo ih; omega
        rw [← hmid]
        refine ok_gd (by omega) (by omega) (by omega) (by omega) (ok_bind (ask ζ2 mid f2 (by omega) (by omega)) (fun q ⟨cc, nn, e1, kc, e5, n42, hne, f3⟩ => ?_))
        rw [e1]
        refine ok_rk rfl kc ?_
        rw [e5]
        refine ok_gI (by omega) (by omega) (by omega) (by omega) (fun c3 => ?_) (fun c3 => ?_)
        · refine ih hi (mid + 1) (i + 1) q.2 (by omega) (by omega) h3 (by omega) (by omega) (by clear hlo hne ih; omega) hhi htop (fun x a b c4 => ?_) f3
          have := hne.mpr (mono c4 (by omega))
          omega
        · exact ih mid lo (i + 1) q.2 h1 m1 (by omega) (by omega) (by omega) (by clear hlo hne ih; omega) (hne.mp (by omega)) htop hlo f3
    refine ok_bind ?_ (fun q hq => ok_some hq)
    unfold g_X4_needToMaybe
    have va1 := c1.2.1.1
    rw [show Int.toNat z = z.toNat from rfl, show Int.toNat y = y.toNat from rfl, ev va1, ← htp]
    refine ok_gk (by omega) (by omega) (ok_gk (by omega) (by omega) (ok_bind (ask ζ1 top (fx_refl _ _) (by omega) (by omega)) (fun q ⟨cc, nn, e1, kc, e5, n42, hne, f3⟩ => ?_)))
    rw [e1]
    refine ok_rk rfl kc ?_
    rw [e5]
    refine ok_gI (by omega) (by omega) (by omega) (by omega) (fun c3 => ok_some (done f3 (Or.inr ⟨fun c4 => ?_, rfl⟩))) (fun c3 => ?_)
    · rw [← htp] at c4
      have := hne.mpr c4
      omega
    · have htop := hne.mp (by omega)
      exact key FU top 0 0 q.2 (by omega) (by omega) (by omega) (by omega) (by omega) (by rw [FU_e]; omega) htop htop (fun x a b => by omega) f3
  · -- surely
    have eD : ∀ x, Dg A (Sc A (hrd A)) z.toNat y.toNat s x ↔ ∀ u, u < 8 → u ≠ z.toNat → inb A u = true → Al (Sc A (hrd A)) (gro A z.toNat y.toNat x u) := fun x => by unfold Dg; rw [if_neg gs]
    obtain ⟨n, c3, k1, k4, hn, n42, hne, hpt, halc, _⟩ := cs_n hfit (by omega)
    obtain ⟨F, hF⟩ : ∃ F : Nat → V4, F = cw ζ1 68 := ⟨_, rfl⟩
    simp only [← hF] at hpt halc
    have self : ∀ x j, 0 ≤ x → j < n → 0 ≤ dt (gro A z.toNat y.toNat x z.toNat) (F j) := fun x j hx hj => by
      rw [dt_gro A _ hm4, dt_lead]
      have := Int.mul_nonneg hx ((hpt j hj).2.2.1 y.toNat hm4).1
      omega
    have eD2 : ∀ x, 0 ≤ x → (Dg A (Sc A (hrd A)) z.toNat y.toNat s x ↔ ∀ u, u < 8 → inb A u = true → ∀ j, j < n → 0 ≤ dt (gro A z.toNat y.toNat x u) (F j)) := fun x hx => by
      rw [eD]
      refine ⟨fun c u h1 h2 j hj => ?_, fun c u h1 _ h3 => (halc _).mp (c u h1 h3)⟩
      by_cases eu : u = z.toNat
      · rw [eu]; exact self x j hx hj
      · exact (halc _).mpr (c u h1 eu h2) j hj
    let Inv : Nat → Nat → Int → Prop := fun u c E => 0 ≤ E ∧ E ≤ 2400000000 ∧ ∀ x, 0 ≤ x → (E ≤ x ↔ ((∀ u', u' < u → inb A u' = true → ∀ j, j < n → 0 ≤ dt (gro A z.toNat y.toNat x u') (F j)) ∧ ∀ j, j < c → 0 ≤ dt (gro A z.toNat y.toNat x u) (F j)))
    have inner : ∀ (u : Nat) (r5 : Int → Int → ZS → Option (Int × ZS)) (ζ2 : ZS), u < 8 → inb A u = true → Fx (We 135) ζ1 ζ2 → (∀ m, m < 4 → ζ2.1 135 m = leadv A z.toNat u m) → (∀ E, Inv u n E → Ok (r5 E ((u : Int) + 1) ζ2) (CP A ζ (QN A z y s))) → ∀ (m : Nat) (E w : Int) (c : Nat), w = c → c ≤ n → n - c < m → Inv u c E → Ok (g_X4_needToBeSure_41 z y (u : Int) r5 m E w ζ2) (CP A ζ (QN A z y s)) := by
      intro u r5 ζ2 hu hin f2 h135 hnext m
      have fs : Fx Wsc ζ1 ζ2 := fx_mono f2 (fun x y q => by unfold We at q; unfold Wsc; omega)
      obtain ⟨va2, cs2⟩ := keep fs
      have hn2 : ζ2.1 68 5 = n := by rw [(f2.1 68 5 (by unfold We; omega)).1]; exact hn
      have ecw : ∀ j, cw ζ2 68 j = F j := fun j => by rw [hF]; funext m; exact (f2.1 69 _ (by unfold We; omega)).2
      have hbd := leadv_bd hw (a := z.toNat) (b := u) ht hu
      induction m with
      | zero => intro _ _ _ _ _ h; omega
      | succ m ih =>
        intro E w c hwc hc hm hinv
        subst hwc
        obtain ⟨E0, E1, hE⟩ := hinv
        unfold g_X4_needToBeSure_41 g_X4_needToBeSure_131 g_X4_needToBeSure_105 g_X4_needToBeSure_125
        rw [hn2]
        refine ok_gI (by omega) (by omega) (by omega) (by omega) (fun q => ?_) (fun q => ?_)
        · have ec : c = n := by omega
          subst ec
          exact hnext E ⟨E0, E1, hE⟩
        · have hcn : c < n := by omega
          have n1 : (c : Int) + 1 = ((c + 1 : Nat) : Int) := by omega
          have n3 : n - (c + 1) < m := by clear hE ih; omega
          have bl := dt_bd hbd (hpt c hcn).2.2.1
          have bw := (hpt c hcn).2.2.1 y.toNat hm4
          refine ok_beq (cs_prod ζ2 68 135 cs2 (by omega) rfl hn2 hcn rfl h135 hbd) (ok_beq (s_weight ζ2 68 (m := y.toNat) rfl (by omega) (by omega) hm4) ?_)
          rw [ecw c]
          generalize hL : dt (leadv A z.toNat u) (F c) = L at bl ⊢
          generalize hWv : F c y.toNat = W at bw ⊢
          dsimp only
          have cond : ∀ x, dt (gro A z.toNat y.toNat x u) (F c) = L + x * W := fun x => by rw [dt_gro A _ hm4, hL, hWv]
          have step : ∀ E' : Int, 0 ≤ E' → E' ≤ 2400000000 → (∀ x, 0 ≤ x → (E' ≤ x ↔ (E ≤ x ∧ 0 ≤ L + x * W))) → Ok (g_X4_needToBeSure_41 z y (u : Int) r5 m E' ((c : Int) + 1) ζ2) (CP A ζ (QN A z y s)) := by
            intro E' a b c'
            refine ih E' _ (c + 1) n1 hcn n3 ⟨a, b, fun x hx => (c' x hx).trans ?_⟩
            rw [hE x hx, ← cond x]
            exact ⟨fun ⟨⟨g1, g2⟩, g3⟩ => ⟨g1, fun j hj => by
              by_cases ej : j = c
              · rw [ej]; exact g3
              · exact g2 j (by omega)⟩, fun ⟨g1, g2⟩ => ⟨⟨g1, fun j hj => g2 j (by omega)⟩, g2 c (by omega)⟩⟩
          have pos : 0 ≤ L → Ok (g_X4_needToBeSure_41 z y (u : Int) r5 m E ((c : Int) + 1) ζ2) (CP A ζ (QN A z y s)) := fun l0 => step E E0 E1 (fun x hx => ⟨fun q => ⟨q, by have := Int.mul_nonneg hx bw.1; omega⟩, fun q => q.1⟩)
          refine ok_gJ (by omega) (by omega) (by omega) (by omega) (fun l0 => ok_gJ (by omega) (by omega) (by omega) (by omega) (fun _ => pos l0) (fun c2 => absurd l0 c2)) (fun l0 => ok_gJ (by omega) (by omega) (by omega) (by omega) (fun w0 => ok_gJ (by omega) (by omega) (by omega) (by omega) (fun c2 => absurd c2 l0) (fun _ => ?_)) (fun w0 => ?_))
          · refine ok_beq (s_floorDiv ζ2 (by omega) (by omega)) ?_
            dsimp only
            have q1 : -L ≤ 2400000000 := by omega
            have q2 : 0 ≤ L + (-L) * W := by
              have e0 : L + -L * W = -L * (W - 1) := by grind
              rw [e0]; exact Int.mul_nonneg (by omega) (by omega)
            have q3 := (ceil_iff (l := L) (g := -L) w0).mp q2
            have q4 : 0 ≤ -(L / W) := by
              apply Classical.byContradiction
              intro cc
              have := (ceil_iff (l := L) (g := 0) w0).mpr (by omega)
              omega
            refine ok_beq (s_maxJ ζ2 (by omega) (by omega)) ?_
            refine step _ ?_ ?_ (fun x hx => ?_)
            · dsimp only; split <;> omega
            · dsimp only; split <;> omega
            · rw [ceil_iff w0]
              dsimp only
              split <;> omega
          · -- no growth does
            have W0 : W = 0 := by omega
            refine ok_some (done fs (Or.inr ⟨fun c4 => ?_, rfl⟩))
            have := (eD2 _ (by omega)).mp c4 u hu hin c hcn
            rw [cond, W0, Int.mul_zero] at this
            omega
    have outer : ∀ (m : Nat) (E w : Int) (u : Nat) (ζ2 : ZS), w = u → u ≤ 8 → 8 - u < m → Fx (We 135) ζ1 ζ2 → Inv u 0 E → Ok (g_X4_needToBeSure_5 z y m E w ζ2) (CP A ζ (QN A z y s)) := by
      intro m
      induction m with
      | zero => intro _ _ _ _ _ _ h; omega
      | succ m ih =>
        intro E w u ζ2 hwu hu hm f2 hinv
        subst hwu
        obtain ⟨E0, E1, hE⟩ := hinv
        have fs : Fx Wsc ζ1 ζ2 := fx_mono f2 (fun x y q => by unfold We at q; unfold Wsc; omega)
        obtain ⟨va2, cs2⟩ := keep fs
        unfold g_X4_needToBeSure_5 g_X4_needToBeSure_131 g_X4_needToBeSure_163
        rw [show Int.toNat z = z.toNat from rfl, show Int.toNat y = y.toNat from rfl, ev va2]
        refine ok_gI (by omega) (by omega) (by omega) (by omega) (fun q => ?_) (fun q => ?_)
        · have e8 : u = 8 := by clear hE ih; omega
          subst e8
          have hD : ∀ x, 0 ≤ x → (E ≤ x ↔ Dg A (Sc A (hrd A)) z.toNat y.toNat s x) := fun x hx => by
            rw [hE x hx, eD2 x hx]
            exact ⟨fun c => c.1, fun c => ⟨c, fun j hj => by omega⟩⟩
          refine ok_gk (by omega) (by omega) (ok_gk (by omega) (by omega) (ok_gw (by omega) (by omega) (ok_gJ (by omega) (by omega) (by omega) (by omega) (fun c => ok_some (done fs (Or.inr ⟨fun c4 => ?_, rfl⟩))) (fun c => ok_some (done fs (Or.inl ⟨(hD _ (by omega)).mp (by omega), E0, by omega, (hD E E0).mp (Int.le_refl E), fun x a b c4 => ?_⟩))))))
          · have := (hD _ (by omega)).mpr c4
            omega
          · have := (hD x a).mpr c4
            omega
        · have hu8 : u < 8 := by clear hE ih; omega
          have n1 : (u : Int) + 1 = ((u + 1 : Nat) : Int) := by omega
          have n3 : 8 - (u + 1) < m := by clear hE ih; omega
          refine ok_beq (s_isInC va2.2 (by clear hE ih; omega)) ?_
          rw [inz_n hu8]
          refine ok_bi (fun e0 => ?_) (fun e0 => ?_)
          · refine ih E _ (u + 1) ζ2 n1 hu8 n3 f2 ⟨E0, E1, fun x hx => (hE x hx).trans ?_⟩
            exact ⟨fun c => ⟨fun u' a b => by
              by_cases eu : u' = u
              · rw [eu, e0] at b; cases b
              · exact c.1 u' (by omega) b, fun j hj => by omega⟩, fun c => ⟨fun u' a b => c.1 u' (by omega) b, fun j hj => by omega⟩⟩
          · refine ok_bind (s_fillLead (A := A) (a := z.toNat) (b := u) (e := 135) va2.1 (by clear hE ih; omega) rfl ht hu8 (by omega) rfl) (fun ζ3 ⟨h3, f3⟩ => ?_)
            refine inner u _ ζ3 hu8 e0 (fx_trans f2 f3) h3 (fun E' hE' => ?_) FU E 0 0 rfl (by omega) (by rw [FU_e]; omega) ⟨E0, E1, hE⟩
            refine ih E' _ (u + 1) ζ3 n1 hu8 n3 (fx_trans f2 f3) ⟨hE'.1, hE'.2.1, fun x hx => (hE'.2.2 x hx).trans ?_⟩
            exact ⟨fun c => ⟨fun u' a b j hj => by
              by_cases eu : u' = u
              · rw [eu]; exact c.2 j hj
              · exact c.1 u' (by omega) b j hj, fun j hj => by omega⟩, fun c => ⟨fun u' a b => c.1 u' (by omega) b, fun j hj => c.1 u (by omega) e0 j hj⟩⟩
    refine ok_bind ?_ (fun q hq => ok_some hq)
    unfold g_X4_needToBeSure
    exact outer FU 0 0 0 ζ1 rfl (by omega) (by rw [FU_e]; omega) (fx_refl _ _) ⟨by omega, by omega, fun x hx => ⟨fun _ => ⟨fun u' a => by omega, fun j hj => by omega⟩, fun _ => hx⟩⟩
