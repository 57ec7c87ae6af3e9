/-! gaps and regrets -/
/-- the greatest of some fractions -/
def Fu (S : Int → Int → Prop) (a b : Int) : Prop := S a b ∧ 0 < b ∧ ∀ a' b', S a' b' → 0 < b' ∧ a' * b ≤ a * b'
theorem fu_ext {S T : Int → Int → Prop} {a b : Int} (h : Fu S a b) (sub : ∀ a b, S a b → T a b) (hb : ∀ a' b', T a' b' → 0 < b' ∧ a' * b ≤ a * b') : Fu T a b := ⟨sub a b h.1, h.2.1, hb⟩
theorem fu_one {c d : Int} (hd : 0 < d) : Fu (fun a b => a = c ∧ b = d) c d := ⟨⟨rfl, rfl⟩, hd, fun a' b' h => by rw [h.1, h.2]; exact ⟨hd, Int.le_refl _⟩⟩
theorem fu_l {S T : Int → Int → Prop} {a b c d : Int} (h : Fu S a b) (g : Fu T c d) (q : c * b ≤ a * d) : Fu (fun x y => S x y ∨ T x y) a b := by
  refine ⟨Or.inl h.1, h.2.1, fun a' b' hs => ?_⟩
  rcases hs with hs | hs
  · exact h.2.2 a' b' hs
  · have := g.2.2 a' b' hs
    exact ⟨this.1, fr_trans this.1 g.2.1 h.2.1 this.2 q⟩
theorem fu_r {S T : Int → Int → Prop} {a b c d : Int} (h : Fu S a b) (g : Fu T c d) (q : a * d ≤ c * b) : Fu (fun x y => S x y ∨ T x y) c d := by
  refine ⟨Or.inr g.1, g.2.1, fun a' b' hs => ?_⟩
  rcases hs with hs | hs
  · have := h.2.2 a' b' hs
    exact ⟨this.1, fr_trans this.1 h.2.1 g.2.1 this.2 q⟩
  · exact g.2.2 a' b' hs
theorem fu_eq {S : Int → Int → Prop} {a b c d : Int} (h : Fu S a b) (g : Fu S c d) : a * d = c * b := Int.le_antisymm (g.2.2 a b h.1).2 (h.2.2 c d g.1).2
theorem fu_iff {S T : Int → Int → Prop} {a b : Int} (h : Fu S a b) (e : ∀ x y, S x y ↔ T x y) : Fu T a b := ⟨(e a b).mp h.1, h.2.1, fun a' b' ht => h.2.2 a' b' ((e a' b').mpr ht)⟩
theorem nat_red {A b A' b' : Nat} (hb : 0 < b) (hb' : 0 < b') (e : A * b' = A' * b) : A / Nat.gcd A b = A' / Nat.gcd A' b' ∧ b / Nat.gcd A b = b' / Nat.gcd A' b' := by
  have g1 : Nat.gcd A b * b' = Nat.gcd A' b' * b := by
    rw [← Nat.gcd_mul_right A b' b, ← Nat.gcd_mul_right A' b b', e, Nat.mul_comm b b']
  have gp : 0 < Nat.gcd A b := Nat.gcd_pos_of_pos_right _ hb
  have gp' : 0 < Nat.gcd A' b' := Nat.gcd_pos_of_pos_right _ hb'
  obtain ⟨p, hp⟩ := Nat.gcd_dvd_left A b
  obtain ⟨q, hq⟩ := Nat.gcd_dvd_right A b
  obtain ⟨p', hp'⟩ := Nat.gcd_dvd_left A' b'
  obtain ⟨q', hq'⟩ := Nat.gcd_dvd_right A' b'
  generalize Nat.gcd A b = g at *
  generalize Nat.gcd A' b' = g' at *
  subst hp; subst hq; subst hp'; subst hq'
  rw [Nat.mul_div_cancel_left _ gp, Nat.mul_div_cancel_left _ gp', Nat.mul_div_cancel_left _ gp, Nat.mul_div_cancel_left _ gp']
  have eq : q' = q := by
    have : g * g' * q' = g * g' * q := by grind
    exact Nat.eq_of_mul_eq_mul_left (Nat.mul_pos gp gp') this
  subst eq
  have qp : 0 < q' := by
    rcases Nat.eq_zero_or_pos q' with z | z
    · subst z; simp at hb
    · exact z
  refine ⟨?_, rfl⟩
  have : g * g' * q' * p = g * g' * q' * p' := by grind
  exact Nat.eq_of_mul_eq_mul_left (Nat.mul_pos (Nat.mul_pos gp gp') qp) this
theorem tdiv_abs {a : Int} {g : Nat} : Int.tdiv a (g : Int) = if 0 ≤ a then ((a.natAbs / g : Nat) : Int) else -((a.natAbs / g : Nat) : Int) := by
  by_cases c : 0 ≤ a
  · rw [if_pos c, Int.tdiv_eq_ediv_of_nonneg c]
    have : a = (a.natAbs : Int) := by omega
    rw [this]
    simp
  · rw [if_neg c]
    have e : a.tdiv g = -((-a) / g) := by rw [← Int.tdiv_eq_ediv_of_nonneg (by omega : 0 ≤ -a), Int.neg_tdiv, Int.neg_neg]
    rw [e]
    have : -a = (a.natAbs : Int) := by omega
    rw [this]
    simp
theorem red_same {a b c d what : Int} (hb : 0 < b) (hd : 0 < d) (e : a * d = c * b) : red a b what = red c d what := by
  have en : a.natAbs * d.natAbs = c.natAbs * b.natAbs := by rw [← Int.natAbs_mul, ← Int.natAbs_mul, e]
  have n := nat_red (A := a.natAbs) (b := b.natAbs) (A' := c.natAbs) (b' := d.natAbs) (by omega) (by omega) en
  have sg : 0 ≤ a ↔ 0 ≤ c := by
    constructor
    · intro h
      apply Classical.byContradiction
      intro q
      have := Int.mul_neg_of_neg_of_pos (show c < 0 by omega) hb
      have := Int.mul_nonneg h (show 0 ≤ d by omega)
      omega
    · intro h
      apply Classical.byContradiction
      intro q
      have := Int.mul_neg_of_neg_of_pos (show a < 0 by omega) hd
      have := Int.mul_nonneg h (show 0 ≤ b by omega)
      omega
  unfold red
  rw [tdiv_abs, tdiv_abs, tdiv_abs, tdiv_abs, n.1, n.2]
  by_cases c0 : what = 0
  · rw [if_pos c0, if_pos c0]
    by_cases q : 0 ≤ a
    · rw [if_pos q, if_pos (sg.mp q)]
    · rw [if_neg q, if_neg (fun z => q (sg.mpr z))]
  · rw [if_neg c0, if_neg c0, if_pos (by omega), if_pos (by omega)]
/-- a lead by all weights -/
def Sg (l : V4) (X : V4 → Prop) (a b : Int) : Prop := ∃ w, X w ∧ nv w ∧ a = dt l w ∧ b = dt sG w
/-- by the corners below n -/
def Cg (l : V4) (f : Nat → V4) (n : Nat) (a b : Int) : Prop := ∃ i, i < n ∧ a = dt l (f i) ∧ b = dt sG (f i)
theorem cg_s {l : V4} {f : Nat → V4} {n : Nat} {a b : Int} : (Cg l f n a b ∨ (a = dt l (f n) ∧ b = dt sG (f n))) ↔ Cg l f (n + 1) a b := by
  constructor
  · rintro (⟨i, h, e⟩ | e)
    · exact ⟨i, by omega, e⟩
    · exact ⟨n, by omega, e⟩
  · rintro ⟨i, h, e⟩
    by_cases c : i = n
    · subst c; exact Or.inr e
    · exact Or.inl ⟨i, by omega, e⟩
theorem cg_bd {l : V4} {f : Nat → V4} {n : Nat} {X : V4 → Prop} (hp : Xp X) (hal : ∀ r : V4, (∀ i, i < n → 0 ≤ dt r (f i)) ↔ ∀ w, X w → 0 ≤ dt r w) {a b : Int} (h : ∀ a' b', Cg l f n a' b' → 0 < b' ∧ a' * b ≤ a * b') : ∀ a' b', Sg l X a' b' → 0 < b' ∧ a' * b ≤ a * b' := by
  rintro a' b' ⟨w, hw, hn, e1, e2⟩
  have e : ∀ x, dt (fun m => a * sG m - b * l m) x = a * dt sG x - b * dt l x := fun x => by simp only [dt]; grind
  have := (hal (fun m => a * sG m - b * l m)).mp (fun i hi => by rw [e]; have := (h _ _ ⟨i, hi, rfl, rfl⟩).2; rw [Int.mul_comm] at this; omega) w hw
  rw [e] at this
  subst e1; subst e2
  refine ⟨sG_pos ⟨hp w hw, hn⟩, ?_⟩
  rw [Int.mul_comm (dt l w) b]; omega
/-- what a gap's numbers may be -/
def Fb (a b : Int) : Prop := (-2400000000 ≤ a ∧ a ≤ 2400000000) ∧ 0 < b ∧ b ≤ 24000000
theorem fb_mul {a b c d : Int} (h : Fb a b) (g : Fb c d) : -9223372036854775808 ≤ a * d ∧ a * d < 9223372036854775808 := by
  have := mb (A := 2400000000) (B := 24000000) h.1.1 h.1.2 (show -24000000 ≤ d by have := g.2.1; omega) g.2.2
  omega
theorem fb_of {l w : V4} (hl : bd l) (hw : ∀ m, m < 4 → 0 ≤ w m ∧ w m ≤ 6000000) (hn : nv w) : Fb (dt l w) (dt sG w) := ⟨dt_bd hl hw, sG_pos ⟨fun i hi => (hw i hi).1, hn⟩, (sG_bd hw).2⟩
def Wuv (x y : Nat) : Prop := x = 0 ∧ (y = 37 ∨ y = 38)
theorem rf_uv {A : Nat → Nat → Int} {ζ ζ' : ZS} (h : Rf A ζ) (hf : Fx Wuv ζ ζ') : Rf A ζ' := rf_fx h hf (fun c k hp => by unfold psl at hp; unfold Wuv; omega)
theorem lb_uv {A : Nat → Nat → Int} {ζ ζ' : ZS} {lv q : Nat} {X : V4 → Prop} (h : Lb A ζ lv X q) (hf : Fx Wuv ζ ζ') : Lb A ζ' lv X q := by
  obtain ⟨k, R, n, ρ, a1, a2, a3, a4, a5, a6⟩ := h
  have e : ∀ i, rf ζ' lv i = rf ζ lv i := fun i => by funext m; exact (hf.1 22 _ (by unfold Wuv; omega)).2
  refine ⟨k, R, n, ρ, a1, fun b hb m hm => ?_, a3, a4, a5, by rw [(hf.1 20 lv (by unfold Wuv; omega)).1]; exact a6.1, by rw [(hf.1 21 lv (by unfold Wuv; omega)).1]; exact a6.2.1, ?_⟩
  · rw [← a2 b hb m hm]; exact (hf.1 19 _ (by unfold Wuv; omega)).2
  · have : rf ζ' lv = rf ζ lv := funext e
    rw [this]; exact a6.2.2
theorem uv_25 {ζ ζ' : ZS} (h : Fx Wuv ζ ζ') : Fx (fun x _ => x < 25 ∧ x ≠ 5) ζ ζ' := fx_mono h (fun x y g => by unfold Wuv at g; show x < 25 ∧ x ≠ 5; omega)
theorem s_findGap {A : Nat → Nat → Int} {ζ : ZS} (h : Rf A ζ) (hW : Wall A) {a b : Nat} {z y : Int} {X : V4 → Prop} (hz : z = a) (hy : y = b) (ha : a < 8) (hb : b < 8) (hL : Lb A ζ 0 X 12) (hp : Xp X) (hX : NV X) : Ok (g_X12_findGap z y ζ) (fun ζ' => Fu (Sg (leadv A b a) X) (ζ'.2.1 0 37) (ζ'.2.1 0 38) ∧ Fb (ζ'.2.1 0 37) (ζ'.2.1 0 38) ∧ Fx Wuv ζ ζ') := by
  obtain ⟨n, hn, n44, hne, hpt, hal⟩ := lb_n hL (by omega)
  have hn0 : 0 < n := hne.mpr hX
  have h32 := hW.2.2.2.2.1
  have t0 : Int.toNat 0 = 0 := rfl
  have fbi : ∀ i, i < n → Fb (dt (leadv A b a) (rf ζ 0 i)) (dt sG (rf ζ 0 i)) := fun i hi => fb_of (leadv_bd hW.1 hb ha) (hpt i hi).2.2.1 (hpt i hi).2.1
  have key : ∀ (m : Nat) (w : Int) (c : Nat) (ζ1 : ZS), w = c → c ≤ n → n - c < m → Fx Wuv ζ ζ1 → (0 < c → Fu (Cg (leadv A b a) (rf ζ 0) c) (ζ1.2.1 0 37) (ζ1.2.1 0 38) ∧ Fb (ζ1.2.1 0 37) (ζ1.2.1 0 38)) → Ok (g_X12_findGap_2 z y m w ζ1) (fun ζ' => Fu (Sg (leadv A b a) X) (ζ'.2.1 0 37) (ζ'.2.1 0 38) ∧ Fb (ζ'.2.1 0 37) (ζ'.2.1 0 38) ∧ Fx Wuv ζ ζ') := by
    intro m
    induction m with
    | zero => intro _ _ _ _ _ h; omega
    | succ m ih =>
      intro w c ζ1 hw hc hm hf hold
      subst hw
      have h1 := rf_uv h hf
      have er : ∀ i, rf ζ1 0 i = rf ζ 0 i := fun i => by funext x; exact (hf.1 22 _ (by unfold Wuv; omega)).2
      unfold g_X12_findGap_2 g_X12_findGap_52 g_X12_findGap_64
      rw [t0, (hf.1 20 0 (by unfold Wuv; omega)).1, hn]
      refine ok_gk (by omega) (by omega) (ok_gI (by omega) (by omega) (by omega) (by omega) (fun g => ?_) (fun g => ?_))
      · have ec : c = n := by omega
        subst ec
        have o := hold hn0
        refine ok_some ⟨fu_ext o.1 (fun a' b' ⟨i, hi, e1, e2⟩ => ⟨_, (hpt i hi).1, (hpt i hi).2.1, e1, e2⟩) (cg_bd hp hal o.1.2.2), o.2, hf⟩
      · have hcn : c < n := by omega
        have z0 : ∀ m : Nat, m < 4 → A 0 20 ≤ (m : Int) → rf ζ1 0 c m = 0 := fun m g1 g2 => by rw [er]; exact (hpt c hcn).2.2.2 m g1 g2
        have fc := fbi c hcn
        refine ok_beq (s_aboveAt h1 hW.1 hW.2.2.2.1 (a := b) (b := a) (lv := 0) (c := c) hy hz rfl rfl hb ha (by omega) (by omega) z0) (ok_beq (s_sumAt h1 hW.1 (lv := 0) (c := c) rfl rfl (by omega) (by omega) z0) ?_)
        rw [abv_lead h32, er]
        dsimp only
        have take : (0 < c → ζ1.2.1 0 37 * dt sG (rf ζ 0 c) ≤ dt (leadv A b a) (rf ζ 0 c) * ζ1.2.1 0 38) → Ok (g_X12_findGap_2 z y m ((c : Int) + 1) (zJ (zJ ζ1 0 37 (dt (leadv A b a) (rf ζ 0 c))) 0 38 (dt sG (rf ζ 0 c)))) (fun ζ' => Fu (Sg (leadv A b a) X) (ζ'.2.1 0 37) (ζ'.2.1 0 38) ∧ Fb (ζ'.2.1 0 37) (ζ'.2.1 0 38) ∧ Fx Wuv ζ ζ') := by
          intro hle
          refine ih _ (c + 1) _ (by omega) (by omega) (by omega) (fx_J (fx_J hf (Or.inl rfl |> fun q => ⟨rfl, q⟩)) ⟨rfl, Or.inr rfl⟩) (fun _ => ?_)
          have e37 : (zJ (zJ ζ1 0 37 (dt (leadv A b a) (rf ζ 0 c))) 0 38 (dt sG (rf ζ 0 c))).2.1 0 37 = dt (leadv A b a) (rf ζ 0 c) := by rw [zJ_2, if_neg (by omega), zJ_2, if_pos ⟨rfl, rfl⟩]
          have e38 : (zJ (zJ ζ1 0 37 (dt (leadv A b a) (rf ζ 0 c))) 0 38 (dt sG (rf ζ 0 c))).2.1 0 38 = dt sG (rf ζ 0 c) := by rw [zJ_2, if_pos ⟨rfl, rfl⟩]
          rw [e37, e38]
          refine ⟨?_, fc⟩
          rcases Nat.eq_zero_or_pos c with z | z
          · subst z
            exact fu_iff (fu_one fc.2.1) (fun x y => ⟨fun q => ⟨0, by omega, q⟩, fun ⟨i, hi, q⟩ => by rw [show i = 0 by omega] at q; exact q⟩)
          · exact fu_iff (fu_r (hold z).1 (fu_one fc.2.1) (hle z)) (fun x y => cg_s)
        refine ok_gI (by omega) (by omega) (by omega) (by omega) (fun g0 => take (fun q => by omega)) (fun g0 => ?_)
        have c0 : 0 < c := by omega
        have o := hold c0
        have m1 := fb_mul fc o.2
        have m2 := fb_mul o.2 fc
        refine ok_gJ m1.1 m1.2 m2.1 m2.2 (fun q => ih _ (c + 1) ζ1 (by omega) (by omega) (by omega) hf (fun _ => ⟨fu_iff (fu_l o.1 (fu_one fc.2.1) q) (fun x y => cg_s), o.2⟩)) (fun q => take (fun _ => by omega))
  unfold g_X12_findGap
  exact key FU 0 0 ζ rfl (by omega) (by rw [FU_e]; omega) (fx_refl _ _) (fun q => by omega)
/-- regrets -/
def Rgt (A : Nat → Nat → Int) (X : V4 → Prop) (t : Nat) (a b : Int) : Prop := (a = 0 ∧ b = 1) ∨ ∃ u, u < 8 ∧ inb A u = true ∧ Sg (leadv A u t) X a b
theorem dt_self (A : Nat → Nat → Int) (t : Nat) (w : V4) : dt (leadv A t t) w = 0 := by rw [dt_lead]; omega
theorem s_findRegret {A : Nat → Nat → Int} {ζ : ZS} (h : Rf A ζ) (hW : Wall A) {t : Nat} {z : Int} {X : V4 → Prop} (hz : z = t) (ht : t < 8) (hL : Lb A ζ 0 X 12) (hp : Xp X) (hX : NV X) : Ok (g_X12_findRegret z ζ) (fun ζ' => Fu (Rgt A X t) (ζ'.2.1 0 37) (ζ'.2.1 0 38) ∧ Fb (ζ'.2.1 0 37) (ζ'.2.1 0 38) ∧ Fx Wuv ζ ζ') := by
  subst hz
  let S : Nat → Int → Int → Prop := fun j a b => (a = 0 ∧ b = 1) ∨ ∃ u, u < j ∧ u ≠ t ∧ inb A u = true ∧ Sg (leadv A u t) X a b
  have key : ∀ (m : Nat) (a b w : Int) (j : Nat) (ζ1 : ZS), w = j → j ≤ 8 → 8 - j < m → Fx Wuv ζ ζ1 → Fu (S j) a b → Fb a b → Ok (g_X12_findRegret_8 (t : Int) m a b w ζ1) (fun ζ' => Fu (Rgt A X t) (ζ'.2.1 0 37) (ζ'.2.1 0 38) ∧ Fb (ζ'.2.1 0 37) (ζ'.2.1 0 38) ∧ Fx Wuv ζ ζ') := by
    intro m
    induction m with
    | zero => intro _ _ _ _ _ _ _ h; omega
    | succ m ih =>
      intro a b w j ζ1 hw hj hm hf hfu hfb
      subst hw
      have h1 := rf_uv h hf
      unfold g_X12_findRegret_8 g_X12_findRegret_65
      have skip : ∀ ζ2, Fx Wuv ζ ζ2 → ¬ (j ≠ t ∧ inb A j = true) → j < 8 → Ok (g_X12_findRegret_8 (t : Int) m a b ((j : Int) + 1) ζ2) (fun ζ' => Fu (Rgt A X t) (ζ'.2.1 0 37) (ζ'.2.1 0 38) ∧ Fb (ζ'.2.1 0 37) (ζ'.2.1 0 38) ∧ Fx Wuv ζ ζ') := fun ζ2 hf2 hn hj8 => ih a b _ (j + 1) ζ2 (by omega) (by omega) (by omega) hf2 (fu_iff hfu (fun x y => ⟨fun q => by
          rcases q with q | ⟨u, q1, q2⟩
          · exact Or.inl q
          · exact Or.inr ⟨u, by omega, q2⟩, fun q => by
          rcases q with q | ⟨u, q1, q2, q3, q4⟩
          · exact Or.inl q
          · refine Or.inr ⟨u, ?_, q2, q3, q4⟩
            apply Classical.byContradiction
            intro c
            have : u = j := by omega
            subst this
            exact hn ⟨q2, q3⟩⟩)) hfb
      refine ok_gI (by omega) (by omega) (by omega) (by omega) (fun g => ok_some ?_) (fun g => ?_)
      · have e37 : (zJ (zJ ζ1 0 37 a) 0 38 b).2.1 0 37 = a := by rw [zJ_2, if_neg (by omega), zJ_2, if_pos ⟨rfl, rfl⟩]
        have e38 : (zJ (zJ ζ1 0 37 a) 0 38 b).2.1 0 38 = b := by rw [zJ_2, if_pos ⟨rfl, rfl⟩]
        rw [e37, e38]
        refine ⟨fu_ext hfu (fun x y q => ?_) (fun x y q => ?_), hfb, fx_J (fx_J hf ⟨rfl, Or.inl rfl⟩) ⟨rfl, Or.inr rfl⟩⟩
        · rcases q with q | ⟨u, q1, q2, q3, q4⟩
          · exact Or.inl q
          · exact Or.inr ⟨u, by omega, q3, q4⟩
        · have p0 := (hfu.2.2 0 1 (Or.inl ⟨rfl, rfl⟩)).2
          rcases q with q | ⟨u, q1, q3, q4⟩
          · exact hfu.2.2 x y (Or.inl q)
          · by_cases c : u = t
            · subst c
              obtain ⟨w, w1, w2, w3, w4⟩ := q4
              rw [dt_self] at w3
              subst w3; subst w4
              have sp := sG_pos ⟨hp w w1, w2⟩
              refine ⟨sp, ?_⟩
              have := Int.mul_nonneg (show 0 ≤ a by omega) (show 0 ≤ dt sG w by omega)
              omega
            · exact hfu.2.2 x y (Or.inr ⟨u, by omega, c, q3, q4⟩)
      · have hj8 : j < 8 := by omega
        refine ok_gI (by omega) (by omega) (by omega) (by omega) (fun g1 => skip ζ1 hf (fun q => q.1 (by omega)) hj8) (fun g1 => ok_beq (s_isInN h1 hW.1 rfl hj8) (ok_bi (fun e => skip ζ1 hf (fun q => by rw [e] at q; cases q.2) hj8) (fun e => ?_)))
        refine ok_bind (s_findGap h1 hW (a := t) (b := j) rfl rfl ht hj8 (lb_uv hL hf) hp hX) (fun ζ2 ⟨q1, q2, q3⟩ => ?_)
        have f2 := fx_trans hf q3
        have m1 := fb_mul q2 hfb
        have m2 := fb_mul hfb q2
        have es : ∀ x y, (S j x y ∨ Sg (leadv A j t) X x y) ↔ S (j + 1) x y := fun x y => ⟨fun q => by
          rcases q with (q | ⟨u, a1, a2⟩) | q
          · exact Or.inl q
          · exact Or.inr ⟨u, by omega, a2⟩
          · exact Or.inr ⟨j, by omega, by omega, e, q⟩, fun q => by
          rcases q with q | ⟨u, a1, a2, a3, a4⟩
          · exact Or.inl (Or.inl q)
          · by_cases c : u = j
            · subst c; exact Or.inr a4
            · exact Or.inl (Or.inr ⟨u, by omega, a2, a3, a4⟩)⟩
        exact ok_gJ m1.1 m1.2 m2.1 m2.2 (fun q => ih _ _ _ (j + 1) ζ2 (by omega) (by omega) (by omega) f2 (fu_iff (fu_l hfu q1 q) es) hfb) (fun q => ih _ _ _ (j + 1) ζ2 (by omega) (by omega) (by omega) f2 (fu_iff (fu_r hfu q1 (by omega)) es) q2)
  unfold g_X12_findRegret
  refine key FU 0 1 0 0 ζ rfl (by omega) (by rw [FU_e]; omega) (fx_refl _ _) (fu_iff (fu_one (by omega)) (fun x y => ⟨fun q => Or.inl q, fun q => ?_⟩)) ⟨⟨by omega, by omega⟩, by omega, by omega⟩
  rcases q with q | ⟨u, q1, _⟩
  · exact q
  · omega
/-- a regret, as a fraction -/
def QRg (A : Nat → Nat → Int) (z y v : Int) : Prop := ((inz A z = true ∧ (0 ≤ y ∧ y ≤ 1) ∧ NV (Sc A (hrd A))) ∧ ∃ a b, Fu (Rgt A (Sc A (hrd A)) z.toNat) a b ∧ v = red a b y) ∨ (¬ (inz A z = true ∧ (0 ≤ y ∧ y ≤ 1) ∧ NV (Sc A (hrd A))) ∧ v = -1)
theorem qrg_fun {A : Nat → Nat → Int} {z y v w : Int} (h : QRg A z y v) (g : QRg A z y w) : v = w := by
  rcases h with ⟨p, a, b, q, r⟩ | ⟨p, q⟩ <;> rcases g with ⟨p', a', b', q', r'⟩ | ⟨p', q'⟩
  · rw [r, r']; exact red_same q.2.1 q'.2.1 (fu_eq q q')
  · exact absurd p p'
  · exact absurd p' p
  · omega
theorem s_redR {ζ : ZS} {what : Int} (hw : r32 what) (hf : Fb (ζ.2.1 0 37) (ζ.2.1 0 38)) : Ok ((g_X12_common (ζ.2.1 0 37) (ζ.2.1 0 38) ζ).bind fun q6 => gI what 0 (what = 0) (gdJ (q6.2.2.1 0 37) q6.1 (some (Int.tdiv (q6.2.2.1 0 37) q6.1, q6.2))) (gdJ (q6.2.2.1 0 38) q6.1 (some (Int.tdiv (q6.2.2.1 0 38) q6.1, q6.2)))) (fun r => r.2 = ζ ∧ r.1 = red (ζ.2.1 0 37) (ζ.2.1 0 38) what) := by
  have b1 := hf.1
  have b2 := hf.2
  refine ok_beq (s_rcd ζ (by omega) (by omega)) ?_
  dsimp only
  have gp := gcd_pos (a := ζ.2.1 0 37) b2.1
  have gl := gcd_le (a := ζ.2.1 0 37) b2.1
  refine ok_gI hw.1 hw.2 (by omega) (by omega) (fun g => ok_gdJ (by omega) (by omega) gp (by omega) (ok_some ⟨rfl, ?_⟩)) (fun g => ok_gdJ (by omega) (by omega) gp (by omega) (ok_some ⟨rfl, ?_⟩))
  · unfold red; rw [if_pos g]
  · unfold red; rw [if_neg g]
theorem a_regret {A : Nat → Nat → Int} {ζ : ZS} (h : Rf A ζ) (hW : Wall A) {z y : Int} (hz : r32 z) (hy : r32 y) : Ok (g_X12_regret z y ζ) (RP A ζ (QRg A z y)) := by
  have f0 : Fx (fun x _ => x < 25 ∧ x ≠ 5) ζ (zI ζ 0 0 0) := fx_I (fx_refl _ _) (by decide)
  have h0 := rf_0 h 0
  unfold g_X12_regret g_X12_regret_29 g_X12_regret_69
  refine ok_beq (s_isThingIn h0 hW.1 hz) (ok_bi (fun e => ok_some (rp_same h (Or.inr ⟨fun q => (by have := q.1; rw [e] at this; cases this), rfl⟩))) (fun e => ?_))
  have iz := inz_r e
  refine ok_beq (s_within _ hy (by omega) (by omega)) (ok_bi (fun e3 => ok_some (rp_same h (Or.inr ⟨fun q => bd_f e3 q.2.1, rfl⟩))) (fun e3 => ?_))
  refine ok_bind (s_findNow h0 hW) (fun r ⟨lw, hr, hf, r01, r1⟩ => ?_)
  have f1 := fx_trans f0 (wq_25 hf)
  refine ok_gI (by omega) (by omega) (by omega) (by omega) (fun g => ok_some ⟨Or.inr ⟨fun q => (by have := r1.mpr q.2.2; omega), rfl⟩, hr, f1⟩) (fun g => ?_)
  have hcan := r1.mp (by omega)
  refine ok_bind (s_findRegret hr hW (t := z.toNat) (by omega) (by omega) lw.1 sc_xp hcan) (fun ζ2 ⟨q1, q2, q3⟩ => ?_)
  refine ok_mono (s_redR hy q2) (fun s ⟨s1, s2⟩ => ⟨Or.inl ⟨⟨e, bd_t e3, hcan⟩, _, _, q1, s2⟩, by rw [s1]; exact rf_uv hr q3, by rw [s1]; exact fx_trans f1 (uv_25 q3)⟩)
/-- the least regret: the first of those -/
def QLe (A : Nat → Nat → Int) (X : V4 → Prop) (v : Int) : Prop := (∃ t : Nat, v = t ∧ t < 8 ∧ inb A t = true ∧ ∃ a b, Fu (Rgt A X t) a b ∧ ∀ u, u < 8 → inb A u = true → ∃ c d, Fu (Rgt A X u) c d ∧ a * d ≤ c * b ∧ (u < t → a * d < c * b)) ∨ ((∀ u, u < 8 → inb A u = false) ∧ v = -1)
theorem qle_lt {A : Nat → Nat → Int} {X : V4 → Prop} {t t' : Nat} {a b a' b' : Int} (h1 : Fu (Rgt A X t) a b) (h2 : ∀ u, u < 8 → inb A u = true → ∃ c d, Fu (Rgt A X u) c d ∧ a * d ≤ c * b ∧ (u < t → a * d < c * b)) (g1 : Fu (Rgt A X t') a' b') (g2 : ∀ u, u < 8 → inb A u = true → ∃ c d, Fu (Rgt A X u) c d ∧ a' * d ≤ c * b' ∧ (u < t' → a' * d < c * b')) (ht : t < 8) (hi : inb A t = true) (ht' : t' < 8) (hi' : inb A t' = true) : ¬ t < t' := by
  intro lt
  obtain ⟨c, d, p1, p2, _⟩ := h2 t' ht' hi'
  obtain ⟨c', d', p1', _, p3'⟩ := g2 t ht hi
  have s := p3' lt
  have e1 := fu_eq h1 p1'
  have e2 := fu_eq g1 p1
  have q1 : a * b' ≤ a' * b := fr_trans h1.2.1 p1.2.1 g1.2.1 p2 (by omega)
  have q2 : c' * b' ≤ a' * d' := fr_trans p1'.2.1 h1.2.1 g1.2.1 (by omega) q1
  omega
theorem qle_fun {A : Nat → Nat → Int} {X : V4 → Prop} {v w : Int} (h : QLe A X v) (g : QLe A X w) : v = w := by
  rcases h with ⟨t, h1, h2, h3, a, b, h4, h5⟩ | ⟨h1, h2⟩ <;> rcases g with ⟨t', g1, g2, g3, a', b', g4, g5⟩ | ⟨g1, g2⟩
  · have n1 := qle_lt h4 h5 g4 g5 h2 h3 g2 g3
    have n2 := qle_lt g4 g5 h4 h5 g2 g3 h2 h3
    omega
  · rw [g1 t h2] at h3; cases h3
  · rw [h1 t' g2] at g3; cases g3
  · omega
/-- the least so far -/
def Lf (A : Nat → Nat → Int) (X : V4 → Prop) (j : Nat) (v a b : Int) : Prop := (v = -1 ∧ ∀ u, u < j → inb A u = false) ∨ (∃ t : Nat, v = t ∧ t < j ∧ inb A t = true ∧ Fu (Rgt A X t) a b ∧ Fb a b ∧ ∀ u, u < j → inb A u = true → ∃ c d, Fu (Rgt A X u) c d ∧ a * d ≤ c * b ∧ (u < t → a * d < c * b))
theorem lf_skip {A : Nat → Nat → Int} {X : V4 → Prop} {j : Nat} {v a b : Int} (h : Lf A X j v a b) (hj : inb A j = false) : Lf A X (j + 1) v a b := by
  have up' : ∀ u, u < j + 1 → inb A u = true → u < j := fun u hu hi => by
    apply Classical.byContradiction
    intro c
    have : u = j := by omega
    subst this
    rw [hj] at hi; cases hi
  rcases h with ⟨h1, h2⟩ | ⟨t, h1, h2, h3, h4, h5, h6⟩
  · refine Or.inl ⟨h1, fun u hu => ?_⟩
    by_cases c : u = j
    · subst c; exact hj
    · exact h2 u (by omega)
  · exact Or.inr ⟨t, h1, by omega, h3, h4, h5, fun u hu hi => h6 u (up' u hu hi) hi⟩
theorem lf_keep {A : Nat → Nat → Int} {X : V4 → Prop} {j : Nat} {v a b c d : Int} (h : Lf A X j v a b) (hv : v ≠ -1) (g : Fu (Rgt A X j) c d) (q : a * d ≤ c * b) : Lf A X (j + 1) v a b := by
  rcases h with ⟨h1, h2⟩ | ⟨t, h1, h2, h3, h4, h5, h6⟩
  · exact absurd h1 hv
  · refine Or.inr ⟨t, h1, by omega, h3, h4, h5, fun u hu hi => ?_⟩
    by_cases e : u = j
    · subst e; exact ⟨c, d, g, q, fun z => by omega⟩
    · exact h6 u (by omega) hi
theorem lf_take {A : Nat → Nat → Int} {X : V4 → Prop} {j : Nat} {v a b c d : Int} (h : Lf A X j v a b) (hj : inb A j = true) (g : Fu (Rgt A X j) c d) (gb : Fb c d) (q : v ≠ -1 → c * b < a * d) : Lf A X (j + 1) j c d := by
  refine Or.inr ⟨j, rfl, by omega, hj, g, gb, fun u hu hi => ?_⟩
  by_cases e : u = j
  · subst e; exact ⟨c, d, g, Int.le_refl _, fun z => by omega⟩
  · rcases h with ⟨h1, h2⟩ | ⟨t, h1, h2, h3, h4, h5, h6⟩
    · rw [h2 u (by omega)] at hi; cases hi
    · obtain ⟨c', d', p1, p2, _⟩ := h6 u (by omega) hi
      have lt := q (by omega)
      have st : c * d' < c' * d := by
        apply Classical.byContradiction
        intro n
        have z : a * d ≤ c * b := fr_trans h4.2.1 p1.2.1 g.2.1 p2 (by omega)
        omega
      exact ⟨c', d', p1, by omega, fun _ => st⟩
theorem lf_end {A : Nat → Nat → Int} {X : V4 → Prop} {v a b : Int} (h : Lf A X 8 v a b) : QLe A X v := by
  rcases h with ⟨h1, h2⟩ | ⟨t, h1, h2, h3, h4, h5, h6⟩
  · exact Or.inr ⟨h2, h1⟩
  · exact Or.inl ⟨t, h1, h2, h3, a, b, h4, h6⟩
def QL (A : Nat → Nat → Int) (v : Int) : Prop := (NV (Sc A (hrd A)) ∧ QLe A (Sc A (hrd A)) v) ∨ (¬ NV (Sc A (hrd A)) ∧ v = -1)
theorem ql_fun {A : Nat → Nat → Int} {v w : Int} (h : QL A v) (g : QL A w) : v = w := by
  rcases h with ⟨p, q⟩ | ⟨p, q⟩ <;> rcases g with ⟨p', q'⟩ | ⟨p', q'⟩
  · exact qle_fun q q'
  · exact absurd p p'
  · exact absurd p' p
  · omega
theorem a_least {A : Nat → Nat → Int} {ζ : ZS} (h : Rf A ζ) (hW : Wall A) : Ok (g_X12_least ζ) (RP A ζ (QL A)) := by
  have f0 : Fx (fun x _ => x < 25 ∧ x ≠ 5) ζ (zI ζ 0 0 0) := fx_I (fx_refl _ _) (by decide)
  have h0 := rf_0 h 0
  unfold g_X12_least
  refine ok_bind (s_findNow h0 hW) (fun r ⟨lw, hr, hf, r01, r1⟩ => ?_)
  have f1 := fx_trans f0 (wq_25 hf)
  refine ok_gI (by omega) (by omega) (by omega) (by omega) (fun g => ok_some ⟨Or.inr ⟨fun q => (by have := r1.mpr q; omega), rfl⟩, hr, f1⟩) (fun g => ?_)
  have hcan := r1.mp (by omega)
  generalize r.2 = ζ0 at lw hr hf f1
  have key : ∀ (m : Nat) (v a b w : Int) (j : Nat) (ζ1 : ZS), w = j → j ≤ 8 → 8 - j < m → Fx Wuv ζ0 ζ1 → Lf A (Sc A (hrd A)) j v a b → Ok (g_X12_least_24 m v a b w ζ1) (RP A ζ (QL A)) := by
    intro m
    induction m with
    | zero => intro _ _ _ _ _ _ _ _ h; omega
    | succ m ih =>
      intro v a b w j ζ1 hw hj hm hf1 hl
      subst hw
      have h1 := rf_uv hr hf1
      have vb : -1 ≤ v ∧ v ≤ 8 := by rcases hl with ⟨q, _⟩ | ⟨t, q, q2, _⟩ <;> omega
      unfold g_X12_least_24 g_X12_least_81 g_X12_least_67
      refine ok_gI (by omega) (by omega) (by omega) (by omega) (fun g => ok_some ⟨Or.inl ⟨hcan, lf_end (by rw [show j = 8 by omega] at hl; exact hl)⟩, h1, fx_trans f1 (uv_25 hf1)⟩) (fun g => ok_beq (s_isInN h1 hW.1 rfl (by omega)) (ok_bi (fun e => ih _ _ _ _ (j + 1) ζ1 (by omega) (by omega) (by omega) hf1 (lf_skip hl e)) (fun e => ?_)))
      refine ok_bind (s_findRegret h1 hW (t := j) rfl (by omega) (lb_uv lw.1 hf1) sc_xp hcan) (fun ζ2 ⟨q1, q2, q3⟩ => ?_)
      have f2 := fx_trans hf1 q3
      refine ok_gI (by omega) (by omega) (by omega) (by omega) (fun g1 => ih _ _ _ _ (j + 1) ζ2 (by omega) (by omega) (by omega) f2 (lf_take hl e q1 q2 (fun c => by omega))) (fun g1 => ?_)
      have fb : Fb a b := by rcases hl with ⟨q, _⟩ | ⟨t, _, _, _, _, q, _⟩; omega; exact q
      have m1 := fb_mul fb q2
      have m2 := fb_mul q2 fb
      exact ok_gJ m1.1 m1.2 m2.1 m2.2 (fun q => ih _ _ _ _ (j + 1) ζ2 (by omega) (by omega) (by omega) f2 (lf_keep hl (by omega) q1 q)) (fun q => ih _ _ _ _ (j + 1) ζ2 (by omega) (by omega) (by omega) f2 (lf_take hl e q1 q2 (fun _ => by omega)))
  exact key FU (-1) 0 1 0 0 ζ0 rfl (by omega) (by rw [FU_e]; omega) (fx_refl _ _) (Or.inl ⟨rfl, fun u hu => by omega⟩)
/-- a gap, as a fraction; else the call is refused -/
def gpC (A : Nat → Nat → Int) (x y z : Int) : Prop := two A x y = true ∧ (0 ≤ z ∧ z ≤ 1) ∧ NV (Sc A (hrd A))
def QGp (A : Nat → Nat → Int) (x y z thr v : Int) : Prop := (gpC A x y z ∧ thr = 0 ∧ ∃ a b, Fu (Sg (leadv A y.toNat x.toNat) (Sc A (hrd A))) a b ∧ v = red a b z) ∨ (¬ gpC A x y z ∧ thr = 1)
theorem qgp_fun {A : Nat → Nat → Int} {x y z s t v w : Int} (h : QGp A x y z s v) (g : QGp A x y z t w) : s = t ∧ (s = 0 → v = w) := by
  rcases h with ⟨p, q, a, b, r, e⟩ | ⟨p, q⟩ <;> rcases g with ⟨p', q', a', b', r', e'⟩ | ⟨p', q'⟩
  · refine ⟨by omega, fun _ => ?_⟩
    rw [e, e']; exact red_same r.2.1 r'.2.1 (fu_eq r r')
  · exact absurd p p'
  · exact absurd p' p
  · exact ⟨by omega, fun c => by omega⟩
theorem a_gap {A : Nat → Nat → Int} {ζ : ZS} (h : Rf A ζ) (hW : Wall A) {x y z : Int} (hx : r32 x) (hy : r32 y) (hz : r32 z) : Ok (g_X12_gap x y z ζ) (fun r => RP A ζ (QGp A x y z (r.2.1 0 0)) r) := by
  unfold g_X12_gap
  have no : ∀ ζ1, Rf A ζ1 → Fx (fun x _ => x < 25 ∧ x ≠ 5) ζ ζ1 → ¬ gpC A x y z → Ok (g_X12_gap_30 x y z ζ1) (fun r => RP A ζ (QGp A x y z (r.2.1 0 0)) r) := fun ζ1 h1 f1 hn => by
    unfold g_X12_gap_30 g_X12_gap_31
    have e : (zI ζ1 0 0 1).1 0 0 = 1 := by rw [zI_1, if_pos ⟨rfl, rfl⟩]
    rw [e]
    exact ok_gI (by omega) (by omega) (by omega) (by omega) (fun q => by omega) (fun _ => ok_some ⟨Or.inr ⟨hn, e⟩, rf_0 h1 1, fx_I f1 (show 0 < 25 ∧ 0 ≠ 5 by decide)⟩)
  refine ok_beq (s_areTwo h hW.1 hx hy) (ok_bi (fun e => no ζ h (fx_refl _ _) (fun q => by have := q.1; rw [e] at this; cases this)) (fun e => ?_))
  have e2 := e
  unfold two at e2
  simp only [Bool.and_eq_true] at e2
  have ix := inz_r e2.1.1
  have iy := inz_r e2.1.2
  refine ok_beq (s_within _ hz (by omega) (by omega)) (ok_bi (fun e3 => no ζ h (fx_refl _ _) (fun q => bd_f e3 q.2.1)) (fun e3 => ?_))
  refine ok_bind (s_findNow h hW) (fun r ⟨lw, hr, hf, r01, r1⟩ => ?_)
  have f1 := wq_25 hf
  refine ok_gI (by omega) (by omega) (by omega) (by omega) (fun g => no r.2 hr f1 (fun q => by have := r1.mpr q.2.2; omega)) (fun g => ?_)
  have hcan := r1.mp (by omega)
  unfold g_X12_gap_31 g_X12_gap_83
  have e0 : (zI r.2 0 0 0).1 0 0 = 0 := by rw [zI_1, if_pos ⟨rfl, rfl⟩]
  rw [e0]
  refine ok_gI (by omega) (by omega) (by omega) (by omega) (fun _ => ?_) (fun q => by omega)
  refine ok_bind (s_findGap (rf_0 hr 0) hW (a := x.toNat) (b := y.toNat) (by omega) (by omega) (by omega) (by omega) (lb_z0 lw.1) sc_xp hcan) (fun ζ2 ⟨q1, q2, q3⟩ => ?_)
  refine ok_mono (s_redR hz q2) (fun s ⟨s1, s2⟩ => ⟨Or.inl ⟨⟨e, bd_t e3, hcan⟩, ?_, _, _, q1, s2⟩, by rw [s1]; exact rf_uv (rf_0 hr 0) q3, by rw [s1]; exact fx_trans (fx_I f1 (show 0 < 25 ∧ 0 ≠ 5 by decide)) (uv_25 q3)⟩)
  rw [s1, (q3.1 0 0 (by unfold Wuv; omega)).1]; exact e0
