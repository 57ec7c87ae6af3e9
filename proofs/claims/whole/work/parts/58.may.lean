/-! who may be best: the reference -/
def ful (A : Nat → Nat → Int) (X : V4 → Prop) (t e : Nat) (w : V4) : Prop := X w ∧ ∀ u, u < e → u ≠ t → inb A u = true → 0 ≤ dt (abv A t u) w
def may (A : Nat → Nat → Int) (X : V4 → Prop) (t : Nat) : Prop := NV (ful A X t 8)
def Wm (lv R : Nat) (x y : Nat) : Prop := (x = 19 ∧ 4 * R ≤ y) ∨ (x = 0 ∧ y = 26) ∨ (x = 20 ∧ lv < y) ∨ (x = 21 ∧ lv < y) ∨ (x = 22 ∧ 288 * lv + 288 ≤ y) ∨ x = 23
theorem wm_mono {lv R lv' R' : Nat} (h1 : lv ≤ lv') (h2 : R ≤ R') : ∀ x y, Wm lv' R' x y → Wm lv R x y := fun x y g => by unfold Wm at *; omega
theorem rf_Wm {A : Nat → Nat → Int} {ζ ζ' : ZS} {lv R : Nat} (h : Rf A ζ) (hf : Fx (Wm lv R) ζ ζ') : Rf A ζ' := rf_fx h hf (fun c k hp => by unfold psl at hp; unfold Wm; omega)
theorem wm_25 {ζ ζ' : ZS} {lv R : Nat} (h : Fx (Wm lv R) ζ ζ') : Fx (fun x _ => x < 25 ∧ x ≠ 5) ζ ζ' := fx_mono h (fun x y g => by unfold Wm at g; show x < 25 ∧ x ≠ 5; omega)
theorem lb_fx {A : Nat → Nat → Int} {ζ ζ' : ZS} {lv q R : Nat} {X : V4 → Prop} (h : Lb A ζ lv X q) (hq : q ≤ 20) (hR : ζ.1 21 lv = R) (hf : Fx (Wm lv R) ζ ζ') : Lb A ζ' lv X q ∧ ζ'.1 21 lv = R := by
  obtain ⟨k, R', n, ρ, hk, hr, hRk, hRs, hsem, hL⟩ := h
  have e : R' = R := by have := hL.2.1; omega
  subst e
  have h4 := hRk.2.1
  have n44 := (cntR hRk (by omega) hL.2.2.1 hL.2.2.2.1).1
  have e21 : ζ'.1 21 lv = R' := by rw [(hf.1 21 lv (by unfold Wm; omega)).1]; exact hL.2.1
  refine ⟨⟨k, R', n, ρ, hk, fun b hb m hm => ?_, hRk, hRs, hsem, by rw [(hf.1 20 lv (by unfold Wm; omega)).1]; exact hL.1, e21, isc_e4 Ak_pos hL.2.2 (fun i hi m hm => ?_)⟩, e21⟩
  · rw [← hr b hb m hm]; exact (hf.1 19 _ (by unfold Wm; omega)).2
  · exact ((hf.1 22 _ (by unfold Wm; omega)).2).symm
/-- one row more, one level deeper -/
theorem s_deeper {A : Nat → Nat → Int} {ζ : ZS} (h : Rf A ζ) (hw : Wa A) (hx : Wx A) {a b q lv R : Nat} {z y x : Int} {X : V4 → Prop} (hz : z = a) (hy : y = b) (hxl : x = lv) (ha : a < 8) (hb : b < 8) (hl : lv + 1 < 12) (hL : Lw A ζ lv X q) (hq : q ≤ 19) (hR : ζ.1 21 lv = R) : Ok ((g_X12_addsAbove z y ζ).bind (fun q3 => g_X12_findMore (x + 1) q3)) (fun ζ' => Lw A ζ' (lv + 1) (fun w => X w ∧ 0 ≤ dt (abv A a b) w) (q + 1) ∧ Rf A ζ' ∧ Fx (Wm lv R) ζ ζ' ∧ (R : Int) ≤ ζ'.1 21 (lv + 1)) := by
  obtain ⟨⟨k, R', n, ρ, hk, hrr, hRk, hRs, hsem, hLv⟩, h26⟩ := hL
  have e : R' = R := by have := hLv.2.1; omega
  subst e
  have h4 := hRk.2.1
  have hk1 := hRk.2.2.1
  have hRw : Rw ζ k R' ρ := ⟨by rw [rf_k h, hk], by rw [h26]; exact hLv.2.1, hrr⟩
  refine ok_bind (s_addsAbove h hw hx hz hy ha hb hRw (by omega)) (fun ζ1 ⟨hr1, f1⟩ => ?_)
  have hbd := abv_bd hw hx ha hb
  have hRk1 := Rk_rx hRk hbd
  have efl : fls R' (rx R' ρ (abv A a b)) = fls R' ρ := by
    unfold fls
    apply List.map_congr_left
    intro b hb
    unfold rx
    rw [if_neg (by have := List.mem_range.mp hb; omega)]
  have eAk : Ak k R' (rx R' ρ (abv A a b)) = Ak k R' ρ := by unfold Ak; rw [efl]
  have ef : ∀ i, rf ζ1 lv i = rf ζ lv i := fun i => by funext m; exact (f1.1 22 _ (by unfold Wrr; omega)).2
  have hLv1 : Lv ζ1 lv k R' n (rx R' ρ (abv A a b)) := by
    refine ⟨by rw [(f1.1 20 lv (by unfold Wrr; omega)).1]; exact hLv.1, by rw [(f1.1 21 lv (by unfold Wrr; omega)).1]; exact hLv.2.1, ?_⟩
    rw [eAk]
    exact isc_e4 Ak_pos hLv.2.2 (fun i _ m _ => by rw [ef])
  refine ok_mono (s_findMore ζ1 (lv := lv) (by omega) hl hr1 hRk1 hk1 (by omega) hLv1) (fun ζ2 ⟨n', hL2, f2⟩ => ?_)
  have f12 : Fx (Wm lv R') ζ ζ2 := fx_trans (fx_mono f1 (fun x y g => by unfold Wrr at g; unfold Wm; omega)) (fx_mono f2 (fun x y g => by unfold Wl at g; unfold Wm; omega))
  refine ⟨⟨⟨k, R' + 1, n', _, hk, (rw_fx hr1 f2).2.2, hRk1, by omega, fun w => ?_, hL2⟩, ?_⟩, rf_Wm h f12, f12, by rw [hL2.2.1]; omega⟩
  · rw [inc_rx, hsem w]
  · rw [(rw_fx hr1 f2).2.1, hL2.2.1]
theorem s_backTo {A : Nat → Nat → Int} {ζ : ZS} {lv q R : Nat} {x : Int} {X : V4 → Prop} (hxl : x = lv) (hl : lv < 12) (hL : Lb A ζ lv X q) (hR : ζ.1 21 lv = R) : g_X12_backTo x ζ = some (zI ζ 0 26 (R : Int)) ∧ Lw A (zI ζ 0 26 (R : Int)) lv X q := by
  subst hxl
  constructor
  · apply ok_eq
    unfold g_X12_backTo
    rw [show Int.toNat (lv : Int) = lv by omega, hR]
    exact ok_gk (by omega) (by omega) (ok_some rfl)
  · obtain ⟨k, R', n, ρ, hk, hr, hRk, hRs, hsem, hLv⟩ := hL
    refine ⟨⟨k, R', n, ρ, hk, hr, hRk, hRs, hsem, by rw [zI_1, if_neg (by omega)]; exact hLv.1, by rw [zI_1, if_neg (by omega)]; exact hLv.2.1, hLv.2.2⟩, ?_⟩
    rw [zI_1, if_pos ⟨rfl, rfl⟩, zI_1, if_neg (by omega), hR]
theorem s_soonMay {A : Nat → Nat → Int} {ζ : ZS} (h : Rf A ζ) (hw : Wa A) (hx : Wx A) {t q lv : Nat} {z x : Int} {X : V4 → Prop} (hz : z = t) (hxl : x = lv) (ht : t < 8) (hl : lv < 12) (hL : Lb A ζ lv X q) (hq : q ≤ 20) : Ok (g_X12_soonMay z x ζ) (fun r => r.2 = ζ ∧ (r.1 = 0 ∨ (r.1 = 1 ∧ may A X t) ∨ (r.1 = -1 ∧ ¬ may A X t))) := by
  subst hz; subst hxl
  obtain ⟨n, hn, n44, hne, hpt, hal⟩ := lb_n hL hq
  let Post : Int × ZS → Prop := fun r => r.2 = ζ ∧ (r.1 = 0 ∨ (r.1 = 1 ∧ may A X t) ∨ (r.1 = -1 ∧ ¬ may A X t))
  have el : Int.toNat (lv : Int) = lv := by omega
  have bd1 : ∀ u, u < 8 → ∀ i, i < n → -2400000000 ≤ dt (abv A t u) (rf ζ lv i) ∧ dt (abv A t u) (rf ζ lv i) ≤ 2400000000 := fun u hu i hi => dt_bd (abv_bd hw hx ht hu) (hpt i hi).2.2.1
  have at_ : ∀ u c : Nat, u < 8 → c < n → g_X12_aboveAt (t : Int) (u : Int) (lv : Int) (c : Int) ζ = some (dt (abv A t u) (rf ζ lv c), ζ) := fun u c hu hc => s_aboveAt h hw hx rfl rfl rfl rfl ht hu hl (by omega) (hpt c hc).2.2.2
  -- who is never ahead
  have nots : ∀ (u : Nat) (p : Bool) (r104 : Int → Int → ZS → Option (Int × ZS)) (z3 : Int) (b : Bool), u < 8 → (b = true → ¬ may A X t) → (∀ b' : Bool, (b' = true → ¬ may A X t) → Ok (r104 (bi b') ((u : Int) + 1) ζ) Post) → ∀ (m : Nat) (s : Bool) (w : Int) (c : Nat), w = c → c ≤ n → n - c < m → (s = true → (u ≠ t ∧ inb A u = true) ∧ ∀ i, i < c → dt (abv A t u) (rf ζ lv i) < 0) → Ok (g_X12_soonMay_136 (t : Int) (lv : Int) z3 (bi b) (u : Int) r104 m (bi s) w ζ) Post := by
    intro u p r104 z3 b hu hb hnext m
    induction m with
    | zero => intro _ _ _ _ _ h; omega
    | succ m ih =>
      intro s w c hwc hc hm hs
      subst hwc
      unfold g_X12_soonMay_136 g_X12_soonMay_171 g_X12_soonMay_172 g_X12_soonMay_190 g_X12_soonMay_195
      rw [el, hn]
      refine ok_gk (by omega) (by omega) (ok_gI (by omega) (by omega) (by omega) (by omega) (fun g => ?_) (fun g => ?_))
      · refine ok_bi (fun e => ok_bi (fun e2 => hnext false (fun q => (by cases q))) (fun e2 => hnext true (fun _ => ?_))) (fun e => hnext true (fun _ => hb e))
        rintro ⟨w, ⟨hX, hall⟩, hnv⟩
        obtain ⟨⟨h1, h2⟩, h3⟩ := hs e2
        obtain ⟨i, hi, g0⟩ := (lb_so hL hn (abv A t u)).mpr ⟨w, hX, hnv, hall u hu h1 h2⟩
        have := h3 i (by omega)
        omega
      · have hcn : c < n := by omega
        have b1 := bd1 u hu c hcn
        have n1 : (c : Int) + 1 = ((c + 1 : Nat) : Int) := by omega
        have n3 : n - (c + 1) < m := by clear hs ih; omega
        refine ok_bi (fun e => ih false _ (c + 1) n1 hcn n3 (fun q => (by cases q))) (fun e => ok_beq (at_ u c hu hcn) ?_)
        refine ok_gJ (by omega) (by omega) (by dsimp only; omega) (by dsimp only; omega) (fun q => ih false _ (c + 1) n1 hcn n3 (fun q => (by cases q))) (fun q => ih true _ (c + 1) n1 hcn n3 (fun _ => ⟨(hs e).1, fun i hi => ?_⟩))
        have q : ¬ 0 ≤ dt (abv A t u) (rf ζ lv c) := q
        by_cases ei : i = c
        · rw [ei]; omega
        · exact (hs e).2 i (by omega)
  have second : ∀ (a : Bool), (a = true → may A X t) → ∀ (m : Nat) (b : Bool) (w : Int) (u : Nat), w = u → u ≤ 8 → 8 - u < m → (b = true → ¬ may A X t) → Ok (g_X12_soonMay_104 (t : Int) (lv : Int) (bi a) m (bi b) w ζ) Post := by
    intro a ha m
    induction m with
    | zero => intro _ _ _ _ _ h; omega
    | succ m ih =>
      intro b w u hwu hu hm hb
      subst hwu
      unfold g_X12_soonMay_104 g_X12_soonMay_130 g_X12_soonMay_131 g_X12_soonMay_221
      refine ok_gI (by omega) (by omega) (by omega) (by omega) (fun g => ?_) (fun g => ?_)
      · exact ok_bi (fun e => ok_bi (fun e2 => ok_some ⟨rfl, Or.inl rfl⟩) (fun e2 => ok_some ⟨rfl, Or.inr (Or.inr ⟨rfl, hb e2⟩)⟩)) (fun e => ok_some ⟨rfl, Or.inr (Or.inl ⟨rfl, ha e⟩)⟩)
      · have nx : ∀ b' : Bool, (b' = true → ¬ may A X t) → Ok (g_X12_soonMay_104 (t : Int) (lv : Int) (bi a) m (bi b') ((u : Int) + 1) ζ) Post := fun b' hb' => ih b' _ (u + 1) (by omega) (by omega) (by omega) hb'
        refine ok_gI (by omega) (by omega) (by omega) (by omega) (fun g2 => nots u true _ _ b (by omega) hb nx FU false 0 0 rfl (by omega) (by rw [FU_e]; omega) (fun q => (by cases q))) (fun g2 => ?_)
        refine ok_beq (s_isInN h hw rfl (by omega)) (ok_bi (fun e => nots u true _ _ b (by omega) hb nx FU false 0 0 rfl (by omega) (by rw [FU_e]; omega) (fun q => (by cases q))) (fun e => ?_))
        exact nots u true _ _ b (by omega) hb nx FU true 0 0 rfl (by omega) (by rw [FU_e]; omega) (fun _ => ⟨⟨by omega, e⟩, fun i hi => by omega⟩)
  -- ahead of all at one corner
  have allat : ∀ (c : Nat) (a : Bool) (r5 : Int → Int → ZS → Option (Int × ZS)), c < n → (a = true → may A X t) → (∀ a' : Bool, (a' = true → may A X t) → Ok (r5 (bi a') ((c : Int) + 1) ζ) Post) → ∀ (m : Nat) (s : Bool) (w : Int) (u : Nat), w = u → u ≤ 8 → 8 - u < m → (s = true → ∀ i, i < u → i ≠ t → inb A i = true → 0 ≤ dt (abv A t i) (rf ζ lv c)) → Ok (g_X12_soonMay_22 (t : Int) (lv : Int) (bi a) (c : Int) r5 m (bi s) w ζ) Post := by
    intro c a r5 hcn ha hnext m
    induction m with
    | zero => intro _ _ _ _ _ h; omega
    | succ m ih =>
      intro s w u hwu hu hm hs
      subst hwu
      unfold g_X12_soonMay_22 g_X12_soonMay_64 g_X12_soonMay_68 g_X12_soonMay_69 g_X12_soonMay_86 g_X12_soonMay_91
      refine ok_gI (by omega) (by omega) (by omega) (by omega) (fun g => ?_) (fun g => ?_)
      · refine ok_bi (fun e => ok_bi (fun e2 => hnext false (fun q => (by cases q))) (fun e2 => hnext true (fun _ => ?_))) (fun e => hnext true (fun _ => ha e))
        exact ⟨rf ζ lv c, ⟨(hpt c hcn).1, fun i hi => hs e2 i (by omega)⟩, (hpt c hcn).2.1⟩
      · have nx : ∀ s' : Bool, (s' = true → s = true ∧ (u ≠ t → inb A u = true → 0 ≤ dt (abv A t u) (rf ζ lv c))) → Ok (g_X12_soonMay_22 (t : Int) (lv : Int) (bi a) (c : Int) r5 m (bi s') ((u : Int) + 1) ζ) Post := by
          intro s' hs'
          refine ih s' _ (u + 1) (by omega) (by omega) (by omega) (fun q i hi => ?_)
          by_cases e : i = u
          · rw [e]; exact (hs' q).2
          · exact hs (hs' q).1 i (by omega)
        have b1 := bd1 u (by omega) c hcn
        refine ok_bi (fun e => nx false (fun q => (by cases q))) (fun e => ?_)
        refine ok_gI (by omega) (by omega) (by omega) (by omega) (fun g2 => nx true (fun _ => ⟨e, fun q => absurd (by omega) q⟩)) (fun g2 => ?_)
        refine ok_beq (s_isInN h hw rfl (by omega)) (ok_bi (fun e2 => nx true (fun _ => ⟨e, fun _ q => by rw [e2] at q; cases q⟩)) (fun e2 => ok_beq (at_ u c (by omega) hcn) ?_))
        refine ok_gJ (by dsimp only; omega) (by dsimp only; omega) (by omega) (by omega) (fun q => nx false (fun q => (by cases q))) (fun q => nx true (fun _ => ⟨e, fun _ _ => ?_⟩))
        have q : ¬ dt (abv A t u) (rf ζ lv c) < 0 := q
        omega
  have first : ∀ (m : Nat) (a : Bool) (w : Int) (c : Nat), w = c → c ≤ n → n - c < m → (a = true → may A X t) → Ok (g_X12_soonMay_5 (t : Int) (lv : Int) m (bi a) w ζ) Post := by
    intro m
    induction m with
    | zero => intro _ _ _ _ _ h; omega
    | succ m ih =>
      intro a w c hwc hc hm ha
      subst hwc
      unfold g_X12_soonMay_5
      rw [el, hn]
      refine ok_gk (by omega) (by omega) (ok_gI (by omega) (by omega) (by omega) (by omega) (fun g => ?_) (fun g => ?_))
      · exact second a ha FU false 0 0 rfl (by omega) (by rw [FU_e]; omega) (fun q => (by cases q))
      · exact allat c a _ (by omega) ha (fun a' ha' => ih a' _ (c + 1) (by omega) (by omega) (by omega) ha') FU true 0 0 rfl (by omega) (by rw [FU_e]; omega) (fun _ i hi => by omega)
  exact first FU false 0 0 rfl (by omega) (by rw [FU_e]; omega) (fun q => (by cases q))
theorem s_mayBe {A : Nat → Nat → Int} {ζ : ZS} (h : Rf A ζ) (hw : Wa A) (hx : Wx A) {t q lv R : Nat} {z x : Int} {X : V4 → Prop} (hz : z = t) (hxl : x = lv) (ht : t < 8) (hl : lv ≤ 3) (hL : Lw A ζ lv X q) (hq : q ≤ 13) (hR : ζ.1 21 lv = R) : Ok (g_X12_mayBe z x ζ) (fun r => (∃ p : Bool, r.1 = bi p ∧ (p = true ↔ may A X t)) ∧ Lw A r.2 lv X q ∧ Rf A r.2 ∧ Fx (Wm lv R) ζ r.2) := by
  subst hz; subst hxl
  let Post : Int × ZS → Prop := fun r => (∃ p : Bool, r.1 = bi p ∧ (p = true ↔ may A X t)) ∧ Lw A r.2 lv X q ∧ Rf A r.2 ∧ Fx (Wm lv R) ζ r.2
  unfold g_X12_mayBe g_X12_mayBe_20
  refine ok_bind (s_soonMay h hw hx rfl rfl ht (by omega) hL.1 (by omega)) (fun r ⟨r1, r2⟩ => ?_)
  rw [r1]
  have self : Lw A ζ lv X q ∧ Rf A ζ ∧ Fx (Wm lv R) ζ ζ := ⟨hL, h, fx_refl _ _⟩
  -- back at the end
  have done : ∀ (d e : Nat) (ζ1 : ZS) (Y : V4 → Prop), d ≤ e → e ≤ 8 → d ≤ 7 → Lb A ζ1 (lv + d) Y (q + d) → Fx (Wm lv R) ζ ζ1 → (NV Y ↔ may A X t) → Ok (g_X12_mayBe_81 (lv : Int) ((lv + d : Nat) : Int) ζ1) Post := by
    intro d e ζ1 Y hde he h8 hLb hf hY
    obtain ⟨n, hn, n44, hne, _⟩ := lb_n hLb (by omega)
    obtain ⟨lb0, e21⟩ := lb_fx hL.1 (by omega) hR hf
    obtain ⟨bk, lw0⟩ := s_backTo (x := (lv : Int)) rfl (by omega) lb0 e21
    have f26 : Fx (Wm lv R) ζ (zI ζ1 0 26 (R : Int)) := fx_I hf (by unfold Wm; omega)
    unfold g_X12_mayBe_81 g_X12_mayBe_96
    rw [show Int.toNat ((lv + d : Nat) : Int) = lv + d by omega, hn]
    refine ok_gk (by omega) (by omega) (ok_gI (by omega) (by omega) (by omega) (by omega) (fun g => ok_beq bk ?_) (fun g => ok_beq bk ?_))
    · refine ok_gz (Or.inl rfl) (ok_some ⟨⟨false, rfl, fun q => (by cases q), fun q => ?_⟩, lw0, rf_Wm h f26, f26⟩)
      have := hne.mpr (hY.mpr q)
      omega
    · exact ok_gz (Or.inr rfl) (ok_some ⟨⟨true, rfl, fun _ => hY.mp (hne.mp (by omega)), fun _ => rfl⟩, lw0, rf_Wm h f26, f26⟩)
  have loop : ∀ (m : Nat) (w y : Int) (d u : Nat) (ζ1 : ZS), w = ((lv + d : Nat) : Int) → y = u → u ≤ 8 → d ≤ u → (t < u → d + 1 ≤ u) → 8 - u < m → Lw A ζ1 (lv + d) (ful A X t u) (q + d) → Rf A ζ1 → Fx (Wm lv R) ζ ζ1 → (R : Int) ≤ ζ1.1 21 (lv + d) → Ok (g_X12_mayBe_27 (t : Int) (lv : Int) m w y ζ1) Post := by
    intro m
    induction m with
    | zero => intro _ _ _ _ _ _ _ _ _ _ h; omega
    | succ m ih =>
      intro w y d u ζ1 hwd hyu hu hdu htu hm hLw hrf hf hRR
      subst hwd; subst hyu
      obtain ⟨n, hn, n44, hne, _⟩ := lb_n hLw.1 (by omega)
      unfold g_X12_mayBe_27 g_X12_mayBe_75
      refine ok_gI (by omega) (by omega) (by omega) (by omega) (fun g => ?_) (fun g => ?_)
      · have e : u = 8 := by omega
        subst e
        exact done d 8 ζ1 _ hdu (by omega) (by omega) hLw.1 hf Iff.rfl
      · rw [show Int.toNat ((lv + d : Nat) : Int) = lv + d by omega, hn]
        have hful : ∀ w, ful A X t 8 w → ful A X t u w := fun w g => ⟨g.1, fun i hi => g.2 i (by omega)⟩
        refine ok_gk (by omega) (by omega) (ok_gI (by omega) (by omega) (by omega) (by omega) (fun g0 => ?_) (fun g0 => ?_))
        · refine done d u ζ1 _ hdu (by omega) (by omega) hLw.1 hf ⟨fun q => ?_, fun ⟨w, a, b⟩ => ⟨w, hful w a, b⟩⟩
          have := hne.mpr q
          omega
        · have skip : (u = t ∨ inb A u = false) → Ok (g_X12_mayBe_27 (t : Int) (lv : Int) m ((lv + d : Nat) : Int) ((u : Int) + 1) ζ1) Post := by
            intro hsk
            have e : ∀ w, ful A X t u w ↔ ful A X t (u + 1) w := fun w => ⟨fun g => ⟨g.1, fun i hi hne hin => by
              by_cases c : i = u
              · rw [c] at hne hin
                rcases hsk with q | q
                · exact absurd q hne
                · rw [q] at hin; cases hin
              · exact g.2 i (by omega) hne hin⟩, fun g => ⟨g.1, fun i hi => g.2 i (by omega)⟩⟩
            obtain ⟨⟨k, R', n', ρ, a1, a2, a3, a4, a5, a6⟩, a7⟩ := hLw
            exact ih _ _ d (u + 1) ζ1 rfl (by omega) (by omega) (by omega) (by omega) (by omega) ⟨⟨k, R', n', ρ, a1, a2, a3, a4, fun w => (a5 w).trans (e w), a6⟩, a7⟩ hrf hf hRR
          refine ok_gI (by omega) (by omega) (by omega) (by omega) (fun g2 => skip (Or.inl (by omega))) (fun g2 => ?_)
          refine ok_beq (s_isInN hrf hw rfl (by omega)) (ok_bi (fun e => skip (Or.inr e)) (fun e => ?_))
          obtain ⟨R1, hR1⟩ : ∃ R1 : Nat, ζ1.1 21 (lv + d) = R1 := ⟨(ζ1.1 21 (lv + d)).toNat, by omega⟩
          obtain ⟨ζ2, e2, h2⟩ := s_deeper (x := ((lv + d : Nat) : Int)) hrf hw hx (a := t) (b := u) rfl rfl rfl ht (by omega) (by omega) hLw (by omega) hR1
          cases hc : g_X12_addsAbove (t : Int) (u : Int) ζ1 with
          | none => rw [hc] at e2; cases e2
          | some q3 =>
            rw [hc] at e2
            have e2 : g_X12_findMore (((lv + d : Nat) : Int) + 1) q3 = some ζ2 := e2
            refine ok_beq rfl (ok_beq e2 ?_)
            obtain ⟨g1, g3, g4, g5⟩ := h2
            obtain ⟨⟨k, R', n', ρ, a1, a2, a3, a4, a5, a6⟩, a7⟩ := g1
            refine ih _ _ (d + 1) (u + 1) ζ2 (by omega) (by omega) (by omega) (by omega) (by omega) (by omega) ⟨⟨k, R', n', ρ, a1, a2, a3, by omega, fun w => (a5 w).trans ⟨fun ⟨c1, c2⟩ => ⟨c1.1, fun i hi hne hin => ?_⟩, fun c1 => ⟨⟨c1.1, fun i hi => c1.2 i (by omega)⟩, c1.2 u (by omega) (by omega) e⟩⟩, a6⟩, a7⟩ g3 (fx_trans hf (fx_mono g4 (wm_mono (by omega) (by omega)))) (by rw [show lv + (d + 1) = lv + d + 1 by omega]; omega)
            by_cases c : i = u
            · rw [c]; exact c2
            · exact c1.2 i (by omega) hne hin
  rcases r2 with e | ⟨e, hm⟩ | ⟨e, hm⟩
  · rw [e]
    refine ok_gI (by decide) (by decide) (by decide) (by decide) (fun _ => ?_) (fun q => absurd rfl q)
    obtain ⟨⟨k, R', n', ρ, a1, a2, a3, a4, a5, a6⟩, a7⟩ := id hL
    exact loop FU _ 0 0 0 ζ rfl rfl (by omega) (by omega) (by omega) (by rw [FU_e]; omega) ⟨⟨k, R', n', ρ, a1, a2, a3, a4, fun w => (a5 w).trans ⟨fun g => ⟨g, fun i hi => by omega⟩, fun g => g.1⟩, a6⟩, a7⟩ h (fx_refl _ _) (by rw [Nat.add_zero, hR]; omega)
  · rw [e]
    refine ok_gI (by decide) (by decide) (by decide) (by decide) (fun q => absurd q (by decide)) (fun _ => ok_gI (by decide) (by decide) (by decide) (by decide) (fun q => absurd q (by decide)) (fun _ => ?_))
    exact ok_gz (Or.inr rfl) (ok_some ⟨⟨true, rfl, fun _ => hm, fun _ => rfl⟩, self⟩)
  · rw [e]
    refine ok_gI (by decide) (by decide) (by decide) (by decide) (fun q => absurd q (by decide)) (fun _ => ok_gI (by decide) (by decide) (by decide) (by decide) (fun _ => ?_) (fun q => absurd (by decide) q))
    exact ok_gz (Or.inl rfl) (ok_some ⟨⟨false, rfl, fun q => (by cases q), fun q => absurd q hm⟩, self⟩)
