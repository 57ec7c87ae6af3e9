/-! who is surely best -/
/-- a set told by a property -/
def QS (P : Nat → Prop) (v : Int) : Prop := ∃ p : Nat → Bool, v = ((msk p 8 : Nat) : Int) ∧ ∀ t, t < 8 → (p t = true ↔ P t)
theorem qs_fun {P : Nat → Prop} {v w : Int} (h : QS P v) (g : QS P w) : v = w := by
  obtain ⟨p, e, hp⟩ := h
  obtain ⟨q, e', hq⟩ := g
  rw [e, e']
  congr 1
  apply msk_congr
  intro i hi
  have a := hp i hi
  have b := hq i hi
  cases h1 : p i <;> cases h2 : q i
  · rfl
  · rw [h1] at a; have := a.mpr (b.mp h2); cases this
  · rw [h2] at b; have := b.mpr (a.mp h1); cases this
  · rfl
theorem qs_congr {P Q : Nat → Prop} {v : Int} (h : QS P v) (e : ∀ t, t < 8 → (P t ↔ Q t)) : QS Q v := by
  obtain ⟨p, e1, hp⟩ := h
  exact ⟨p, e1, fun t ht => (hp t ht).trans (e t ht)⟩
theorem qs_ne {P : Nat → Prop} {v : Int} (h : QS P v) : (v ≠ 0 ↔ ∃ t, t < 8 ∧ P t) ∧ 0 ≤ v ∧ v ≤ 255 := by
  obtain ⟨p, e, hp⟩ := h
  have l := msk_lt p 8
  refine ⟨⟨fun g => ?_, fun ⟨t, ht, hP⟩ g => ?_⟩, by omega, by omega⟩
  · obtain ⟨i, hi, h1⟩ := msk_ne (p := p) (n := 8) (by omega)
    exact ⟨i, hi, (hp i hi).mp h1⟩
  · have : msk p 8 = 0 := by omega
    have := msk_none.mp this t ht
    rw [(hp t ht).mpr hP] at this
    cases this
def sur (A : Nat → Nat → Int) (X : V4 → Prop) (t : Nat) : Prop := ∀ u, u < 8 → u ≠ t → inb A u = true → Al X (abv A t u)
theorem s_isBetter {A : Nat → Nat → Int} {ζ : ZS} (h : Rf A ζ) (hw : Wa A) (hx : Wx A) {a b q lv : Nat} {z y x : Int} {X : V4 → Prop} (hz : z = a) (hy : y = b) (hxl : x = lv) (ha : a < 8) (hb : b < 8) (hl : lv < 12) (hL : Lb A ζ lv X q) (hq : q ≤ 20) : Ok (g_X12_isBetter z y x ζ) (fun r => r.2 = ζ ∧ ∃ p : Bool, r.1 = bi p ∧ (p = true ↔ Al X (abv A a b))) := by
  subst hxl
  obtain ⟨n, hn, n44, hne, hpt, hal⟩ := lb_n hL hq
  have hal := hal (abv A a b)
  have bd1 : ∀ i, i < n → -2400000000 ≤ dt (abv A a b) (rf ζ lv i) ∧ dt (abv A a b) (rf ζ lv i) ≤ 2400000000 := fun i hi => dt_bd (abv_bd hw hx ha hb) (hpt i hi).2.2.1
  have key : ∀ (m : Nat) (p : Bool) (w : Int) (c : Nat), w = c → c ≤ n → n - c < m → (p = true ↔ ∀ i, i < c → 0 ≤ dt (abv A a b) (rf ζ lv i)) → Ok (g_X12_isBetter_6 z y lv m (bi p) w ζ) (fun r => r.2 = ζ ∧ ∃ p : Bool, r.1 = bi p ∧ (p = true ↔ Al X (abv A a b))) := by
    intro m
    induction m with
    | zero => intro _ _ _ _ _ h; omega
    | succ m ih =>
      intro p w c hwc hc hm hp
      subst hwc
      unfold g_X12_isBetter_6 g_X12_isBetter_40 g_X12_isBetter_41
      rw [show Int.toNat (lv : Int) = lv by omega, hn]
      refine ok_gk (by omega) (by omega) (ok_gI (by omega) (by omega) (by omega) (by omega) (fun g => ?_) (fun g => ?_))
      · have ec : c = n := by omega
        subst ec
        exact ok_gz (bi_r p) (ok_some ⟨rfl, p, rfl, hp.trans hal⟩)
      · have hcn : c < n := by omega
        have b1 := bd1 c hcn
        have nxt : ∀ p' : Bool, (p' = true ↔ (p = true ∧ 0 ≤ dt (abv A a b) (rf ζ lv c))) → Ok (g_X12_isBetter_6 z y lv m (bi p') ((c : Int) + 1) ζ) (fun r => r.2 = ζ ∧ ∃ p : Bool, r.1 = bi p ∧ (p = true ↔ Al X (abv A a b))) := by
          intro p' e1
          refine ih p' _ (c + 1) (by omega) (by omega) (by omega) (e1.trans ?_)
          rw [hp]
          exact ⟨fun ⟨g1, g2⟩ i hi => by
            by_cases e : i = c
            · rw [e]; exact g2
            · exact g1 i (by omega), fun g => ⟨fun i hi => g i (by omega), g c (by omega)⟩⟩
        refine ok_bi (fun e => nxt false ⟨fun q => (by cases q), fun q => by rw [e] at q; cases q.1⟩) (fun e => ?_)
        refine ok_beq (s_aboveAt h hw hx hz hy rfl rfl ha hb hl (by omega) (hpt c hcn).2.2.2) (ok_gJ (by dsimp only; omega) (by dsimp only; omega) (by omega) (by omega) (fun q => ?_) (fun q => ?_))
        · have q : dt (abv A a b) (rf ζ lv c) < 0 := q
          exact nxt false ⟨fun g => (by cases g), fun g => by have := g.2; omega⟩
        · have q : ¬ dt (abv A a b) (rf ζ lv c) < 0 := q
          exact nxt true ⟨fun _ => ⟨e, by omega⟩, fun _ => rfl⟩
  exact key FU true 0 0 rfl (by omega) (by rw [FU_e]; omega) ⟨fun _ i hi => by omega, fun _ => rfl⟩
theorem s_isSure {A : Nat → Nat → Int} {ζ : ZS} (h : Rf A ζ) (hw : Wa A) (hx : Wx A) {t q lv : Nat} {z x : Int} {X : V4 → Prop} (hz : z = t) (hxl : x = lv) (ht : t < 8) (hl : lv < 12) (hL : Lb A ζ lv X q) (hq : q ≤ 20) : Ok (g_X12_isSure z x ζ) (fun r => r.2 = ζ ∧ ∃ p : Bool, r.1 = bi p ∧ (p = true ↔ sur A X t)) := by
  subst hz
  have key : ∀ (m : Nat) (p : Bool) (w : Int) (u : Nat), w = u → u ≤ 8 → 8 - u < m → (p = true ↔ ∀ i, i < u → i ≠ t → inb A i = true → Al X (abv A t i)) → Ok (g_X12_isSure_5 t x m (bi p) w ζ) (fun r => r.2 = ζ ∧ ∃ p : Bool, r.1 = bi p ∧ (p = true ↔ sur A X t)) := by
    intro m
    induction m with
    | zero => intro _ _ _ _ _ h; omega
    | succ m ih =>
      intro p w u hwu hu hm hp
      subst hwu
      unfold g_X12_isSure_5 g_X12_isSure_46 g_X12_isSure_42 g_X12_isSure_47
      refine ok_gI (by omega) (by omega) (by omega) (by omega) (fun g => ?_) (fun g => ?_)
      · have e : u = 8 := by omega
        subst e
        exact ok_gz (bi_r p) (ok_some ⟨rfl, p, rfl, hp⟩)
      · have nxt : ∀ p' : Bool, (p' = true ↔ (p = true ∧ (u ≠ t → inb A u = true → Al X (abv A t u)))) → Ok (g_X12_isSure_5 t x m (bi p') ((u : Int) + 1) ζ) (fun r => r.2 = ζ ∧ ∃ p : Bool, r.1 = bi p ∧ (p = true ↔ sur A X t)) := by
          intro p' e1
          refine ih p' _ (u + 1) (by omega) (by omega) (by omega) (e1.trans ?_)
          rw [hp]
          exact ⟨fun ⟨g1, g2⟩ i hi => by
            by_cases e : i = u
            · rw [e]; exact g2
            · exact g1 i (by omega), fun g => ⟨fun i hi => g i (by omega), g u (by omega)⟩⟩
        refine ok_bi (fun e => nxt false ⟨fun q => (by cases q), fun q => by rw [e] at q; cases q.1⟩) (fun e => ?_)
        refine ok_gI (by omega) (by omega) (by omega) (by omega) (fun g2 => nxt true ⟨fun _ => ⟨e, fun q => absurd (by omega) q⟩, fun _ => rfl⟩) (fun g2 => ?_)
        refine ok_beq (s_isInN h hw rfl (by omega)) (ok_bi (fun e2 => nxt true ⟨fun _ => ⟨e, fun _ q => by rw [e2] at q; cases q⟩, fun _ => rfl⟩) (fun e2 => ?_))
        refine ok_bind (s_isBetter h hw hx rfl rfl hxl ht (by omega) hl hL hq) (fun r ⟨r1, b, r2, r3⟩ => ?_)
        rw [r2]
        refine ok_bi (fun e3 => ?_) (fun e3 => ?_)
        · rw [r1]
          exact nxt false ⟨fun q => (by cases q), fun q => by have := r3.mpr (q.2 (by omega) e2); rw [e3] at this; cases this⟩
        · rw [r1]
          exact nxt true ⟨fun _ => ⟨e, fun _ _ => r3.mp e3⟩, fun _ => rfl⟩
  exact key FU true 0 0 rfl (by omega) (by rw [FU_e]; omega) ⟨fun _ i hi => by omega, fun _ => rfl⟩
theorem s_sureBest {A : Nat → Nat → Int} {ζ : ZS} (h : Rf A ζ) (hw : Wa A) (hx : Wx A) {q lv : Nat} {x : Int} {X : V4 → Prop} (hxl : x = lv) (hl : lv < 12) (hL : Lb A ζ lv X q) (hq : q ≤ 20) : Ok (g_X12_sureBest x ζ) (fun r => r.2 = ζ ∧ QS (fun t => inb A t = true ∧ sur A X t) r.1) := by
  have key : ∀ (m : Nat) (acc w : Int) (u : Nat) (p : Nat → Bool), w = u → u ≤ 8 → 8 - u < m → acc = ((msk p 8 : Nat) : Int) → (∀ t, t < 8 → (p t = true ↔ (t < u ∧ inb A t = true ∧ sur A X t))) → Ok (g_X12_sureBest_4 x m acc w ζ) (fun r => r.2 = ζ ∧ QS (fun t => inb A t = true ∧ sur A X t) r.1) := by
    intro m
    induction m with
    | zero => intro _ _ _ _ _ _ h; omega
    | succ m ih =>
      intro acc w u p hwu hu hm ha hp
      subst hwu; subst ha
      unfold g_X12_sureBest_4 g_X12_sureBest_34 g_X12_sureBest_35
      refine ok_gI (by omega) (by omega) (by omega) (by omega) (fun g => ?_) (fun g => ?_)
      · exact ok_some ⟨rfl, p, rfl, fun t ht => (hp t ht).trans ⟨fun q => q.2, fun q => ⟨by omega, q⟩⟩⟩
      · have no : ¬ (inb A u = true ∧ sur A X u) → Ok (g_X12_sureBest_4 x m (zor ((msk p 8 : Nat) : Int) 0) ((u : Int) + 1) ζ) (fun r => r.2 = ζ ∧ QS (fun t => inb A t = true ∧ sur A X t) r.1) := by
          intro hn
          refine ih _ _ (u + 1) p (by omega) (by omega) (by omega) (z_or0 p (by omega)) (fun t ht => (hp t ht).trans ⟨fun q => ⟨by omega, q.2⟩, fun q => ⟨?_, q.2⟩⟩)
          apply Classical.byContradiction
          intro c
          have e : t = u := by omega
          subst e
          exact hn q.2
        refine ok_beq (s_isInN h hw rfl (by omega)) (ok_bi (fun e => no (fun q => by rw [e] at q; cases q.1)) (fun e => ?_))
        refine ok_bind (s_isSure h hw hx rfl hxl (by omega) hl hL hq) (fun r ⟨r1, b, r2, r3⟩ => ?_)
        rw [r2, r1]
        refine ok_bi (fun e3 => no (fun q => by have := r3.mpr q.2; rw [e3] at this; cases this)) (fun e3 => ?_)
        refine ih _ _ (u + 1) (fun i => p i || decide (i = u)) (by omega) (by omega) (by omega) (z_in p (by omega) (by omega)) (fun t ht => ?_)
        by_cases c : t = u
        · subst c
          simp only [decide_true, Bool.or_true, true_iff]
          exact ⟨by omega, e, r3.mp e3⟩
        · simp only [c, decide_false, Bool.or_false]
          exact (hp t ht).trans ⟨fun q => ⟨by omega, q.2⟩, fun q => ⟨by omega, q.2⟩⟩
  refine key FU 0 0 0 (fun _ => false) rfl (by omega) (by rw [FU_e]; omega) (by rw [msk_0 _ (fun _ _ => rfl)]; rfl) (fun t _ => ⟨fun q => (by cases q), fun q => by omega⟩)
/-! the class -/
def vv (A : Nat → Nat → Int) (t : Nat) : V4 := fun m => val A t m
theorem dt_lead (A : Nat → Nat → Int) (a b : Nat) (w : V4) : dt (leadv A a b) w = dt (vv A a) w - dt (vv A b) w := by
  unfold leadv vv
  simp only [dt]
  grind
theorem vv_bd {A : Nat → Nat → Int} (hw : Wa A) {t : Nat} (ht : t < 8) : bd (vv A t) := fun m hm => by have := val_bd hw ht hm; unfold vv; omega
theorem vv_nn {A : Nat → Nat → Int} (hw : Wa A) {t : Nat} (ht : t < 8) {w : V4} (h : ∀ m, m < 4 → 0 ≤ w m ∧ w m ≤ 6000000) : 0 ≤ dt (vv A t) w ∧ dt (vv A t) w ≤ 2400000000 := by
  have b := dt_bd (vv_bd hw ht) h
  refine ⟨?_, b.2⟩
  have k : ∀ m, m < 4 → 0 ≤ vv A t m * w m := fun m hm => Int.mul_nonneg (val_bd hw ht hm).1 (h m hm).1
  have k0 := k 0 (by decide)
  have k1 := k 1 (by decide)
  have k2 := k 2 (by decide)
  have k3 := k 3 (by decide)
  unfold dt
  omega
theorem s_fillGoods {A : Nat → Nat → Int} {ζ : ZS} {c k q n i : Nat} {X : V4 → Prop} {z : Int} (hw : Wa A) (hva : Va A ζ) (hcs : Cs ζ c k X q) (hq : q ≤ 19) (hc : 52 ≤ c ∧ c ≤ 121) (hz : z = i) (hn : ζ.1 c 5 = n) (hi : i < n) : Ok (g_X4_fillGoods c z ζ) (fun ζ' => (∀ t, t < 8 → ζ'.2.1 137 t = dt (vv A t) (cw ζ c i)) ∧ Fx (We 137) ζ ζ') := by
  have key : ∀ (m : Nat) (w : Int) (t : Nat) (ζ1 : ZS), w = t → t ≤ 8 → 8 - t < m → (∀ u, u < t → ζ1.2.1 137 u = dt (vv A u) (cw ζ c i)) → Fx (We 137) ζ ζ1 → Ok (g_X4_fillGoods_2 c z m w ζ1) (fun ζ' => (∀ t, t < 8 → ζ'.2.1 137 t = dt (vv A t) (cw ζ c i)) ∧ Fx (We 137) ζ ζ') := by
    intro m
    induction m with
    | zero => intro _ _ _ _ _ h; omega
    | succ m ih =>
      intro w t ζ1 hwt ht hm hold hf
      subst hwt
      unfold g_X4_fillGoods_2
      refine ok_gI (by omega) (by omega) (by omega) (by omega) (fun g => ok_some ⟨fun u hu => hold u (by omega), hf⟩) (fun g => ?_)
      have ht8 : t < 8 := by omega
      rw [show Int.toNat (t : Int) = t by omega]
      have hcs1 : Cs ζ1 c k X q := cs_fx hcs (fun x y g1 g2 => hf.1 x y (by unfold We; omega))
      have ecw : cw ζ1 c i = cw ζ c i := by funext m; exact (hf.1 (c + 1) _ (by unfold We; omega)).2
      refine ok_gk (by omega) (by omega) (ok_beq (cs_prod ζ1 c (40 + 1 + t) (r := vv A t) hcs1 hq hz (by rw [(hf.1 c 5 (by unfold We; omega)).1]; exact hn) hi (ln_val t ht8) (fun m' hm' => by rw [(hf.1 _ _ (by unfold We; omega)).1]; exact hva.1 t m' ht8 hm') (vv_bd hw ht8)) (ok_gk (by omega) (by omega) ?_))
      rw [ecw]
      refine ih _ (t + 1) _ (by omega) (by omega) (by omega) (fun u hu => ?_) (fx_J hf rfl)
      rw [zJ_2]
      by_cases e : u = t
      · rw [if_pos ⟨rfl, e⟩, e]
      · rw [if_neg (by omega)]; exact hold u (by omega)
  exact key FU 0 0 ζ rfl (by omega) (by rw [FU_e]; omega) (fun u hu => by omega) (fx_refl _ _)
theorem z_single {n t : Nat} (hn : n ≤ 31) (ht : t < n) : zshl 1 (t : Int) = ((msk (fun i => decide (i = t)) n : Nat) : Int) := by
  rw [zshl_n (by omega)]
  congr 1
  apply msk_of (Nat.pow_lt_pow_right (by decide) ht)
  intro i _
  rw [Nat.testBit_two_pow]
  simp [eq_comm]
theorem s_greatestOf {ζ : ZS} {z : Int} {e : Nat} {p : Nat → Bool} {f : Nat → Int} (hz : z = ((msk p 8 : Nat) : Int)) (hl : ln e = 8) (hf : ∀ t, t < 8 → ζ.2.1 e t = f t) (hb : ∀ t, t < 8 → 0 ≤ f t ∧ f t ≤ 2400000000) : Ok (g_X9_greatestOf z e ζ) (fun r => r.2 = ζ ∧ QS (fun t => p t = true ∧ ∀ u, u < 8 → p u = true → f u ≤ f t) r.1) := by
  have key : ∀ (m : Nat) (acc g w : Int) (t : Nat) (b : Nat → Bool), w = t → t ≤ 8 → 8 - t < m → acc = ((msk b 8 : Nat) : Int) → (∀ i, i < 8 → (b i = true ↔ (i < t ∧ p i = true ∧ f i = g))) → (∀ j, j < t → p j = true → f j ≤ g) → ((g = -1 ∧ ∀ j, j < t → p j = false) ∨ (0 ≤ g ∧ g ≤ 2400000000 ∧ ∃ j, j < t ∧ p j = true ∧ f j = g)) → Ok (g_X9_greatestOf_9 z e m acc g w ζ) (fun r => r.2 = ζ ∧ QS (fun t => p t = true ∧ ∀ u, u < 8 → p u = true → f u ≤ f t) r.1) := by
    intro m
    induction m with
    | zero => intro _ _ _ _ _ _ _ h; omega
    | succ m ih =>
      intro acc g w t b hwt ht hm ha hbi hle hg
      subst hwt; subst ha
      have gr : -1 ≤ g ∧ g ≤ 2400000000 := by rcases hg with ⟨h1, _⟩ | ⟨h1, h2, _⟩ <;> omega
      unfold g_X9_greatestOf_9 g_X9_greatestOf_56 g_X9_greatestOf_62
      refine ok_gI (by omega) (by omega) (by omega) (by omega) (fun q => ?_) (fun q => ?_)
      · refine ok_some ⟨rfl, b, rfl, fun i hi => (hbi i hi).trans ⟨fun ⟨g1, g2, g3⟩ => ⟨g2, fun u hu hpu => by rw [g3]; exact hle u (by omega) hpu⟩, fun ⟨g2, g3⟩ => ⟨by omega, g2, ?_⟩⟩⟩
        rcases hg with ⟨_, h1⟩ | ⟨_, _, j, hj, hpj, hfj⟩
        · rw [h1 i (by omega)] at g2; cases g2
        · have a1 := g3 j (by omega) hpj
          have a2 := hle i (by omega) g2
          omega
      · have ht8 : t < 8 := by omega
        have bt := hb t ht8
        rw [show Int.toNat (t : Int) = t by omega, hf t ht8, hl]
        have n1 : (t : Int) + 1 = ((t + 1 : Nat) : Int) := by omega
        have n3 : 8 - (t + 1) < m := by clear hbi hg ih; omega
        refine bit_test (p := p) (n := 8) (t := t) hz rfl (by omega) ht8 (fun hp => ?_) (fun hp => ?_)
        · refine ih _ g _ (t + 1) b n1 ht8 n3 rfl (fun i hi => (hbi i hi).trans ⟨fun ⟨g1, g2⟩ => ⟨by omega, g2⟩, fun ⟨g1, g2⟩ => ⟨?_, g2⟩⟩) (fun j hj hpj => ?_) ?_
          · by_cases c : i = t
            · rw [c, hp] at g2; cases g2.1
            · omega
          · by_cases c : j = t
            · rw [c, hp] at hpj; cases hpj
            · exact hle j (by omega) hpj
          · rcases hg with ⟨h1, h2⟩ | ⟨h1, h2, j, hj, h3⟩
            · refine Or.inl ⟨h1, fun j hj => ?_⟩
              by_cases c : j = t
              · rw [c]; exact hp
              · exact h2 j (by omega)
            · exact Or.inr ⟨h1, h2, j, by omega, h3⟩
        · refine ok_gk (by omega) (by omega) (ok_gJ (by omega) (by omega) (by omega) (by omega) (fun h1 => ?_) (fun h1 => ?_))
          · -- less than the greatest
            refine ih _ g _ (t + 1) b n1 ht8 n3 rfl (fun i hi => (hbi i hi).trans ⟨fun ⟨g1, g2⟩ => ⟨by omega, g2⟩, fun ⟨g1, g2, g3⟩ => ⟨?_, g2, g3⟩⟩) (fun j hj hpj => ?_) ?_
            · by_cases c : i = t
              · rw [c] at g3; omega
              · omega
            · by_cases c : j = t
              · rw [c]; omega
              · exact hle j (by omega) hpj
            · rcases hg with ⟨h2, _⟩ | ⟨h2, h3, j, hj, h4⟩
              · omega
              · exact Or.inr ⟨h2, h3, j, by omega, h4⟩
          · refine ok_gk (by omega) (by omega) (ok_gJ (by omega) (by omega) (by omega) (by omega) (fun h2 => ?_) (fun h2 => ?_))
            · -- as great
              have e : f t = g := by omega
              refine ok_gk (by omega) (by omega) ?_
              rw [e]
              refine ih _ g _ (t + 1) (fun i => b i || decide (i = t)) n1 ht8 n3 (z_in b (by omega) ht8) (fun i hi => ?_) (fun j hj hpj => ?_) (Or.inr ⟨by omega, by omega, t, by omega, hp, e⟩)
              · by_cases c : i = t
                · subst c
                  simp only [decide_true, Bool.or_true, true_iff]
                  exact ⟨by omega, hp, e⟩
                · simp only [c, decide_false, Bool.or_false]
                  exact (hbi i hi).trans ⟨fun ⟨g1, g2⟩ => ⟨by omega, g2⟩, fun ⟨g1, g2⟩ => ⟨by omega, g2⟩⟩
              · by_cases c : j = t
                · rw [c]; omega
                · exact hle j (by omega) hpj
            · -- greater
              refine ok_gk (by omega) (by omega) ?_
              refine ih _ (f t) _ (t + 1) (fun i => decide (i = t)) n1 ht8 n3 (z_single (by omega) ht8) (fun i hi => ?_) (fun j hj hpj => ?_) (Or.inr ⟨by omega, by omega, t, by omega, hp, rfl⟩)
              · by_cases c : i = t
                · subst c
                  simp only [decide_true, true_iff]
                  exact ⟨by omega, hp, trivial⟩
                · simp only [c, decide_false]
                  refine ⟨fun q => (by cases q), fun ⟨g1, g2, g3⟩ => ?_⟩
                  have := hle i (by omega) g2
                  omega
              · by_cases c : j = t
                · rw [c]; omega
                · have := hle j (by omega) hpj; omega
  unfold g_X9_greatestOf
  exact key FU 0 (-1) 0 0 (fun _ => false) rfl (by omega) (by rw [FU_e]; omega) (by rw [msk_0 _ (fun _ _ => rfl)]; rfl) (fun i _ => ⟨fun q => (by cases q), fun q => by omega⟩) (fun j hj => by omega) (Or.inl ⟨rfl, fun j hj => by omega⟩)
theorem s_bestByCorner {A : Nat → Nat → Int} {ζ : ZS} {c k q n i : Nat} {X : V4 → Prop} {z : Int} (hw : Wa A) (hva : Va A ζ) (hcs : Cs ζ c k X q) (hq : q ≤ 19) (hc : 52 ≤ c ∧ c ≤ 121) (hz : z = i) (hn : ζ.1 c 5 = n) (hi : i < n) : Ok (g_X4_bestByCorner c z ζ) (fun r => QS (fun t => inb A t = true ∧ ∀ u, u < 8 → inb A u = true → 0 ≤ dt (leadv A t u) (cw ζ c i)) r.1 ∧ Fx (We 137) ζ r.2) := by
  obtain ⟨n', c3, k1, k4, hn', n42, hne, hpt, _⟩ := cs_n hcs hq
  have e5 : n' = n := by omega
  subst e5
  have hbp := (hpt i hi).2.2.1
  unfold g_X4_bestByCorner
  refine ok_bind (s_fillGoods hw hva hcs hq hc hz hn hi) (fun ζ1 ⟨h1, f1⟩ => ?_)
  refine ok_bind (s_greatestOf (e := 137) (p := inb A) (f := fun t => dt (vv A t) (cw ζ c i)) (by rw [(f1.1 30 4 (by unfold We; omega)).1]; exact hva.2) rfl h1 (fun t ht => vv_nn hw ht hbp)) (fun r ⟨r1, r2⟩ => ok_some ⟨qs_congr r2 (fun t ht => ?_), by rw [r1]; exact f1⟩)
  refine ⟨fun ⟨g1, g2⟩ => ⟨g1, fun u hu hpu => ?_⟩, fun ⟨g1, g2⟩ => ⟨g1, fun u hu hpu => ?_⟩⟩
  · rw [dt_lead]; have := g2 u hu hpu; omega
  · have := g2 u hu hpu; rw [dt_lead] at this; omega
theorem s_surelyBest {A : Nat → Nat → Int} {ζ : ZS} {c k q : Nat} {X : V4 → Prop} (hw : Wa A) (hva : Va A ζ) (hcs : Cs ζ c k X q) (hq : q ≤ 19) (hc : 52 ≤ c ∧ c ≤ 121) : Ok (g_X4_surelyBest c ζ) (fun r => QS (fun t => inb A t = true ∧ ∀ u, u < 8 → inb A u = true → Al X (leadv A t u)) r.1 ∧ Fx (We 137) ζ r.2) := by
  obtain ⟨n, c3, k1, k4, hn, n42, hne, hpt, hal, _⟩ := cs_n hcs hq
  have key : ∀ (m : Nat) (acc w : Int) (i : Nat) (ζ1 : ZS) (p : Nat → Bool), w = i → i ≤ n → n - i < m → acc = ((msk p 8 : Nat) : Int) → (∀ t, t < 8 → (p t = true ↔ (inb A t = true ∧ ∀ j, j < i → ∀ u, u < 8 → inb A u = true → 0 ≤ dt (leadv A t u) (cw ζ c j)))) → Fx (We 137) ζ ζ1 → Ok (g_X4_surelyBest_10 c m acc w ζ1) (fun r => QS (fun t => inb A t = true ∧ ∀ u, u < 8 → inb A u = true → Al X (leadv A t u)) r.1 ∧ Fx (We 137) ζ r.2) := by
    intro m
    induction m with
    | zero => intro _ _ _ _ _ _ _ h; omega
    | succ m ih =>
      intro acc w i ζ1 p hwi hi hm ha hp hf
      subst hwi; subst ha
      have l := msk_31 p (n := 8) (by omega)
      have hn1 : ζ1.1 c 5 = n := by rw [(hf.1 c 5 (by unfold We; omega)).1]; exact hn
      unfold g_X4_surelyBest_10 g_X4_surelyBest_37
      rw [hn1]
      refine ok_gI (by omega) (by omega) (by omega) (by omega) (fun g => ?_) (fun g => ?_)
      · have e : i = n := by omega
        subst e
        exact ok_some ⟨⟨p, rfl, fun t ht => (hp t ht).trans ⟨fun ⟨g1, g2⟩ => ⟨g1, fun u hu hpu => (hal _).mp (fun j hj => g2 j hj u hu hpu)⟩, fun ⟨g1, g2⟩ => ⟨g1, fun j hj u hu hpu => (hal _).mpr (g2 u hu hpu) j hj⟩⟩⟩, hf⟩
      · refine ok_gI (by omega) (by omega) (by omega) (by omega) (fun g0 => ?_) (fun g0 => ?_)
        · have z0 : msk p 8 = 0 := by omega
          refine ok_some ⟨⟨p, rfl, fun t ht => ⟨fun q => ?_, fun ⟨g1, g2⟩ => (hp t ht).mpr ⟨g1, fun j hj u hu hpu => (hal _).mpr (g2 u hu hpu) j (by omega)⟩⟩⟩, hf⟩
          rw [msk_none.mp z0 t ht] at q
          cases q
        · have hin : i < n := by omega
          have hcs1 : Cs ζ1 c k X q := cs_fx hcs (fun x y g1 g2 => hf.1 x y (by unfold We; omega))
          have ecw : cw ζ1 c i = cw ζ c i := by funext m; exact (hf.1 (c + 1) _ (by unfold We; omega)).2
          have hva1 : Va A ζ1 := ⟨fun t m g1 g2 => by rw [(hf.1 _ _ (by unfold We; omega)).1]; exact hva.1 t m g1 g2, by rw [(hf.1 _ _ (by unfold We; omega)).1]; exact hva.2⟩
          refine ok_bind (s_bestByCorner hw hva1 hcs1 hq hc rfl hn1 hin) (fun r ⟨⟨b, rb, hb⟩, f2⟩ => ?_)
          rw [rb]
          have n1 : (i : Int) + 1 = ((i + 1 : Nat) : Int) := by omega
          have n3 : n - (i + 1) < m := by clear hp hb ih; omega
          refine ih _ _ (i + 1) r.2 (fun t => p t && b t) n1 hin n3 (z_and p b (by omega)) (fun t ht => ?_) (fx_trans hf f2)
          rw [Bool.and_eq_true, hp t ht, hb t ht, ecw]
          refine ⟨fun ⟨⟨g1, g2⟩, _, g3⟩ => ⟨g1, fun j hj u hu hpu => ?_⟩, fun ⟨g1, g2⟩ => ⟨⟨g1, fun j hj => g2 j (by omega)⟩, g1, fun u hu hpu => g2 i (by omega) u hu hpu⟩⟩
          by_cases e : j = i
          · rw [e]; exact g3 u hu hpu
          · exact g2 j (by omega) u hu hpu
  unfold g_X4_surelyBest
  exact key FU _ 0 0 ζ (inb A) rfl (by omega) (by rw [FU_e]; omega) hva.2 (fun t _ => ⟨fun q => ⟨q, fun j hj => by omega⟩, fun q => q.1⟩) (fx_refl _ _)
