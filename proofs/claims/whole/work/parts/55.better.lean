/-! better: reference and class answer alike -/
/-- the order told by hand; the tape -/
def Wo (A : Nat → Nat → Int) : Prop := (0 ≤ A 0 24 ∧ A 0 24 ≤ 8) ∧ (∀ p : Nat, (p : Int) < A 0 24 → 0 ≤ A 18 p ∧ A 18 p ≤ 7) ∧ ∀ p q : Nat, (p : Int) < A 0 24 → (q : Int) < A 0 24 → A 18 p = A 18 q → p = q
def Wtp (A : Nat → Nat → Int) : Prop := (0 ≤ A 0 2 ∧ A 0 2 ≤ 1000) ∧ ∀ i : Nat, (i : Int) < A 0 2 → A 1 i = 10 ∨ (32 ≤ A 1 i ∧ A 1 i ≤ 126)
def Wall (A : Nat → Nat → Int) : Prop := Wa A ∧ Ws A ∧ Wv A ∧ Wx A ∧ A 0 32 = -1 ∧ Wo A ∧ Wtp A
def two (A : Nat → Nat → Int) (z y : Int) : Bool := inz A z && inz A y && !decide (z = y)
/-- by all weights, by some, by none -/
def Bt (X : V4 → Prop) (r : V4) (v : Int) : Prop := (v = 2 ∧ Al X r) ∨ (v = 1 ∧ ¬ Al X r ∧ So X r) ∨ (v = 0 ∧ ¬ Al X r ∧ ¬ So X r)
theorem bt_fun {X : V4 → Prop} {r : V4} {v w : Int} (h : Bt X r v) (g : Bt X r w) : v = w := by
  rcases h with ⟨a, b⟩ | ⟨a, b, c⟩ | ⟨a, b, c⟩ <;> rcases g with ⟨a', b'⟩ | ⟨a', b', c'⟩ | ⟨a', b', c'⟩ <;> first | omega | exact absurd b b' | exact absurd b' b | exact absurd c c' | exact absurd c' c
def NV (X : V4 → Prop) : Prop := ∃ w, X w ∧ nv w
/-- a comparison under a set of weights -/
def QC (A : Nat → Nat → Int) (X : V4 → Prop) (z y v : Int) : Prop := (two A z y = true ∧ NV X ∧ Bt X (leadv A z.toNat y.toNat) v) ∨ (¬ (two A z y = true ∧ NV X) ∧ v = -1)
theorem qc_fun {A : Nat → Nat → Int} {X : V4 → Prop} {z y v w : Int} (h : QC A X z y v) (g : QC A X z y w) : v = w := by
  rcases h with ⟨a, b, c⟩ | ⟨a, b⟩ <;> rcases g with ⟨a', b', c'⟩ | ⟨a', b'⟩
  · exact bt_fun c c'
  · exact absurd ⟨a, b⟩ a'
  · exact absurd ⟨a', b'⟩ a
  · omega
theorem inz_r {A : Nat → Nat → Int} {z : Int} (h : inz A z = true) : 0 ≤ z ∧ z ≤ 7 ∧ inb A z.toNat = true := by
  unfold inz at h
  simp only [Bool.and_eq_true, decide_eq_true_eq] at h
  exact ⟨h.1.1, h.1.2, h.2⟩
theorem s_areTwo {A : Nat → Nat → Int} {ζ : ZS} (h : Rf A ζ) (hw : Wa A) {z y : Int} (hz : r32 z) (hy : r32 y) : g_X12_areTwo z y ζ = some (bi (two A z y), ζ) := by
  apply ok_eq
  unfold g_X12_areTwo g_X12_areTwo_45 g_X12_areTwo_46
  have f0 : ∀ {b : Bool}, b = false → Ok (gz (0 : Int) (some ((0 : Int), ζ))) (fun x => x = (bi b, ζ)) := fun e => ok_gz (Or.inl rfl) (ok_some (by rw [e]; rfl))
  refine ok_beq (s_within ζ hz (by omega) (by omega)) (ok_bi (fun e => f0 ?_) (fun e1 => ?_))
  · unfold two inz; rw [e]; rfl
  refine ok_beq (s_within ζ hy (by omega) (by omega)) (ok_bi (fun e => f0 ?_) (fun e2 => ?_))
  · unfold two
    have : inz A y = false := by unfold inz; rw [e]; rfl
    rw [this, Bool.and_false]; rfl
  refine ok_gI hz.1 hz.2 hy.1 hy.2 (fun e => f0 ?_) (fun e3 => ?_)
  · unfold two; rw [decide_eq_true e]; simp
  refine ok_beq (s_isIn h hw hz) (ok_bi (fun e => f0 ?_) (fun e4 => ?_))
  · unfold two; rw [e]; rfl
  refine ok_beq (s_isIn h hw hy) (ok_bi (fun e => f0 ?_) (fun e5 => ?_))
  · unfold two; rw [e, Bool.and_false]; rfl
  · refine ok_gz (Or.inr rfl) (ok_some ?_)
    unfold two; rw [e4, e5, decide_eq_false e3]; rfl
theorem s_findNow {A : Nat → Nat → Int} {ζ : ZS} (h : Rf A ζ) (hW : Wall A) : Ok (g_X12_findNow ζ) (fun r => Lw A r.2 0 (Sc A (hrd A)) 12 ∧ Rf A r.2 ∧ Fx Wq ζ r.2 ∧ (r.1 = 0 ∨ r.1 = 1) ∧ (r.1 = 1 ↔ NV (Sc A (hrd A)))) := by
  obtain ⟨hw, hs, hv, hx, h32, _⟩ := hW
  unfold g_X12_findNow g_X12_findNow_26
  refine ok_beq (s_heard h hs hv) ?_
  obtain ⟨ζ1, e1, h1⟩ := s_lay (P := hrd A) h hw hs rfl
  cases hc : g_X12_laysRows ((msk (hrd A) 12 : Nat) : Int) ζ with
  | none => rw [hc] at e1; cases e1
  | some q =>
    rw [hc] at e1
    have e1 : g_X12_findCorners q = some ζ1 := e1
    refine ok_beq rfl (ok_beq e1 ?_)
    have lw := l0_lw h1.1
    obtain ⟨n, hn, n44, hne, _⟩ := lb_n lw.1 (by omega)
    have e0 : Int.toNat 0 = 0 := rfl
    rw [e0, hn]
    refine ok_gk (by omega) (by omega) (ok_gI (by omega) (by omega) (by omega) (by omega) (fun g => ?_) (fun g => ?_))
    · exact ok_gz (Or.inl rfl) (ok_some ⟨lw, rf_Wq h h1.2, h1.2, Or.inl rfl, ⟨fun q => absurd q (show ¬ ((0 : Int) = 1) by decide), fun q => by have := hne.mpr q; omega⟩⟩)
    · exact ok_gz (Or.inr rfl) (ok_some ⟨lw, rf_Wq h h1.2, h1.2, Or.inr rfl, ⟨fun _ => hne.mp (by omega), fun _ => rfl⟩⟩)
theorem s_betterNow {A : Nat → Nat → Int} {ζ : ZS} (h : Rf A ζ) (hw : Wa A) (hx : Wx A) {a b q : Nat} {z y : Int} {X : V4 → Prop} (hz : z = a) (hy : y = b) (ha : a < 8) (hb : b < 8) (hL : Lb A ζ 0 X q) (hq : q ≤ 20) : Ok (g_X12_betterNow z y ζ) (fun r => r.2 = ζ ∧ Bt X (abv A a b) r.1) := by
  obtain ⟨n, hn, n44, hne, hpt, hal⟩ := lb_n hL hq
  have hso := lb_so hL hn (abv A a b)
  have hal := hal (abv A a b)
  have bd1 : ∀ i, i < n → -2400000000 ≤ dt (abv A a b) (rf ζ 0 i) ∧ dt (abv A a b) (rf ζ 0 i) ≤ 2400000000 := fun i hi => dt_bd (abv_bd hw hx ha hb) (hpt i hi).2.2.1
  have key : ∀ (m : Nat) (p s : Bool) (w : Int) (c : Nat), w = c → c ≤ n → n - c < m → (p = true ↔ ∀ i, i < c → 0 ≤ dt (abv A a b) (rf ζ 0 i)) → (s = true ↔ ∃ i, i < c ∧ 0 ≤ dt (abv A a b) (rf ζ 0 i)) → Ok (g_X12_betterNow_8 z y m (bi p) (bi s) w ζ) (fun r => r.2 = ζ ∧ Bt X (abv A a b) r.1) := by
    intro m
    induction m with
    | zero => intro _ _ _ _ _ _ h; omega
    | succ m ih =>
      intro p s w c hwc hc hm hp hs
      subst hwc
      unfold g_X12_betterNow_8 g_X12_betterNow_41 g_X12_betterNow_42 g_X12_betterNow_62 g_X12_betterNow_67 g_X12_betterNow_93
      have e0 : Int.toNat 0 = 0 := rfl
      rw [e0, hn]
      refine ok_gk (by omega) (by omega) (ok_gI (by omega) (by omega) (by omega) (by omega) (fun g => ?_) (fun g => ?_))
      · have ec : c = n := by omega
        subst ec
        have hp' : p = true ↔ Al X (abv A a b) := hp.trans hal
        have hs' : s = true ↔ So X (abv A a b) := hs.trans hso
        refine ok_bi (fun e => ok_bi (fun e2 => ok_some ⟨rfl, ?_⟩) (fun e2 => ok_some ⟨rfl, ?_⟩)) (fun e => ok_some ⟨rfl, Or.inl ⟨rfl, hp'.mp e⟩⟩)
        · exact Or.inr (Or.inr ⟨rfl, fun q => (by rw [hp'.mpr q] at e; cases e), fun q => (by rw [hs'.mpr q] at e2; cases e2)⟩)
        · exact Or.inr (Or.inl ⟨rfl, fun q => (by rw [hp'.mpr q] at e; cases e), hs'.mp e2⟩)
      · have hcn : c < n := by omega
        have at_ : g_X12_aboveAt z y 0 (c : Int) ζ = some (dt (abv A a b) (rf ζ 0 c), ζ) := s_aboveAt h hw hx hz hy (lv := 0) rfl rfl ha hb (by omega) (by omega) (hpt c hcn).2.2.2
        have b1 := bd1 c hcn
        have n1 : (c : Int) + 1 = ((c + 1 : Nat) : Int) := by omega
        have n3 : n - (c + 1) < m := by clear hp hs ih; omega
        have nxt : ∀ p' s' : Bool, (p' = true ↔ (p = true ∧ 0 ≤ dt (abv A a b) (rf ζ 0 c))) → (s' = true ↔ (s = true ∨ 0 ≤ dt (abv A a b) (rf ζ 0 c))) → Ok (g_X12_betterNow_8 z y m (bi p') (bi s') ((c : Int) + 1) ζ) (fun r => r.2 = ζ ∧ Bt X (abv A a b) r.1) := by
          intro p' s' e1 e2
          refine ih p' s' _ (c + 1) n1 hcn n3 (e1.trans ?_) (e2.trans ?_)
          · rw [hp]
            exact ⟨fun ⟨g1, g2⟩ i hi => by
              by_cases e : i = c
              · rw [e]; exact g2
              · exact g1 i (by omega), fun g => ⟨fun i hi => g i (by omega), g c (by omega)⟩⟩
          · rw [hs]
            exact ⟨fun g => by
              rcases g with ⟨i, hi, g⟩ | g
              · exact ⟨i, by omega, g⟩
              · exact ⟨c, by omega, g⟩, fun ⟨i, hi, g⟩ => by
              by_cases e : i = c
              · rw [e] at g; exact Or.inr g
              · exact Or.inl ⟨i, by omega, g⟩⟩
        have tail : ∀ p' : Bool, (p' = true ↔ (p = true ∧ 0 ≤ dt (abv A a b) (rf ζ 0 c))) → ∀ v : Int, v = bi p' → Ok (gI (bi s) 0 (bi s = 0) ((g_X12_aboveAt z y 0 (c : Int) ζ).bind fun q1 => gJ q1.1 0 (q1.1 < 0) (g_X12_betterNow_8 z y m v 0 ((c : Int) + 1) q1.2) (g_X12_betterNow_8 z y m v 1 ((c : Int) + 1) q1.2)) (g_X12_betterNow_8 z y m v 1 ((c : Int) + 1) ζ)) (fun r => r.2 = ζ ∧ Bt X (abv A a b) r.1) := by
          intro p' hp' v hv
          subst hv
          refine ok_bi (fun e => ok_beq at_ ?_) (fun e => ?_)
          · refine ok_gJ (by dsimp only; omega) (by dsimp only; omega) (by omega) (by omega) (fun q => ?_) (fun q => ?_)
            · have q : dt (abv A a b) (rf ζ 0 c) < 0 := q
              exact nxt p' false hp' ⟨fun g => (by cases g), fun g => by rcases g with g | g; rw [e] at g; cases g; omega⟩
            · have q : ¬ dt (abv A a b) (rf ζ 0 c) < 0 := q
              exact nxt p' true hp' ⟨fun _ => Or.inr (by omega), fun _ => rfl⟩
          · exact nxt p' true hp' ⟨fun _ => Or.inl e, fun _ => rfl⟩
        refine ok_bi (fun e => ?_) (fun e => ?_)
        · exact tail false ⟨fun g => (by cases g), fun g => by rw [e] at g; cases g.1⟩ 0 rfl
        · refine ok_beq at_ (ok_gJ (by dsimp only; omega) (by dsimp only; omega) (by omega) (by omega) (fun q => ?_) (fun q => ?_))
          · have q : dt (abv A a b) (rf ζ 0 c) < 0 := q
            exact tail false ⟨fun g => (by cases g), fun g => by have := g.2; omega⟩ 0 rfl
          · have q : ¬ dt (abv A a b) (rf ζ 0 c) < 0 := q
            exact tail true ⟨fun _ => ⟨e, by omega⟩, fun _ => rfl⟩ 1 rfl
  unfold g_X12_betterNow
  exact key FU true false 0 0 rfl (by omega) (by rw [FU_e]; omega) ⟨fun _ i hi => by omega, fun _ => rfl⟩ ⟨fun g => (by cases g), fun ⟨i, hi, _⟩ => by omega⟩
/-- of a call of the reference: its answer, what stays, and the class's cells as they were -/
def RP (A : Nat → Nat → Int) (ζ : ZS) (Q : Int → Prop) (r : Int × ZS) : Prop := Q r.1 ∧ Rf A r.2 ∧ Fx (fun x _ => x < 25 ∧ x ≠ 5) ζ r.2
theorem rf_0 {A : Nat → Nat → Int} {ζ : ZS} (h : Rf A ζ) (v : Int) : Rf A (zI ζ 0 0 v) := fun c k hp => by
  rw [zI_1, if_neg (by unfold psl at hp; omega)]; exact h c k hp
theorem wq_25 {ζ ζ' : ZS} (h : Fx Wq ζ ζ') : Fx (fun x _ => x < 25 ∧ x ≠ 5) ζ ζ' := fx_mono h (fun x y g => by unfold Wq Wr Wl at g; show x < 25 ∧ x ≠ 5; omega)
theorem a_better {A : Nat → Nat → Int} {ζ : ZS} (h : Rf A ζ) (hW : Wall A) {z y : Int} (hz : r32 z) (hy : r32 y) : Ok (g_X12_better z y ζ) (RP A ζ (QC A (Sc A (hrd A)) z y)) := by
  have hW' := hW
  obtain ⟨hw, hs, hv, hx, h32, _⟩ := hW
  have f0 : Fx (fun x _ => x < 25 ∧ x ≠ 5) ζ (zI ζ 0 0 0) := fx_I (fx_refl _ _) (by decide)
  unfold g_X12_better g_X12_better_30 g_X12_better_31
  refine ok_beq (s_areTwo (rf_0 h 0) hw hz hy) (ok_bi (fun e => ok_some ⟨Or.inr ⟨fun q => (by rw [e] at q; cases q.1), rfl⟩, rf_0 h 0, f0⟩) (fun e => ?_))
  refine ok_bind (s_findNow (rf_0 h 0) hW') (fun r ⟨lw, hr, hf, r01, r1⟩ => ?_)
  have f1 := fx_trans f0 (wq_25 hf)
  refine ok_gI (by omega) (by omega) (by omega) (by omega) (fun g => ok_some ⟨Or.inr ⟨fun q => (by have := r1.mpr q.2; omega), rfl⟩, hr, f1⟩) (fun g => ?_)
  have e2 := e
  unfold two at e2
  simp only [Bool.and_eq_true] at e2
  have iz := inz_r e2.1.1
  have iy := inz_r e2.1.2
  refine ok_bind (s_betterNow hr hw hx (a := z.toNat) (b := y.toNat) (by omega) (by omega) (by omega) (by omega) lw.1 (by omega)) (fun q ⟨q1, q2⟩ => ok_some ⟨Or.inl ⟨e, r1.mp (by omega), ?_⟩, by rw [q1]; exact hr, by rw [q1]; exact f1⟩)
  rw [abv_lead h32] at q2
  exact q2
/-! the class -/
theorem leadv_bd {A : Nat → Nat → Int} (hw : Wa A) {a b : Nat} (ha : a < 8) (hb : b < 8) : bd (leadv A a b) := fun m hm => by
  have h1 := val_bd hw ha hm
  have h2 := val_bd hw hb hm
  unfold leadv; omega
theorem s_compare {A : Nat → Nat → Int} {ζ : ZS} {c k q : Nat} {X : V4 → Prop} {z y : Int} (hw : Wa A) (hva : Va A ζ) (hcs : Cs ζ c k X q) (hq : q ≤ 19) (hc : 52 ≤ c ∧ c ≤ 121) (hz : r32 z) (hy : r32 y) : Ok (g_X4_compare c z y ζ) (fun r => QC A X z y r.1 ∧ Fx (We 135) ζ r.2) := by
  obtain ⟨n, c3, k1, k4, hn, n42, hne, hpt, hal, hso⟩ := cs_n hcs hq
  unfold g_X4_compare g_X4_compare_34
  have no : ¬ (two A z y = true ∧ NV X) → Ok (some ((-1 : Int), ζ)) (fun r => QC A X z y r.1 ∧ Fx (We 135) ζ r.2) := fun g => ok_some ⟨Or.inr ⟨g, rfl⟩, fx_refl _ _⟩
  refine ok_beq (s_isInC hva.2 hz) (ok_bi (fun e => no (fun q => by have := q.1; unfold two at this; rw [e] at this; cases this)) (fun e1 => ?_))
  refine ok_beq (s_isInC hva.2 hy) (ok_bi (fun e => no (fun q => by have := q.1; unfold two at this; rw [e, Bool.and_false] at this; cases this)) (fun e2 => ?_))
  refine ok_gI hz.1 hz.2 hy.1 hy.2 (fun e => no (fun q => by have := q.1; unfold two at this; rw [decide_eq_true e] at this; simp at this)) (fun e3 => ?_)
  show Ok (gI (ζ.1 c 5) 0 (ζ.1 c 5 = 0) _ _) _
  rw [hn]
  refine ok_gI (by omega) (by omega) (by omega) (by omega) (fun e => no (fun q => by have := hne.mpr q.2; omega)) (fun e4 => ?_)
  have htwo : two A z y = true := by unfold two; rw [e1, e2, decide_eq_false e3]; rfl
  have iz := inz_r e1
  have iy := inz_r e2
  refine ok_bind (s_fillLead (A := A) (a := z.toNat) (b := y.toNat) hva.1 (by omega) (by omega) (by omega) (by omega) (by omega) ln_135) (fun ζ1 ⟨h1, f1⟩ => ?_)
  have hcs1 : Cs ζ1 c k X q := cs_fx hcs (fun x y g1 g2 => f1.1 x y (by unfold We; omega))
  have hn1 : ζ1.1 c 5 = n := by rw [(f1.1 c 5 (by unfold We; omega)).1]; exact hn
  have ecw : ∀ i, cw ζ1 c i = cw ζ c i := fun i => by funext m; exact (f1.1 (c + 1) _ (by unfold We; omega)).2
  have hbd := leadv_bd hw (a := z.toNat) (b := y.toNat) (by omega) (by omega)
  obtain ⟨rv, hrv⟩ : ∃ rv, leadv A z.toNat y.toNat = rv := ⟨_, rfl⟩
  simp only [hrv] at h1 hbd
  have bd1 : ∀ i, i < n → -2400000000 ≤ dt rv (cw ζ c i) ∧ dt rv (cw ζ c i) ≤ 2400000000 := fun i hi => dt_bd hbd (hpt i hi).2.2.1
  have hal := hal rv
  have hso := hso rv
  have key : ∀ (m : Nat) (p s : Bool) (w : Int) (i : Nat), w = i → i ≤ n → n - i < m → (p = true ↔ ∀ j, j < i → 0 ≤ dt rv (cw ζ c j)) → (s = true ↔ ∃ j, j < i ∧ 0 ≤ dt rv (cw ζ c j)) → Ok (g_X4_compare_58 c m (bi p) (bi s) w ζ1) (fun r => Bt X rv r.1 ∧ r.2 = ζ1) := by
    intro m
    induction m with
    | zero => intro _ _ _ _ _ _ h; omega
    | succ m ih =>
      intro p s w i hwi hi hm hp hs
      subst hwi
      unfold g_X4_compare_58 g_X4_compare_87 g_X4_compare_103 g_X4_compare_104 g_X4_compare_116 g_X4_compare_121 g_X4_compare_148
      rw [hn1]
      refine ok_gI (by omega) (by omega) (by omega) (by omega) (fun g => ?_) (fun g => ?_)
      · have ec : i = n := by omega
        subst ec
        have hp' : p = true ↔ Al X rv := hp.trans hal
        have hs' : s = true ↔ So X rv := hs.trans hso
        refine ok_bi (fun e => ok_bi (fun e2 => ok_some ⟨?_, rfl⟩) (fun e2 => ok_some ⟨?_, rfl⟩)) (fun e => ok_some ⟨Or.inl ⟨rfl, hp'.mp e⟩, rfl⟩)
        · exact Or.inr (Or.inr ⟨rfl, fun q => (by rw [hp'.mpr q] at e; cases e), fun q => (by rw [hs'.mpr q] at e2; cases e2)⟩)
        · exact Or.inr (Or.inl ⟨rfl, fun q => (by rw [hp'.mpr q] at e; cases e), hs'.mp e2⟩)
      · have hin : i < n := by omega
        have b1 := bd1 i hin
        have n1 : (i : Int) + 1 = ((i + 1 : Nat) : Int) := by omega
        have n3 : n - (i + 1) < m := by clear hp hs ih; omega
        have nxt : ∀ p' s' : Bool, (p' = true ↔ (p = true ∧ 0 ≤ dt rv (cw ζ c i))) → (s' = true ↔ (s = true ∨ 0 ≤ dt rv (cw ζ c i))) → Ok (g_X4_compare_58 c m (bi p') (bi s') ((i : Int) + 1) ζ1) (fun r => Bt X rv r.1 ∧ r.2 = ζ1) := by
          intro p' s' e1 e2
          refine ih p' s' _ (i + 1) n1 hin n3 (e1.trans ?_) (e2.trans ?_)
          · rw [hp]
            exact ⟨fun ⟨g1, g2⟩ j hj => by
              by_cases e : j = i
              · rw [e]; exact g2
              · exact g1 j (by omega), fun g => ⟨fun j hj => g j (by omega), g i (by omega)⟩⟩
          · rw [hs]
            exact ⟨fun g => by
              rcases g with ⟨j, hj, g⟩ | g
              · exact ⟨j, by omega, g⟩
              · exact ⟨i, by omega, g⟩, fun ⟨j, hj, g⟩ => by
              by_cases e : j = i
              · rw [e] at g; exact Or.inr g
              · exact Or.inl ⟨j, by omega, g⟩⟩
        refine ok_beq (cs_prod ζ1 c 135 hcs1 hq rfl hn1 hin ln_135 h1 hbd) ?_
        rw [ecw i]
        refine ok_gJ (by dsimp only; omega) (by dsimp only; omega) (by omega) (by omega) (fun g => ?_) (fun g => ?_)
        · have g : dt rv (cw ζ c i) < 0 := g
          have sa : ∀ s', (s' = true ↔ s = true) → (s' = true ↔ (s = true ∨ 0 ≤ dt rv (cw ζ c i))) := fun s' e => e.trans ⟨Or.inl, fun q => by rcases q with q | q; exact q; omega⟩
          have tl : Ok (gI (bi s) 0 (bi s = 0) (gI (0 : Int) 0 ((0 : Int) = 0) (g_X4_compare_58 c m 0 0 ((i : Int) + 1) ζ1) (g_X4_compare_58 c m 0 1 ((i : Int) + 1) ζ1)) (g_X4_compare_58 c m 0 1 ((i : Int) + 1) ζ1)) (fun r => Bt X rv r.1 ∧ r.2 = ζ1) := by
            refine ok_bi (fun e => ?_) (fun e => ?_)
            · refine ok_gI (by decide) (by decide) (by decide) (by decide) (fun _ => ?_) (fun q => absurd rfl q)
              exact nxt false false ⟨fun q => (by cases q), fun q => by have := q.2; omega⟩ (sa false (by rw [e]))
            · exact nxt false true ⟨fun q => (by cases q), fun q => by have := q.2; omega⟩ (sa true (by rw [e]))
          refine ok_bi (fun e => tl) (fun e => ?_)
          exact ok_gI (by decide) (by decide) (by decide) (by decide) (fun _ => tl) (fun q => absurd rfl q)
        · have g : ¬ dt rv (cw ζ c i) < 0 := g
          have sb : (true = true ↔ (s = true ∨ 0 ≤ dt rv (cw ζ c i))) := ⟨fun _ => Or.inr (by omega), fun _ => rfl⟩
          have tl : ∀ p' : Bool, (p' = true ↔ (p = true ∧ 0 ≤ dt rv (cw ζ c i))) → Ok (gI (bi s) 0 (bi s = 0) (gI (1 : Int) 0 ((1 : Int) = 0) (g_X4_compare_58 c m (bi p') 0 ((i : Int) + 1) ζ1) (g_X4_compare_58 c m (bi p') 1 ((i : Int) + 1) ζ1)) (g_X4_compare_58 c m (bi p') 1 ((i : Int) + 1) ζ1)) (fun r => Bt X rv r.1 ∧ r.2 = ζ1) := by
            intro p' hp'
            refine ok_bi (fun e => ?_) (fun e => nxt p' true hp' sb)
            exact ok_gI (by decide) (by decide) (by decide) (by decide) (fun q => absurd q (by decide)) (fun _ => nxt p' true hp' sb)
          refine ok_bi (fun e => tl false ⟨fun q => (by cases q), fun q => by rw [e] at q; cases q.1⟩) (fun e => ?_)
          exact ok_gI (by decide) (by decide) (by decide) (by decide) (fun q => absurd q (by decide)) (fun _ => tl true ⟨fun _ => ⟨e, by omega⟩, fun _ => rfl⟩)
  refine ok_mono (key FU true false 0 0 rfl (by omega) (by rw [FU_e]; omega) ⟨fun _ i hi => by omega, fun _ => rfl⟩ ⟨fun g => (by cases g), fun ⟨i, hi, _⟩ => by omega⟩) (fun r ⟨q1, q2⟩ => ⟨Or.inl ⟨htwo, hne.mp (by omega), ?_⟩, by rw [q2]; exact f1⟩)
  rw [hrv]; exact q1
/-- where the class works: nothing that lasts -/
def Wsc (x _y : Nat) : Prop := x = 49 ∨ x = 67 ∨ x = 71 ∨ (73 ≤ x ∧ x ≤ 124) ∨ (126 ≤ x ∧ x ≤ 147)
/-- fresh: nothing is stale -/
def Cf (A : Nat → Nat → Int) (ζ : ZS) : Prop := Cr A ζ ∧ Fr A ζ ∧ ζ.1 26 18 = 0
theorem cf_sc {A : Nat → Nat → Int} {ζ ζ' : ZS} (hs : Ws A) (h : Cf A ζ) (hf : Fx Wsc ζ ζ') : Cf A ζ' := by
  obtain ⟨h1, h2, h3⟩ := h
  have z : ∀ x y, ¬ Wsc x y → ζ'.1 x y = ζ.1 x y := fun x y g => (hf.1 x y g).1
  have zl : ∀ x y, ¬ Wsc x y → ζ'.2.1 x y = ζ.2.1 x y := fun x y g => (hf.1 x y g).2
  refine ⟨cr_fx h1 ⟨by rw [hf.2], by rw [hf.2]⟩ (fun x y g => z x y (by unfold Wsc; omega)), ?_, by rw [z 26 18 (by unfold Wsc; omega)]; exact h3⟩
  obtain ⟨b1, b2, b3, k, b4, b5, R, n, ρ, b6, b7, b8, b9, b10⟩ := h2
  have e68 : ∀ i, cw ζ' 68 i = cw ζ 68 i := fun i => by funext m; exact zl 69 _ (by unfold Wsc; omega)
  refine ⟨⟨fun t m g1 g2 => by rw [z _ _ (by unfold Wsc; omega)]; exact b1.1 t m g1 g2, by rw [z _ _ (by unfold Wsc; omega)]; exact b1.2⟩, fun s m g1 g2 => ?_, by rw [z _ _ (by unfold Wsc; omega)]; exact b3, k, b4, cn_fx b5 (fun x => z _ _ (by unfold Wsc; omega)) (fun x => z _ _ (by unfold Wsc; omega)) (fun x => zl _ _ (by unfold Wsc; omega)), R, n, ρ, cn_fx b6 (fun x => z _ _ (by unfold Wsc; omega)) (fun x => z _ _ (by unfold Wsc; omega)) (fun x => zl _ _ (by unfold Wsc; omega)), b7, b8, b9, fun i j g1 g2 => by rw [e68, e68]; exact b10 i j g1 g2⟩
  have := hs.1
  rw [z _ _ (by unfold Wsc; omega)]; exact b2 s m g1 g2
theorem cf_cls {A : Nat → Nat → Int} {ζ : ZS} (h : Cf A ζ) : Cls A ζ := ⟨h.1, Or.inl h.2.2, fun _ => h.2.1⟩
theorem cf_fit {A : Nat → Nat → Int} {ζ : ZS} {k : Nat} (h : Cf A ζ) (hk : A 0 20 = k) : Cs ζ 68 k (Sc A (hrd A)) 12 := by
  obtain ⟨_, ⟨_, _, _, k', b4, _, R, n, ρ, b6, b7, b8, b9, _⟩, _⟩ := h
  have e : k' = k := by omega
  subst e
  exact ⟨R, n, ρ, b6, b7, b8, b9⟩
/-- of a call of the class: its answer, what stays, and the reference's cells as they were -/
def CP (A : Nat → Nat → Int) (ζ : ZS) (Q : Int → Prop) (r : Int × ZS) : Prop := Q r.1 ∧ Cls A r.2 ∧ Fx (fun x _ => 26 ≤ x) ζ r.2
theorem wfr_26 {ζ ζ' : ZS} (h : Fx Wfr ζ ζ') : Fx (fun x _ => 26 ≤ x) ζ ζ' := fx_mono h (fun x y g => by unfold Wfr at g; show 26 ≤ x; omega)
theorem wsc_26 {ζ ζ' : ZS} (h : Fx Wsc ζ ζ') : Fx (fun x _ => 26 ≤ x) ζ ζ' := fx_mono h (fun x y g => by unfold Wsc at g; show 26 ≤ x; omega)
theorem s_fresh {A : Nat → Nat → Int} {ζ : ZS} (hW : Wall A) (h : Cls A ζ) : Ok (g_X11_freshen ζ) (fun ζ' => Cf A ζ' ∧ Fx (fun x _ => 26 ≤ x) ζ ζ') :=
  ok_mono (s_freshen hW.1 hW.2.1 hW.2.2.1 h) (fun _ g => ⟨⟨g.1, g.2.1, g.2.2.1⟩, wfr_26 g.2.2.2⟩)
theorem b_better {A : Nat → Nat → Int} {ζ : ZS} (h : Cls A ζ) (hW : Wall A) {z y : Int} (hz : r32 z) (hy : r32 y) : Ok (g_X11_better z y ζ) (CP A ζ (QC A (Sc A (hrd A)) z y)) := by
  have qk := hW.1.1
  obtain ⟨k, hk⟩ : ∃ k : Nat, A 0 20 = k := ⟨(A 0 20).toNat, by omega⟩
  unfold g_X11_better
  refine ok_bind (s_fresh hW h) (fun ζ1 ⟨c1, f1⟩ => ok_bind (s_compare hW.1 c1.2.1.1 (cf_fit c1 hk) (by omega) (by omega) hz hy) (fun r ⟨r1, r2⟩ => ?_))
  have f2 : Fx Wsc ζ1 r.2 := fx_mono r2 (fun x y g => by unfold We at g; unfold Wsc; omega)
  exact ok_some ⟨r1, cf_cls (cf_sc hW.2.1 c1 f2), fx_trans f1 (wsc_26 f2)⟩
