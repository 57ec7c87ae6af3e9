/-! by weights that make up a part -/
def odv (A : Nat → Nat → Int) (n : Int) (a b : Nat) : V4 := fun m => (if val A a m < val A b m then 0 else 100) - n
def od (A : Nat → Nat → Int) (X : V4 → Prop) (n : Int) (a b : Nat) : Prop := Al X (odv A n a b)
theorem odv_bd {A : Nat → Nat → Int} {n : Int} (hn : 1 ≤ n ∧ n ≤ 100) (a b : Nat) : bd (odv A n a b) := fun m _ => by unfold odv; split <;> omega
/-- not outdone -/
def nod (A : Nat → Nat → Int) (X : V4 → Prop) (n : Int) (t : Nat) : Prop := ∀ u, u < 8 → u ≠ t → inb A u = true → od A X n u t → od A X n t u
def QM (A : Nat → Nat → Int) (z v : Int) : Prop := (((1 ≤ z ∧ z ≤ 100) ∧ NV (Sc A (hrd A))) ∧ QS (fun t => inb A t = true ∧ nod A (Sc A (hrd A)) z t) v) ∨ (¬ ((1 ≤ z ∧ z ≤ 100) ∧ NV (Sc A (hrd A))) ∧ v = -1)
theorem qm_fun {A : Nat → Nat → Int} {z v w : Int} (h : QM A z v) (g : QM A z w) : v = w := by
  rcases h with ⟨a, b⟩ | ⟨a, b⟩ <;> rcases g with ⟨a', b'⟩ | ⟨a', b'⟩
  · exact qs_fun b b'
  · exact absurd a a'
  · exact absurd a' a
  · omega
theorem s_sumAt {A : Nat → Nat → Int} {ζ : ZS} (h : Rf A ζ) (hw : Wa A) {lv c : Nat} {w u : Int} (hwl : w = lv) (hu : u = c) (hl : lv < 12) (hc : c < 72) (h0 : ∀ m : Nat, m < 4 → A 0 20 ≤ (m : Int) → rf ζ lv c m = 0) : g_X12_sumAt w u ζ = some (dt sG (rf ζ lv c), ζ) := by
  have qk := hw.1
  obtain ⟨k, hk⟩ : ∃ k : Nat, A 0 20 = k := ⟨(A 0 20).toNat, by omega⟩
  have key : ∀ (n : Nat) (acc x : Int) (j : Nat), x = j → j ≤ k → acc = psum (fun m => rf ζ lv c m) j → k - j < n → g_X12_sumAt_5 w u n acc x ζ = some (psum (fun m => rf ζ lv c m) k, ζ) := by
    intro n
    induction n with
    | zero => intro _ _ _ _ _ _ h; omega
    | succ n ih =>
      intro acc x j hxj hj hacc hn
      subst hxj
      apply ok_eq
      unfold g_X12_sumAt_5
      rw [rf_k h, hk]
      refine ok_gI (by omega) (by omega) (by omega) (by omega) (fun g => ?_) (fun g => ?_)
      · refine ok_some ?_
        rw [hacc, show j = k by omega]
      · refine ok_beq (s_weightAt ζ hwl hu rfl hl hc (by omega)) ?_
        refine ok_of (ih _ _ (j + 1) (by omega) (by omega) ?_ (by omega))
        rw [hacc]; rfl
  unfold g_X12_sumAt
  rw [key FU 0 0 0 rfl (by omega) rfl (by rw [FU_e]; omega), psum_s (by omega) (fun m g1 g2 => h0 m g2 (by omega))]
theorem sG_bd {w : V4} (h : ∀ m, m < 4 → 0 ≤ w m ∧ w m ≤ 6000000) : 0 ≤ dt sG w ∧ dt sG w ≤ 24000000 := by
  rw [sG_dt]
  have h0 := h 0 (by decide)
  have h1 := h 1 (by decide)
  have h2 := h 2 (by decide)
  have h3 := h 3 (by decide)
  omega
theorem s_outdoes {A : Nat → Nat → Int} {ζ : ZS} (h : Rf A ζ) (hw : Wa A) {a b : Nat} {z y x : Int} {X : V4 → Prop} (hz : z = a) (hy : y = b) (ha : a < 8) (hb : b < 8) (hx : 1 ≤ x ∧ x ≤ 100) (hL : Lb A ζ 0 X 12) : Ok (g_X12_outdoes z y x ζ) (fun r => r.2 = ζ ∧ ∃ p : Bool, r.1 = bi p ∧ (p = true ↔ od A X x a b)) := by
  obtain ⟨n, hn, n44, hne, hpt, hal⟩ := lb_n hL (by omega)
  have hal := hal (odv A x a b)
  have qk := hw.1
  obtain ⟨k, hk⟩ : ∃ k : Nat, A 0 20 = k := ⟨(A 0 20).toNat, by omega⟩
  let Post : Int × ZS → Prop := fun r => r.2 = ζ ∧ ∃ p : Bool, r.1 = bi p ∧ (p = true ↔ od A X x a b)
  -- the weights of the measures by which a is not below
  let cn : Nat → Nat → Int := fun c m => if val A a m < val A b m then 0 else rf ζ 0 c m
  have edt : ∀ c, c < n → dt (odv A x a b) (rf ζ 0 c) = 100 * psum (cn c) k - x * dt sG (rf ζ 0 c) := by
    intro c hc
    have h0 : ∀ m : Nat, m < 4 → k ≤ m → rf ζ 0 c m = 0 := fun m g1 g2 => (hpt c hc).2.2.2 m g1 (by omega)
    have e1 : psum (cn c) k = psum (fun m => rf ζ 0 c m * (if val A a m < val A b m then 0 else 1)) k := psum_congr (fun m _ => by show (if val A a m < val A b m then 0 else rf ζ 0 c m) = _; split <;> omega)
    rw [e1, psum_dt (r := fun m => if val A a m < val A b m then 0 else 1) (by omega) (fun m g1 g2 => h0 m g2 g1), sG_dt]
    unfold odv
    simp only [dt]
    have s : ∀ m, ((if val A a m < val A b m then (0 : Int) else 100) - x) * rf ζ 0 c m = 100 * ((if val A a m < val A b m then (0 : Int) else 1) * rf ζ 0 c m) - x * rf ζ 0 c m := fun m => by split <;> grind
    rw [s 0, s 1, s 2, s 3]
    grind
  have inner : ∀ (c : Nat) (r3 : Int → ZS → Option (Int × ZS)), c < n → (0 ≤ dt (odv A x a b) (rf ζ 0 c) → Ok (r3 ((c : Int) + 1) ζ) Post) → ∀ (m : Nat) (acc w : Int) (j : Nat), w = j → j ≤ k → k - j < m → acc = psum (cn c) j → Ok (g_X12_outdoes_20 z y x (c : Int) r3 m acc w ζ) Post := by
    intro c r3 hcn hnext m
    have h0 : ∀ m : Nat, m < 4 → A 0 20 ≤ (m : Int) → rf ζ 0 c m = 0 := (hpt c hcn).2.2.2
    have pb := (hpt c hcn).2.2.1
    have sb := sG_bd pb
    have cb : ∀ j, j ≤ 4 → 0 ≤ psum (cn c) j ∧ psum (cn c) j ≤ 24000000 := fun j hj => by
      have q : ∀ m, m < 4 → 0 ≤ cn c m ∧ cn c m ≤ 6000000 := fun m hm => by
        have := pb m hm
        show 0 ≤ (if val A a m < val A b m then 0 else rf ζ 0 c m) ∧ (if val A a m < val A b m then 0 else rf ζ 0 c m) ≤ 6000000
        split <;> omega
      have q0 := q 0 (by decide)
      have q1 := q 1 (by decide)
      have q2 := q 2 (by decide)
      have q3 := q 3 (by decide)
      generalize cn c = ff at *
      rcases (show j = 0 ∨ j = 1 ∨ j = 2 ∨ j = 3 ∨ j = 4 by omega) with e | e | e | e | e <;> rw [e] <;> simp only [psum] <;> omega
    induction m with
    | zero => intro _ _ _ _ _ h; omega
    | succ m ih =>
      intro acc w j hwj hj hm hacc
      subst hwj; subst hacc
      have cj := cb j (by omega)
      unfold g_X12_outdoes_20 g_X12_outdoes_61
      rw [rf_k h, hk]
      refine ok_gI (by omega) (by omega) (by omega) (by omega) (fun g => ?_) (fun g => ?_)
      · have ej : j = k := by omega
        subst ej
        have mm := mb (a := x) (b := dt sG (rf ζ 0 c)) (A := 100) (B := 24000000) (by omega) (by omega) (by omega) (by omega)
        refine ok_gw (by omega) (by omega) (ok_beq (s_sumAt h hw (lv := 0) rfl rfl (by omega) (by omega) h0) ?_)
        have ec := edt c hcn
        refine ok_gJ (by dsimp only; omega) (by dsimp only; omega) (by omega) (by omega) (fun q => hnext ?_) (fun q => ok_some ⟨rfl, false, rfl, fun q => (by cases q), fun q' => ?_⟩)
        · have q : x * dt sG (rf ζ 0 c) ≤ 100 * psum (cn c) j := q
          omega
        · have q : ¬ x * dt sG (rf ζ 0 c) ≤ 100 * psum (cn c) j := q
          have := hal.mpr q' c hcn
          omega
      · have v1 := val_bd hw (t := a) (m := j) ha (by omega)
        have v2 := val_bd hw (t := b) (m := j) hb (by omega)
        refine ok_beq (s_valueOf h hw hz rfl ha (by omega)) (ok_beq (s_valueOf h hw hy rfl hb (by omega)) (ok_gI (by dsimp only; omega) (by dsimp only; omega) (by dsimp only; omega) (by dsimp only; omega) (fun q => ?_) (fun q => ok_beq (s_weightAt ζ (lv := 0) rfl rfl rfl (by omega) (by omega) (by omega)) ?_)))
        · refine ih _ _ (j + 1) (by omega) (by omega) (by omega) ?_
          show _ = psum (cn c) j + (if val A a j < val A b j then 0 else rf ζ 0 c j)
          rw [if_pos q]
        · refine ih _ _ (j + 1) (by omega) (by omega) (by omega) ?_
          show _ = psum (cn c) j + (if val A a j < val A b j then 0 else rf ζ 0 c j)
          rw [if_neg q]
  have outer : ∀ (m : Nat) (w : Int) (c : Nat), w = c → c ≤ n → n - c < m → (∀ i, i < c → 0 ≤ dt (odv A x a b) (rf ζ 0 i)) → Ok (g_X12_outdoes_3 z y x m w ζ) Post := by
    intro m
    induction m with
    | zero => intro _ _ _ _ h; omega
    | succ m ih =>
      intro w c hwc hc hm hold
      subst hwc
      unfold g_X12_outdoes_3
      have e0 : Int.toNat 0 = 0 := rfl
      rw [e0, hn]
      refine ok_gk (by omega) (by omega) (ok_gI (by omega) (by omega) (by omega) (by omega) (fun g => ok_some ⟨rfl, true, rfl, fun _ => hal.mp (fun i hi => hold i (by omega)), fun _ => rfl⟩) (fun g => ?_))
      refine inner c _ (by omega) (fun q => ih _ (c + 1) (by omega) (by omega) (by omega) (fun i hi => ?_)) FU 0 0 0 rfl (by omega) (by rw [FU_e]; omega) rfl
      by_cases e : i = c
      · rw [e]; exact q
      · exact hold i (by omega)
  exact outer FU 0 0 rfl (by omega) (by rw [FU_e]; omega) (fun i hi => by omega)
theorem a_many {A : Nat → Nat → Int} {ζ : ZS} (h : Rf A ζ) (hW : Wall A) {z : Int} (hz : r32 z) : Ok (g_X12_many z ζ) (RP A ζ (QM A z)) := by
  have hW' := hW
  obtain ⟨hw, hs, hv, hwx, h32, _⟩ := hW
  have f0 : Fx (fun x _ => x < 25 ∧ x ≠ 5) ζ (zI ζ 0 0 0) := fx_I (fx_refl _ _) (by decide)
  unfold g_X12_many g_X12_many_22
  refine ok_beq (s_within _ hz (by omega) (by omega)) (ok_bi (fun e => ok_some (rp_same h (Or.inr ⟨fun q => ?_, rfl⟩))) (fun e => ?_))
  · rw [decide_eq_true q.1.1, decide_eq_true q.1.2] at e; cases e
  simp only [Bool.and_eq_true, decide_eq_true_eq] at e
  refine ok_bind (s_findNow (rf_0 h 0) hW') (fun r ⟨lw, hr, hf, r01, r1⟩ => ?_)
  have f1 := fx_trans f0 (wq_25 hf)
  refine ok_gI (by omega) (by omega) (by omega) (by omega) (fun g => ok_some ⟨Or.inr ⟨fun q => (by have := r1.mpr q.2; omega), rfl⟩, hr, f1⟩) (fun g0 => ?_)
  have hcan := r1.mp (by omega)
  generalize r.2 = ζ0 at lw hr hf f1
  obtain ⟨X, hX⟩ : ∃ X, X = Sc A (hrd A) := ⟨_, rfl⟩
  rw [← hX] at lw
  have inner : ∀ (t : Nat) (r28 : Int → Int → ZS → Option (Int × ZS)) (p : Nat → Bool), t < 8 → (∀ b : Bool, (b = true ↔ (inb A t = true ∧ nod A X z t)) → Ok (r28 (if b = true then ((msk (fun i => p i || decide (i = t)) 8 : Nat) : Int) else ((msk p 8 : Nat) : Int)) ((t : Int) + 1) ζ0) (RP A ζ (QM A z))) → ∀ (m : Nat) (b : Bool) (w : Int) (u : Nat), w = u → u ≤ 8 → 8 - u < m → (b = true ↔ (inb A t = true ∧ ∀ u', u' < u → u' ≠ t → inb A u' = true → od A X z u' t → od A X z t u')) → Ok (g_X12_many_44 z ((msk p 8 : Nat) : Int) (t : Int) r28 m (bi b) w ζ0) (RP A ζ (QM A z)) := by
    intro t r28 p ht hnext m
    induction m with
    | zero => intro _ _ _ _ _ h; omega
    | succ m ih =>
      intro b w u hwu hu hm hb
      subst hwu
      unfold g_X12_many_44 g_X12_many_119 g_X12_many_97 g_X12_many_93 g_X12_many_98
      have n1 : (u : Int) + 1 = ((u + 1 : Nat) : Int) := by omega
      refine ok_gI (by omega) (by omega) (by omega) (by omega) (fun g => ?_) (fun g => ?_)
      · have e8 : u = 8 := by clear hb ih; omega
        subst e8
        refine ok_bi (fun e2 => ?_) (fun e2 => ?_)
        · have := hnext false ⟨fun q => (by cases q), fun q => by have := hb.mpr q; rw [e2] at this; cases this⟩
          rw [if_neg (by decide)] at this
          rw [z_or0 p (by omega)]
          exact this
        · have := hnext true ⟨fun _ => hb.mp e2, fun _ => rfl⟩
          rw [if_pos rfl] at this
          rw [z_in p (by omega) ht]
          exact this
      · have hu8 : u < 8 := by clear hb ih; omega
        have n3 : 8 - (u + 1) < m := by clear hb ih; omega
        have nx : ∀ b' : Bool, (b' = true ↔ (b = true ∧ (u ≠ t → inb A u = true → od A X z u t → od A X z t u))) → Ok (g_X12_many_44 z ((msk p 8 : Nat) : Int) (t : Int) r28 m (bi b') ((u : Int) + 1) ζ0) (RP A ζ (QM A z)) := by
          intro b' e1
          refine ih b' _ (u + 1) n1 hu8 n3 (e1.trans ?_)
          rw [hb]
          exact ⟨fun ⟨⟨c1, c2⟩, c3⟩ => ⟨c1, fun i hi => by
            by_cases ei : i = u
            · rw [ei]; exact c3
            · exact c2 i (by omega)⟩, fun ⟨c1, c2⟩ => ⟨⟨c1, fun i hi => c2 i (by omega)⟩, c2 u (by omega)⟩⟩
        refine ok_bi (fun e2 => nx false ⟨fun q => (by cases q), fun q => by rw [e2] at q; cases q.1⟩) (fun e2 => ?_)
        refine ok_gI (by omega) (by omega) (by omega) (by omega) (fun g2 => nx true ⟨fun _ => ⟨e2, fun q => absurd (by clear hb ih; omega) q⟩, fun _ => rfl⟩) (fun g2 => ?_)
        refine ok_beq (s_isInN hr hw rfl hu8) (ok_bi (fun e3 => nx true ⟨fun _ => ⟨e2, fun _ q => by rw [e3] at q; cases q⟩, fun _ => rfl⟩) (fun e3 => ?_))
        refine ok_bind (s_outdoes hr hw rfl rfl hu8 ht e lw.1) (fun q ⟨q0, p1, q1, q2⟩ => ?_)
        rw [q1, q0]
        refine ok_bi (fun e4 => nx true ⟨fun _ => ⟨e2, fun _ _ c => by have := q2.mpr c; rw [e4] at this; cases this⟩, fun _ => rfl⟩) (fun e4 => ?_)
        refine ok_bind (s_outdoes hr hw rfl rfl ht hu8 e lw.1) (fun q' ⟨q0', p2, q1', q2'⟩ => ?_)
        rw [q1', q0']
        refine ok_bi (fun e5 => nx false ⟨fun c => (by cases c), fun c => ?_⟩) (fun e5 => nx true ⟨fun _ => ⟨e2, fun _ _ _ => q2'.mp e5⟩, fun _ => rfl⟩)
        have := q2'.mpr (c.2 (by clear hb ih; omega) e3 (q2.mp e4))
        rw [e5] at this; cases this
  have outer : ∀ (m : Nat) (acc w : Int) (t : Nat) (p : Nat → Bool), w = t → t ≤ 8 → 8 - t < m → acc = ((msk p 8 : Nat) : Int) → (∀ i, i < 8 → (p i = true ↔ (i < t ∧ inb A i = true ∧ nod A X z i))) → Ok (g_X12_many_28 z m acc w ζ0) (RP A ζ (QM A z)) := by
    intro m
    induction m with
    | zero => intro _ _ _ _ _ _ h; omega
    | succ m ih =>
      intro acc w t p hwt ht hm ha hp
      subst hwt; subst ha
      unfold g_X12_many_28
      refine ok_gI (by omega) (by omega) (by omega) (by omega) (fun g => ok_some ⟨Or.inl ⟨⟨e, hcan⟩, p, rfl, fun i hi => (hp i hi).trans (by rw [hX]; exact ⟨fun q => q.2, fun q => ⟨by omega, q⟩⟩)⟩, hr, f1⟩) (fun g => ?_)
      have ht8 : t < 8 := by clear hp ih; omega
      have n1 : (t : Int) + 1 = ((t + 1 : Nat) : Int) := by omega
      have n3 : 8 - (t + 1) < m := by clear hp ih; omega
      refine ok_beq (s_isInN hr hw rfl ht8) (inner t _ p ht8 (fun b hb => ?_) FU (inb A t) 0 0 rfl (by omega) (by rw [FU_e]; omega) ⟨fun q => ⟨q, fun u' h' => by omega⟩, fun q => q.1⟩)
      cases b with
      | true =>
        rw [if_pos rfl]
        refine ih _ _ (t + 1) _ n1 ht8 n3 rfl (fun i hi => ?_)
        by_cases c : i = t
        · subst c
          simp only [decide_true, Bool.or_true, true_iff]
          exact ⟨by omega, hb.mp rfl⟩
        · simp only [c, decide_false, Bool.or_false]
          exact (hp i hi).trans ⟨fun q => ⟨by omega, q.2⟩, fun q => ⟨by omega, q.2⟩⟩
      | false =>
        rw [if_neg (by decide)]
        refine ih _ _ (t + 1) p n1 ht8 n3 rfl (fun i hi => (hp i hi).trans ⟨fun q => ⟨by omega, q.2⟩, fun q => ⟨?_, q.2⟩⟩)
        apply Classical.byContradiction
        intro c
        have ei : i = t := by omega
        subst ei
        have := hb.mpr q.2
        cases this
  exact outer FU 0 0 0 (fun _ => false) rfl (by omega) (by rw [FU_e]; omega) (by rw [msk_0 _ (fun _ _ => rfl)]; rfl) (fun i _ => ⟨fun q => (by cases q), fun q => by omega⟩)
/-! the class -/
theorem cs_keeps (ζ : ZS) (c e : Nat) {k q : Nat} {X : V4 → Prop} {r : V4} (h : Cs ζ c k X q) (hq : q ≤ 19) (hl : ln e = 4) (hrow : ∀ m, m < 4 → ζ.1 e m = r m) (hbd : bd r) : Ok (g_X1_keeps c e ζ) (fun x => x.2 = ζ ∧ ∃ p : Bool, x.1 = bi p ∧ (p = true ↔ Al X r)) := by
  obtain ⟨R, n, ρ, hc, hr, hRq, hsem⟩ := h
  have n42 := cs_44 hc hr hRq hq
  refine ok_mono (s_keeps ζ c e hc hr (by omega) hl (fun m hm => by show -100 ≤ ζ.1 e m ∧ ζ.1 e m ≤ 100; rw [hrow m hm]; exact hbd m hm)) (fun x ⟨x1, x2, x3⟩ => ⟨x1, ?_⟩)
  have e1 : (∀ w, InC (Ak k R ρ) w → 0 ≤ dt (fun m => ζ.1 e m) w) ↔ Al X r := by
    constructor
    · intro g w hw
      rw [← dt_e4l (r := fun m => ζ.1 e m) (s := r) (fun m hm => hrow m hm)]
      exact g w ((hsem w).mpr hw)
    · intro g w hw
      rw [dt_e4l (r := fun m => ζ.1 e m) (s := r) (fun m hm => hrow m hm)]
      exact g w ((hsem w).mp hw)
  rw [e1] at x3
  rcases x2 with x2 | x2
  · exact ⟨false, x2, fun q => (by cases q), fun q => by have := x3.mpr q; omega⟩
  · exact ⟨true, x2, fun _ => x3.mp x2, fun _ => rfl⟩
theorem s_outdoesC {A : Nat → Nat → Int} {ζ : ZS} {a b k : Nat} {z y x : Int} {X : V4 → Prop} (hva : Va A ζ) (hw : Wa A) (hcs : Cs ζ 68 k X 12) (hz : z = a) (hy : y = b) (ha : a < 8) (hb : b < 8) (hx : 1 ≤ x ∧ x ≤ 100) : Ok (g_X4_outdoes z y x ζ) (fun r => (∃ p : Bool, r.1 = bi p ∧ (p = true ↔ od A X x a b)) ∧ Fx (We 135) ζ r.2) := by
  subst hz; subst hy
  have key : ∀ (n : Nat) (w : Int) (m : Nat) (ζ1 : ZS), w = m → m ≤ 4 → 4 - m < n → (∀ i, i < m → ζ1.1 135 i = odv A x a b i) → Fx (We 135) ζ ζ1 → Ok (g_X4_outdoes_3 a b x n w ζ1) (fun r => (∃ p : Bool, r.1 = bi p ∧ (p = true ↔ od A X x a b)) ∧ Fx (We 135) ζ r.2) := by
    intro n
    induction n with
    | zero => intro _ _ _ _ _ h; omega
    | succ n ih =>
      intro w m ζ1 hwm hm hn hold hf
      subst hwm
      unfold g_X4_outdoes_3 g_X4_outdoes_41 g_X4_outdoes_60
      have l135 : ln 135 = 4 := rfl
      rw [l135]
      refine ok_gI (by omega) (by omega) (by omega) (by omega) (fun g => ?_) (fun g => ?_)
      · have hcs1 : Cs ζ1 68 k X 12 := cs_fx hcs (fun x y g1 g2 => hf.1 x y (by unfold We; omega))
        refine ok_bind (cs_keeps ζ1 68 135 hcs1 (by omega) rfl (fun i hi => hold i (by omega)) (odv_bd hx a b)) (fun r ⟨r1, p, r2, r3⟩ => ?_)
        rw [r2, r1]
        exact ok_gz (bi_r p) (ok_some ⟨⟨p, rfl, r3⟩, hf⟩)
      · have hm4 : m < 4 := by omega
        rw [show Int.toNat (a : Int) = a by omega, show Int.toNat (b : Int) = b by omega, show Int.toNat (m : Int) = m by omega]
        have e1 : ζ1.1 (40 + 1 + a) m = val A a m := by rw [(hf.1 _ _ (by unfold We; omega)).1]; exact hva.1 a m ha hm4
        have e2 : ζ1.1 (40 + 1 + b) m = val A b m := by rw [(hf.1 _ _ (by unfold We; omega)).1]; exact hva.1 b m hb hm4
        have v1 := val_bd hw (t := a) (m := m) ha hm4
        have v2 := val_bd hw (t := b) (m := m) hb hm4
        rw [e1, e2]
        have put : ∀ q : Int, q = (if val A a m < val A b m then 0 else 100) → Ok (gk (m : Int) 4 (g_X4_outdoes_3 a b x n ((m : Int) + 1) (zI ζ1 135 m (q - x)))) (fun r => (∃ p : Bool, r.1 = bi p ∧ (p = true ↔ od A X x a b)) ∧ Fx (We 135) ζ r.2) := by
          intro q hq
          refine ok_gk (by omega) (by omega) (ih _ (m + 1) _ (by omega) (by omega) (by omega) (fun i hi => ?_) (fx_I hf rfl))
          rw [zI_1]
          by_cases ei : i = m
          · rw [if_pos ⟨rfl, ei⟩, ei, hq]; rfl
          · rw [if_neg (by omega)]; exact hold i (by omega)
        refine ok_gk (by omega) (by omega) (ok_gk (by omega) (by omega) (ok_gk (by omega) (by omega) (ok_gk (by omega) (by omega) (ok_gI (by omega) (by omega) (by omega) (by omega) (fun q => ?_) (fun q => ?_)))))
        · exact ok_gI (by decide) (by decide) (by decide) (by decide) (fun _ => put 0 (by rw [if_pos q])) (fun c => absurd rfl c)
        · exact ok_gI (by decide) (by decide) (by decide) (by decide) (fun c => absurd c (by decide)) (fun _ => put 100 (by rw [if_neg q]))
  exact key FU 0 0 ζ rfl (by omega) (by rw [FU_e]; omega) (fun i hi => by omega) (fx_refl _ _)
