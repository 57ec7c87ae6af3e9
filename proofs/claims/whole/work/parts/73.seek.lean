/-! the fewest of some rows: the search; small and why of the reference -/
def ins (P : Nat → Bool) (s : Nat) : Nat → Bool := fun i => P i || decide (i = s)
def lop {X : Type} (U : Nat → Bool) (F : Nat → Option X) : Nat → Nat → Option X
  | 0, _ => none
  | f + 1, s => if U s = true then (match F s with | some x => some x | none => lop U F f (s + 1)) else lop U F f (s + 1)
def fsp (D : (Nat → Bool) → Bool) (U : Nat → Bool) (N : Nat) : Nat → Nat → (Nat → Bool) → Option (Nat → Bool)
  | 0, _, P => if D P = true then some (fun _ => false) else none
  | l + 1, fr, P => lop U (fun s => (fsp D U N l (s + 1) (ins P s)).map (fun q => ins q s)) (N - fr) fr
def fz (D : (Nat → Bool) → Bool) (U : Nat → Bool) (N : Nat) : Nat → Nat → Option (Nat × (Nat → Bool))
  | 0, _ => none
  | f + 1, n => match fsp D U N n 0 (fun _ => false) with | some q => some (n, q) | none => fz D U N f (n + 1)
theorem lop_none {X : Type} {U : Nat → Bool} {F : Nat → Option X} : ∀ {f s : Nat}, (∀ i, s ≤ i → U i = false) → lop U F f s = none
  | 0, _, _ => rfl
  | f + 1, s, h => by
    unfold lop
    rw [h s (Nat.le_refl s)]
    exact lop_none (fun i hi => h i (by omega))
theorem lop_skip {X : Type} {U : Nat → Bool} {F : Nat → Option X} {f s : Nat} (h : U s = false) : lop U F (f + 1) s = lop U F f (s + 1) := by
  rw [lop]
  rw [h]; rfl
theorem lop_miss {X : Type} {U : Nat → Bool} {F : Nat → Option X} {f s : Nat} (h : U s = true) (g : F s = none) : lop U F (f + 1) s = lop U F f (s + 1) := by
  rw [lop]
  rw [h, g]; rfl
theorem lop_hit {X : Type} {U : Nat → Bool} {F : Nat → Option X} {f s : Nat} {x : X} (h : U s = true) (g : F s = some x) : lop U F (f + 1) s = some x := by
  rw [lop]
  rw [h, g]; rfl
theorem lop_some {X : Type} {U : Nat → Bool} {F : Nat → Option X} {x : X} : ∀ {f s : Nat}, lop U F f s = some x → ∃ i, s ≤ i ∧ i < s + f ∧ F i = some x
  | 0, _, h => by cases h
  | f + 1, s, h => by
    cases u : U s with
    | false =>
      rw [lop_skip u] at h
      obtain ⟨i, a, b, c⟩ := lop_some h
      exact ⟨i, by omega, by omega, c⟩
    | true =>
      cases g : F s with
      | none =>
        rw [lop_miss u g] at h
        obtain ⟨i, a, b, c⟩ := lop_some h
        exact ⟨i, by omega, by omega, c⟩
      | some y =>
        rw [lop_hit u g] at h
        exact ⟨s, by omega, by omega, by rw [g]; exact h⟩
theorem fsp_bc {D : (Nat → Bool) → Bool} {U : Nat → Bool} {N : Nat} : ∀ {l fr : Nat} {P q : Nat → Bool}, fsp D U N l fr P = some q → bc q N = l ∧ ∀ i, q i = true → fr ≤ i ∧ i < N
  | 0, fr, P, q, h => by
    unfold fsp at h
    split at h
    · cases h
      refine ⟨?_, fun i hi => by cases hi⟩
      have : ∀ N, bc (fun _ => false) N = 0 := fun N => by induction N with
        | zero => rfl
        | succ N ih => simp only [bc]; rw [ih]; rfl
      exact this N
    · cases h
  | l + 1, fr, P, q, h => by
    unfold fsp at h
    obtain ⟨i, a, b, c⟩ := lop_some h
    cases e : fsp D U N l (i + 1) (ins P i) with
    | none => rw [e] at c; cases c
    | some q' =>
      rw [e] at c
      have c : some (ins q' i) = some q := c
      cases c
      have ih := fsp_bc e
      refine ⟨?_, fun j hj => ?_⟩
      · have r := bc_rem (q := ins q' i) (a := i) (m := N) (by omega) (by unfold ins; simp)
        rw [r]
        have : bc (fun j => ins q' i j && !decide (j = i)) N = bc q' N := bc_congr (fun j _ => by
          unfold ins
          by_cases g : j = i
          · subst g
            cases e2 : q' j with
            | false => simp
            | true => have := (ih.2 j e2).1; omega
          · simp [g])
        rw [this, ih.1]
      · unfold ins at hj
        rw [Bool.or_eq_true, decide_eq_true_eq] at hj
        rcases hj with g | g
        · have := ih.2 j g; omega
        · omega
/-- what is asked of a search: how many, or which -/
def Qz (o : Option (Nat × (Nat → Bool))) (N : Nat) (what v : Int) : Prop := match o with
  | some (n, q) => v = if what = 0 then (n : Int) else ((msk q N : Nat) : Int)
  | none => v = -1
theorem Qz_fun {o : Option (Nat × (Nat → Bool))} {N : Nat} {what v w : Int} (h : Qz o N what v) (g : Qz o N what w) : v = w := by
  unfold Qz at h g
  cases o with
  | none => exact h.trans g.symm
  | some p => exact h.trans g.symm
noncomputable def cdec (P : Prop) : Bool := @decide P (Classical.propDecidable P)
theorem cdec_iff {P : Prop} : cdec P = true ↔ P := by unfold cdec; exact @decide_eq_true_iff P (Classical.propDecidable P)
theorem cdec_f {P : Prop} : cdec P = false ↔ ¬ P := by
  constructor
  · intro h g; rw [cdec_iff.mpr g] at h; cases h
  · intro h; cases e : cdec P with
    | false => rfl
    | true => exact absurd (cdec_iff.mp e) h
noncomputable def Dn (A : Nat → Nat → Int) (P : Nat → Bool) : Bool := cdec (¬ NV (Sc A P))
noncomputable def Dw (A : Nat → Nat → Int) (a b : Nat) (P : Nat → Bool) : Bool := cdec (Al (Sc A P) (leadv A a b))
/-- of a search of the reference: found or not, and what -/
def SrP (A : Nat → Nat → Int) (ζ : ZS) (P : Nat → Bool) (N : Nat) (o : Option (Nat → Bool)) (r : Int × ZS) : Prop := Rf A r.2 ∧ Fx (fun x _ => x < 25 ∧ x ≠ 5) ζ r.2 ∧ match o with
  | some q => r.1 = 1 ∧ r.2.1 0 36 = ((msk (fun i => P i || q i) N : Nat) : Int)
  | none => r.1 = 0
theorem rf_36 {A : Nat → Nat → Int} {ζ : ZS} (h : Rf A ζ) (v : Int) : Rf A (zI ζ 0 36 v) := fun x y hp => by
  rw [zI_1, if_neg (by unfold psl at hp; omega)]; exact h x y hp
theorem msk_or0 (P : Nat → Bool) (N : Nat) : msk (fun i => P i || (fun _ => false) i) N = msk P N := msk_congr (fun i _ => by simp)
theorem msk_ins (P q : Nat → Bool) (s N : Nat) : msk (fun i => ins P s i || q i) N = msk (fun i => P i || ins q s i) N := msk_congr (fun i _ => by unfold ins; cases P i <;> cases q i <;> cases decide (i = s) <;> rfl)
theorem s_smallFrom {A : Nat → Nat → Int} (hW : Wall A) : ∀ (d l : Nat), l < d → l ≤ 12 → ∀ (fr : Nat) (P : Nat → Bool) (z y x : Int) (ζ : ZS), z = l → y = fr → x = ((msk P 12 : Nat) : Int) → fr ≤ 12 → Rf A ζ → Ok (g_X12_smallFrom d z y x ζ) (SrP A ζ P 12 (fsp (Dn A) (hrd A) 12 l fr P)) := by
  have hs := hW.2.1
  have q9 := hs.1
  have t0 : Int.toNat 0 = 0 := rfl
  obtain ⟨N, hN⟩ : ∃ N : Nat, A 9 0 = N := ⟨(A 9 0).toNat, by omega⟩
  intro d
  induction d with
  | zero => intro l h; omega
  | succ d ihd =>
    intro l hl hl12 fr P z y x ζ hz hy hx hfr h
    subst hz; subst hy; subst hx
    unfold g_X12_smallFrom g_X12_smallFrom_0
    rw [t0]
    cases l with
    | zero =>
      refine ok_gI (by omega) (by omega) (by omega) (by omega) (fun _ => ?_) (fun g => absurd rfl g)
      obtain ⟨ζ1, e1, h1⟩ := s_lay (P := P) h hW.1 hs rfl
      cases hc : g_X12_laysRows ((msk P 12 : Nat) : Int) ζ with
      | none => rw [hc] at e1; cases e1
      | some q =>
        rw [hc] at e1
        have e1 : g_X12_findCorners q = some ζ1 := e1
        refine ok_beq rfl (ok_beq e1 ?_)
        have lw := l0_lw h1.1
        have hr := rf_Wq h h1.2
        have f1 := wq_25 h1.2
        obtain ⟨n, hn, n44, hne, _⟩ := lb_n lw.1 (by omega)
        unfold g_X12_smallFrom_31 g_X12_smallFrom_48 fsp
        rw [t0, hn]
        have r20 : ∀ v, (zI ζ1 0 36 v).1 20 0 = n := fun v => by rw [zI_1, if_neg (by omega)]; exact hn
        refine ok_gk (by omega) (by omega) (ok_gI (by omega) (by omega) (by omega) (by omega) (fun g => ?_) (fun g => ?_))
        · rw [r20]
          have dn : Dn A P = true := cdec_iff.mpr (fun q => by have := hne.mpr q; omega)
          rw [dn, if_pos rfl]
          refine ok_gk (by omega) (by omega) (ok_gI (by omega) (by omega) (by omega) (by omega) (fun _ => ok_gz (Or.inr rfl) (ok_some ⟨rf_36 hr _, fx_I f1 (show 0 < 25 ∧ 0 ≠ 5 by decide), rfl, ?_⟩)) (fun g2 => absurd g g2))
          rw [zI_1, if_pos ⟨rfl, rfl⟩, msk_or0]
        · rw [r20]
          have dn : Dn A P = false := cdec_f.mpr (fun q => q (hne.mp (by omega)))
          rw [dn, if_neg (by decide)]
          exact ok_gk (by omega) (by omega) (ok_gI (by omega) (by omega) (by omega) (by omega) (fun g2 => absurd g2 g) (fun _ => ok_gz (Or.inl rfl) (ok_some ⟨rf_36 hr _, fx_I f1 (show 0 < 25 ∧ 0 ≠ 5 by decide), rfl⟩)))
    | succ l =>
      refine ok_gI (by omega) (by omega) (by omega) (by omega) (fun g => by omega) (fun _ => ?_)
      unfold fsp
      have key : ∀ (n : Nat) (w : Int) (s : Nat) (ζ1 : ZS), w = s → s ≤ 12 → 12 - s < n → Rf A ζ1 → Fx (fun x _ => x < 25 ∧ x ≠ 5) ζ ζ1 → Ok (g_X12_smallFrom_52 (g_X12_smallFrom d) ((l + 1 : Nat) : Int) ((msk P 12 : Nat) : Int) n w ζ1) (SrP A ζ P 12 (lop (hrd A) (fun s => (fsp (Dn A) (hrd A) 12 l (s + 1) (ins P s)).map (fun q => ins q s)) (12 - s) s)) := by
        intro n
        induction n with
        | zero => intro _ _ _ _ _ h; omega
        | succ n ih =>
          intro w s ζ1 hw hs12 hn h1 f1
          subst hw
          unfold g_X12_smallFrom_52 g_X12_smallFrom_94
          rw [t0, rf_c h1 (c := 9) (by omega) (by omega), hN]
          refine ok_gk (by omega) (by omega) (ok_gI (by omega) (by omega) (by omega) (by omega) (fun g => ?_) (fun g => ?_))
          · rw [lop_none (fun i hi => by unfold hrd; rw [decide_eq_false (by omega)]; rfl)]
            exact ok_some ⟨h1, f1, rfl⟩
          · have hsn : (s : Int) < A 9 0 := by omega
            have eh : hrd A s = voc A (A 10 s).toNat := by unfold hrd; rw [decide_eq_true hsn]; rfl
            rw [show 12 - s = (12 - (s + 1)) + 1 by omega]
            refine ok_beq (s_isHeard h1 hs hW.2.2.1 rfl hsn) ?_
            rw [← eh]
            refine ok_bi (fun e => ?_) (fun e => ?_)
            · rw [lop_skip e]
              exact ih _ (s + 1) ζ1 (by omega) (by omega) (by omega) h1 f1
            · refine ok_bind (ihd l (by omega) (by omega) (s + 1) (ins P s) _ _ _ ζ1 (by omega) (by omega) (by rw [z_in P (by omega) (by omega)]; rfl) (by omega) h1) (fun r ⟨r1, r2, r3⟩ => ?_)
              have f2 := fx_trans f1 r2
              cases ef : fsp (Dn A) (hrd A) 12 l (s + 1) (ins P s) with
              | none =>
                rw [ef] at r3
                have r3 : r.1 = 0 := r3
                rw [r3, lop_miss e (by rw [ef]; rfl)]
                exact ok_gI (by omega) (by omega) (by omega) (by omega) (fun _ => ih _ (s + 1) r.2 (by omega) (by omega) (by omega) r1 f2) (fun g => absurd rfl g)
              | some q =>
                rw [ef] at r3
                have r3 : r.1 = 1 ∧ r.2.1 0 36 = ((msk (fun i => ins P s i || q i) 12 : Nat) : Int) := r3
                rw [r3.1, lop_hit (x := ins q s) e (by rw [ef]; rfl)]
                refine ok_gI (by omega) (by omega) (by omega) (by omega) (fun g => absurd g (by omega)) (fun _ => ok_some ⟨r1, f2, rfl, ?_⟩)
                rw [r3.2, msk_ins]
      exact key FU _ fr ζ rfl hfr (by rw [FU_e]; omega) h (fx_refl _ _)
def QSm (A : Nat → Nat → Int) (z v : Int) : Prop := (((0 ≤ z ∧ z ≤ 1) ∧ ¬ NV (Sc A (hrd A))) ∧ Qz (fz (Dn A) (hrd A) 12 4 1) 12 z v) ∨ (¬ ((0 ≤ z ∧ z ≤ 1) ∧ ¬ NV (Sc A (hrd A))) ∧ v = -1)
theorem qsm_fun {A : Nat → Nat → Int} {z v w : Int} (h : QSm A z v) (g : QSm A z w) : v = w := by
  rcases h with ⟨p, q⟩ | ⟨p, q⟩ <;> rcases g with ⟨p', q'⟩ | ⟨p', q'⟩
  · exact Qz_fun q q'
  · exact absurd p p'
  · exact absurd p' p
  · omega
theorem a_small {A : Nat → Nat → Int} {ζ : ZS} (h : Rf A ζ) (hW : Wall A) {z : Int} (hz : r32 z) : Ok (g_X12_small z ζ) (RP A ζ (QSm A z)) := by
  have f0 : Fx (fun x _ => x < 25 ∧ x ≠ 5) ζ (zI ζ 0 0 0) := fx_I (fx_refl _ _) (by decide)
  have h0 := rf_0 h 0
  unfold g_X12_small g_X12_small_21
  refine ok_beq (s_within _ hz (by omega) (by omega)) (ok_bi (fun e => ok_some (rp_same h (Or.inr ⟨fun q => bd_f e q.1, rfl⟩))) (fun e => ?_))
  have ez := bd_t e
  refine ok_bind (s_findNow h0 hW) (fun r ⟨lw, hr, hf, r01, r1⟩ => ?_)
  have f1 := fx_trans f0 (wq_25 hf)
  refine ok_gI (by omega) (by omega) (by omega) (by omega) (fun g => ?_) (fun g => ok_some ⟨Or.inr ⟨fun q => q.2 (r1.mp (by omega)), rfl⟩, hr, f1⟩)
  have hno : ¬ NV (Sc A (hrd A)) := fun q => by have := r1.mpr q; omega
  have key : ∀ (n : Nat) (w : Int) (j : Nat) (ζ1 : ZS), w = j → 1 ≤ j → j ≤ 5 → 5 - j < n → Rf A ζ1 → Fx (fun x _ => x < 25 ∧ x ≠ 5) ζ ζ1 → Ok (g_X12_small_25 z n w ζ1) (RP A ζ (fun v => Qz (fz (Dn A) (hrd A) 12 (5 - j) j) 12 z v)) := by
    intro n
    induction n with
    | zero => intro _ _ _ _ _ _ h; omega
    | succ n ih =>
      intro w j ζ1 hw hj1 hj hn h1 hf1
      subst hw
      unfold g_X12_small_25 g_X12_small_52
      refine ok_gI (by omega) (by omega) (by omega) (by omega) (fun g => ?_) (fun g => ?_)
      · have : j = 5 := by omega
        subst this
        exact ok_some ⟨rfl, h1, hf1⟩
      · have ed : 5 - j = (5 - (j + 1)) + 1 := by omega
        rw [ed]
        refine ok_bind (s_smallFrom hW DEP j (by rw [DEP_e]; omega) (by omega) 0 (fun _ => false) _ _ _ ζ1 rfl rfl (by rw [msk_0 _ (fun _ _ => rfl)]; rfl) (by omega) h1) (fun q ⟨q1, q2, q3⟩ => ?_)
        have f2 := fx_trans hf1 q2
        unfold fz
        cases ef : fsp (Dn A) (hrd A) 12 j 0 (fun _ => false) with
        | none =>
          rw [ef] at q3
          have q3 : q.1 = 0 := q3
          rw [q3]
          exact ok_gI (by omega) (by omega) (by omega) (by omega) (fun _ => ih _ (j + 1) q.2 (by omega) (by omega) (by omega) (by omega) q1 f2) (fun g => absurd rfl g)
        | some s =>
          rw [ef] at q3
          have q3 : q.1 = 1 ∧ q.2.1 0 36 = ((msk (fun i => (fun _ => false) i || s i) 12 : Nat) : Int) := q3
          have es : msk (fun i => (fun _ => false) i || s i) 12 = msk s 12 := msk_congr (fun i _ => rfl)
          rw [q3.1]
          refine ok_gI (by omega) (by omega) (by omega) (by omega) (fun g => absurd g (by omega)) (fun _ => ok_gI hz.1 hz.2 (by omega) (by omega) (fun g2 => ok_some ⟨?_, q1, f2⟩) (fun g2 => ok_some ⟨?_, q1, f2⟩))
          · show ((j : Nat) : Int) = if z = 0 then (j : Int) else _
            rw [if_pos g2]
          · show q.2.1 0 36 = if z = 0 then (j : Int) else ((msk s 12 : Nat) : Int)
            rw [if_neg g2, q3.2, es]
  refine ok_mono (key FU 1 1 r.2 rfl (by omega) (by omega) (by rw [FU_e]; omega) hr f1) (fun q hq => ⟨Or.inl ⟨⟨ez, hno⟩, hq.1⟩, hq.2⟩)
theorem s_whyFrom {A : Nat → Nat → Int} (hW : Wall A) {a b : Nat} (ha : a < 8) (hb : b < 8) : ∀ (d l : Nat), l < d → l ≤ 12 → ∀ (fr : Nat) (P : Nat → Bool) (z y x : Int) (ζ : ZS), z = l → y = fr → x = ((msk P 12 : Nat) : Int) → fr ≤ 12 → Rf A ζ → Ok (g_X12_whyFrom d z y x (a : Int) (b : Int) ζ) (SrP A ζ P 12 (fsp (Dw A a b) (hrd A) 12 l fr P)) := by
  have hs := hW.2.1
  have q9 := hs.1
  have t0 : Int.toNat 0 = 0 := rfl
  obtain ⟨N, hN⟩ : ∃ N : Nat, A 9 0 = N := ⟨(A 9 0).toNat, by omega⟩
  intro d
  induction d with
  | zero => intro l h; omega
  | succ d ihd =>
    intro l hl hl12 fr P z y x ζ hz hy hx hfr h
    subst hz; subst hy; subst hx
    unfold g_X12_whyFrom g_X12_whyFrom_0
    cases l with
    | zero =>
      refine ok_gI (by omega) (by omega) (by omega) (by omega) (fun _ => ?_) (fun g => absurd rfl g)
      obtain ⟨ζ1, e1, h1⟩ := s_lay (P := P) h hW.1 hs rfl
      cases hc : g_X12_laysRows ((msk P 12 : Nat) : Int) ζ with
      | none => rw [hc] at e1; cases e1
      | some q =>
        rw [hc] at e1
        have e1 : g_X12_findCorners q = some ζ1 := e1
        refine ok_beq rfl (ok_beq e1 ?_)
        have lw := l0_lw h1.1
        have hr := rf_Wq h h1.2
        have f1 := wq_25 h1.2
        refine ok_bind (s_isBetter hr hW.1 hW.2.2.2.1 (a := a) (b := b) (lv := 0) rfl rfl rfl ha hb (by omega) lw.1 (by omega)) (fun r ⟨r1, p, r2, r3⟩ => ?_)
        rw [abv_lead hW.2.2.2.2.1] at r3
        rw [r2, r1]
        unfold g_X12_whyFrom_38 fsp
        refine ok_bi (fun e => ok_gz (bi_r p) (ok_some ⟨rf_36 hr _, fx_I f1 (show 0 < 25 ∧ 0 ≠ 5 by decide), ?_⟩)) (fun e => ok_gz (bi_r p) (ok_some ⟨rf_36 hr _, fx_I f1 (show 0 < 25 ∧ 0 ≠ 5 by decide), ?_⟩))
        · have dn : Dw A a b P = false := cdec_f.mpr (fun q => by rw [r3.mpr q] at e; cases e)
          rw [dn, if_neg (by decide), e]; rfl
        · have dn : Dw A a b P = true := cdec_iff.mpr (r3.mp e)
          rw [dn, if_pos rfl, e]
          refine ⟨rfl, ?_⟩
          rw [zI_1, if_pos ⟨rfl, rfl⟩, msk_or0]
    | succ l =>
      refine ok_gI (by omega) (by omega) (by omega) (by omega) (fun g => by omega) (fun _ => ?_)
      unfold fsp
      have key : ∀ (n : Nat) (w : Int) (s : Nat) (ζ1 : ZS), w = s → s ≤ 12 → 12 - s < n → Rf A ζ1 → Fx (fun x _ => x < 25 ∧ x ≠ 5) ζ ζ1 → Ok (g_X12_whyFrom_47 (g_X12_whyFrom d) ((l + 1 : Nat) : Int) ((msk P 12 : Nat) : Int) (a : Int) (b : Int) n w ζ1) (SrP A ζ P 12 (lop (hrd A) (fun s => (fsp (Dw A a b) (hrd A) 12 l (s + 1) (ins P s)).map (fun q => ins q s)) (12 - s) s)) := by
        intro n
        induction n with
        | zero => intro _ _ _ _ _ h; omega
        | succ n ih =>
          intro w s ζ1 hw hs12 hn h1 f1
          subst hw
          unfold g_X12_whyFrom_47 g_X12_whyFrom_93
          rw [t0, rf_c h1 (c := 9) (by omega) (by omega), hN]
          refine ok_gk (by omega) (by omega) (ok_gI (by omega) (by omega) (by omega) (by omega) (fun g => ?_) (fun g => ?_))
          · rw [lop_none (fun i hi => by unfold hrd; rw [decide_eq_false (by omega)]; rfl)]
            exact ok_some ⟨h1, f1, rfl⟩
          · have hsn : (s : Int) < A 9 0 := by omega
            have eh : hrd A s = voc A (A 10 s).toNat := by unfold hrd; rw [decide_eq_true hsn]; rfl
            rw [show 12 - s = (12 - (s + 1)) + 1 by omega]
            refine ok_beq (s_isHeard h1 hs hW.2.2.1 rfl hsn) ?_
            rw [← eh]
            refine ok_bi (fun e => ?_) (fun e => ?_)
            · rw [lop_skip e]
              exact ih _ (s + 1) ζ1 (by omega) (by omega) (by omega) h1 f1
            · refine ok_bind (ihd l (by omega) (by omega) (s + 1) (ins P s) _ _ _ ζ1 (by omega) (by omega) (by rw [z_in P (by omega) (by omega)]; rfl) (by omega) h1) (fun r ⟨r1, r2, r3⟩ => ?_)
              have f2 := fx_trans f1 r2
              cases ef : fsp (Dw A a b) (hrd A) 12 l (s + 1) (ins P s) with
              | none =>
                rw [ef] at r3
                have r3 : r.1 = 0 := r3
                rw [r3, lop_miss e (by rw [ef]; rfl)]
                exact ok_gI (by omega) (by omega) (by omega) (by omega) (fun _ => ih _ (s + 1) r.2 (by omega) (by omega) (by omega) r1 f2) (fun g => absurd rfl g)
              | some q =>
                rw [ef] at r3
                have r3 : r.1 = 1 ∧ r.2.1 0 36 = ((msk (fun i => ins P s i || q i) 12 : Nat) : Int) := r3
                rw [r3.1, lop_hit (x := ins q s) e (by rw [ef]; rfl)]
                refine ok_gI (by omega) (by omega) (by omega) (by omega) (fun g => absurd g (by omega)) (fun _ => ok_some ⟨r1, f2, rfl, ?_⟩)
                rw [r3.2, msk_ins]
      exact key FU _ fr ζ rfl hfr (by rw [FU_e]; omega) h (fx_refl _ _)
def wyC (A : Nat → Nat → Int) (x y z : Int) : Prop := (0 ≤ z ∧ z ≤ 1) ∧ two A x y = true ∧ NV (Sc A (hrd A)) ∧ Al (Sc A (hrd A)) (leadv A x.toNat y.toNat)
def QWy (A : Nat → Nat → Int) (x y z v : Int) : Prop := (wyC A x y z ∧ Qz (fz (Dw A x.toNat y.toNat) (hrd A) 12 4 0) 12 z v) ∨ (¬ wyC A x y z ∧ v = -1)
theorem qwy_fun {A : Nat → Nat → Int} {x y z v w : Int} (h : QWy A x y z v) (g : QWy A x y z w) : v = w := by
  rcases h with ⟨p, q⟩ | ⟨p, q⟩ <;> rcases g with ⟨p', q'⟩ | ⟨p', q'⟩
  · exact Qz_fun q q'
  · exact absurd p p'
  · exact absurd p' p
  · omega
theorem a_why {A : Nat → Nat → Int} {ζ : ZS} (h : Rf A ζ) (hW : Wall A) {x y z : Int} (hx : r32 x) (hy : r32 y) (hz : r32 z) : Ok (g_X12_why x y z ζ) (RP A ζ (QWy A x y z)) := by
  have f0 : Fx (fun x _ => x < 25 ∧ x ≠ 5) ζ (zI ζ 0 0 0) := fx_I (fx_refl _ _) (by decide)
  have h0 := rf_0 h 0
  unfold g_X12_why g_X12_why_40
  refine ok_beq (s_areTwo h0 hW.1 hx hy) (ok_bi (fun e => ok_some (rp_same h (Or.inr ⟨fun q => (by have := q.2.1; rw [e] at this; cases this), rfl⟩))) (fun e => ?_))
  have e2 := e
  unfold two at e2
  simp only [Bool.and_eq_true] at e2
  have iz := inz_r e2.1.1
  have iy := inz_r e2.1.2
  obtain ⟨a, hxa⟩ : ∃ a : Nat, x = a := ⟨x.toNat, by omega⟩
  obtain ⟨b, hyb⟩ : ∃ b : Nat, y = b := ⟨y.toNat, by omega⟩
  subst hxa; subst hyb
  refine ok_beq (s_within _ hz (by omega) (by omega)) (ok_bi (fun e3 => ok_some (rp_same h (Or.inr ⟨fun q => bd_f e3 q.1, rfl⟩))) (fun e3 => ?_))
  have ez := bd_t e3
  refine ok_bind (s_findNow h0 hW) (fun r ⟨lw, hr, hf, r01, r1⟩ => ?_)
  have f1 := fx_trans f0 (wq_25 hf)
  refine ok_gI (by omega) (by omega) (by omega) (by omega) (fun g => ok_some ⟨Or.inr ⟨fun q => (by have := r1.mpr q.2.2.1; omega), rfl⟩, hr, f1⟩) (fun g => ?_)
  have hcan := r1.mp (by omega)
  refine ok_bind (s_isBetter hr hW.1 hW.2.2.2.1 (a := a) (b := b) (lv := 0) rfl rfl rfl (by omega) (by omega) (by omega) lw.1 (by omega)) (fun q ⟨q1, p, q2, q3⟩ => ?_)
  rw [abv_lead hW.2.2.2.2.1] at q3
  rw [q2, q1]
  have ea : Int.toNat (a : Int) = a := by omega
  have eb : Int.toNat (b : Int) = b := by omega
  refine ok_bi (fun e4 => ok_some ⟨Or.inr ⟨fun q => ?_, rfl⟩, hr, f1⟩) (fun e4 => ?_)
  · have := q.2.2.2
    rw [ea, eb] at this
    rw [q3.mpr this] at e4; cases e4
  have wc : wyC A a b z := ⟨ez, e, hcan, by rw [ea, eb]; exact q3.mp e4⟩
  have key : ∀ (n : Nat) (w : Int) (j : Nat) (ζ1 : ZS), w = j → j ≤ 4 → 4 - j < n → Rf A ζ1 → Fx (fun x _ => x < 25 ∧ x ≠ 5) ζ ζ1 → Ok (g_X12_why_45 (a : Int) (b : Int) z n w ζ1) (RP A ζ (fun v => Qz (fz (Dw A a b) (hrd A) 12 (4 - j) j) 12 z v)) := by
    intro n
    induction n with
    | zero => intro _ _ _ _ _ h; omega
    | succ n ih =>
      intro w j ζ1 hw hj hn h1 hf1
      subst hw
      unfold g_X12_why_45 g_X12_why_77
      refine ok_gI (by omega) (by omega) (by omega) (by omega) (fun g => ?_) (fun g => ?_)
      · have : j = 4 := by omega
        subst this
        exact ok_some ⟨rfl, h1, hf1⟩
      · have ed : 4 - j = (4 - (j + 1)) + 1 := by omega
        rw [ed]
        refine ok_bind (s_whyFrom hW (by omega) (by omega) DEP j (by rw [DEP_e]; omega) (by omega) 0 (fun _ => false) _ _ _ ζ1 rfl rfl (by rw [msk_0 _ (fun _ _ => rfl)]; rfl) (by omega) h1) (fun q ⟨q1, q2, q3⟩ => ?_)
        have f2 := fx_trans hf1 q2
        unfold fz
        cases ef : fsp (Dw A a b) (hrd A) 12 j 0 (fun _ => false) with
        | none =>
          rw [ef] at q3
          have q3 : q.1 = 0 := q3
          rw [q3]
          exact ok_gI (by omega) (by omega) (by omega) (by omega) (fun _ => ih _ (j + 1) q.2 (by omega) (by omega) (by omega) q1 f2) (fun g => absurd rfl g)
        | some s =>
          rw [ef] at q3
          have q3 : q.1 = 1 ∧ q.2.1 0 36 = ((msk (fun i => (fun _ => false) i || s i) 12 : Nat) : Int) := q3
          have es : msk (fun i => (fun _ => false) i || s i) 12 = msk s 12 := msk_congr (fun i _ => rfl)
          rw [q3.1]
          refine ok_gI (by omega) (by omega) (by omega) (by omega) (fun g => absurd g (by omega)) (fun _ => ok_gI hz.1 hz.2 (by omega) (by omega) (fun g2 => ok_some ⟨?_, q1, f2⟩) (fun g2 => ok_some ⟨?_, q1, f2⟩))
          · show ((j : Nat) : Int) = if z = 0 then (j : Int) else _
            rw [if_pos g2]
          · show q.2.1 0 36 = if z = 0 then (j : Int) else ((msk s 12 : Nat) : Int)
            rw [if_neg g2, q3.2, es]
  refine ok_mono (key FU 0 0 r.2 rfl (by omega) (by rw [FU_e]; omega) hr f1) (fun q hq => ⟨Or.inl ⟨wc, by rw [ea, eb]; exact hq.1⟩, hq.2⟩)
