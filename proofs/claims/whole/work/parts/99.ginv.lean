/-! what holds between the calls of the law; two calls, one behind the other -/
def Inv (σ : HS) : Prop := ∃ (ζ : ZS) (A : Nat → Nat → Int), Rp ζ σ ∧ Rf A ζ ∧ Cls A ζ ∧ Wall A ∧ Wrd ζ
theorem cls_far {A : Nat → Nat → Int} {ζ ζ' : ZS} (hs : Ws A) (h : Cls A ζ) (hf : Fx (fun x _ => x < 26) ζ ζ') : Cls A ζ' := by
  have z : ∀ x y, 26 ≤ x → ζ'.1 x y = ζ.1 x y ∧ ζ'.2.1 x y = ζ.2.1 x y := fun x y g => hf.1 x y (by show ¬ x < 26; omega)
  refine cls_sl hs (fun _ _ _ => rfl) h ?_ (fun x y g => z x y (by unfold Wfo at g; omega)) (z 26 18 (by omega)).1
  obtain ⟨⟨c, d, hc, hd, hcd, r1, r2, hch⟩, hth, a1, a2, a3, a4, a5, a6, a7⟩ := h.1
  have hc' := hc
  unfold cell2 at hc'
  refine ⟨⟨c, d, hc, hd, hcd, by rw [hf.2]; exact r1, by rw [hf.2]; exact r2, ch_fx hch (fun x y g1 g2 => (z x y (by omega)).1)⟩, ⟨?_, fun t m g1 g2 => ?_⟩, ?_, ?_, ?_, fun p hp => ?_, ?_, fun i hi => ?_, fun m hm => ?_⟩
  · rw [(z _ _ (by omega)).1]; exact hth.1
  · rw [(z _ _ (by omega)).1]; exact hth.2 t m g1 g2
  · rw [(z _ _ (by omega)).1]; exact a1
  · rw [(z _ _ (by omega)).1]; exact a2
  · rw [(z _ _ (by omega)).1]; exact a3
  · rw [(z _ _ (by omega)).1]; exact a4 p hp
  · rw [(z _ _ (by omega)).1]; exact a5
  · rw [(z _ _ (by omega)).1]; exact a6 i hi
  · rw [(z _ _ (by omega)).1]; exact a7 m hm
theorem rf_far {A : Nat → Nat → Int} {ζ ζ' : ZS} (h : Rf A ζ) (e : ∀ x y, x < 26 → ζ'.1 x y = ζ.1 x y) : Rf A ζ' := fun c k hp => by
  rw [e c k (by unfold psl at hp; omega)]; exact h c k hp
/-- of a reference's row: some B -/
def RE (R : (Nat → Nat → Int) → (Nat → Nat → Int) → Int → Prop) (A : Nat → Nat → Int) (ζ : ZS) (r : Int × ZS) : Prop := ∃ B, R A B r.1 ∧ Rf B r.2 ∧ Fx (fun x _ => x < 25 ∧ x ≠ 5) ζ r.2
theorem inv_call {τ : Type} {cv : Int → τ} {X Y : ZS → Option (Int × ZS)} {F G : HS → Option (τ × HS)} {R : (Nat → Nat → Int) → (Nat → Nat → Int) → Int → Prop}
    (hX : ∀ ζ σ, Rp ζ σ → Sm (fun (p : Int × ZS) (q : τ × HS) => q.1 = cv p.1 ∧ Rp p.2 q.2) (X ζ) (F σ)) (hY : ∀ ζ σ, Rp ζ σ → Sm (fun (p : Int × ZS) (q : τ × HS) => q.1 = cv p.1 ∧ Rp p.2 q.2) (Y ζ) (G σ))
    (ha : ∀ A ζ, Rf A ζ → Wall A → Wrd ζ → Ok (Y ζ) (RE R A ζ)) (hb : ∀ A B v ζ, Cls A ζ → Wall A → R A B v → Ok (X ζ) (CPw B ζ (fun w => w = v))) (hw : ∀ A B v, Wall A → R A B v → Wall B)
    {σ : HS} (h : Inv σ) : ∃ v σ1 σ2, F σ = some (v, σ1) ∧ G σ1 = some (v, σ2) ∧ Inv σ2 := by
  obtain ⟨ζ, A, hr, hf, hc, hW, hd⟩ := h
  obtain ⟨r0, -, B0, q0, -⟩ := ha A ζ hf hW hd
  obtain ⟨r, er, cr⟩ := hb A B0 _ ζ hc hW q0
  obtain ⟨s, es, s1, s2⟩ := hX ζ σ hr r er
  have hf1 : Rf A r.2 := rf_far hf (fun x y g => (cr.2.2 x y g).1)
  have hd1 : Wrd r.2 := fun j hj => by rw [(cr.2.2 5 j (by omega)).2]; exact hd j hj
  obtain ⟨u, eu, B, q1, q2, q3⟩ := ha A r.2 hf1 hW hd1
  obtain ⟨r', er', cr'⟩ := hb A B _ ζ hc hW q1
  have e : r' = r := Option.some.inj (er'.symm.trans er)
  rw [e] at cr'
  obtain ⟨t, et, t1, t2⟩ := hY r.2 s.2 s2 u eu
  have hWB := hw A B _ hW q1
  refine ⟨s.1, s.2, t.2, es, ?_, u.2, B, t2, q2, cls_far hWB.2.1 cr'.2.1 (fx_mono q3 (fun x y g => by show x < 26; omega)), hWB, fun j hj => ?_⟩
  · rw [et, s1, cr'.1, ← t1]
  · rw [(q3.1 5 j (by show ¬ (5 < 25 ∧ 5 ≠ 5); omega)).2]; exact hd1 j hj
/-- for a call that asks, or that changes what is held to T A -/
theorem inv_ask {τ : Type} {cv : Int → τ} {X Y : ZS → Option (Int × ZS)} {F G : HS → Option (τ × HS)} {T : (Nat → Nat → Int) → Nat → Nat → Int} {Q : (Nat → Nat → Int) → Int → Prop}
    (hX : ∀ ζ σ, Rp ζ σ → Sm (fun (p : Int × ZS) (q : τ × HS) => q.1 = cv p.1 ∧ Rp p.2 q.2) (X ζ) (F σ)) (hY : ∀ ζ σ, Rp ζ σ → Sm (fun (p : Int × ZS) (q : τ × HS) => q.1 = cv p.1 ∧ Rp p.2 q.2) (Y ζ) (G σ))
    (ha : ∀ A ζ, Rf A ζ → Wall A → Ok (Y ζ) (RP (T A) ζ (Q A))) (hb : ∀ A ζ, Cls A ζ → Wall A → Ok (X ζ) (CPw (T A) ζ (Q A))) (hu : ∀ A v w, Wall A → Q A v → Q A w → v = w) (hw : ∀ A, Wall A → Wall (T A))
    {σ : HS} (h : Inv σ) : ∃ v σ1 σ2, F σ = some (v, σ1) ∧ G σ1 = some (v, σ2) ∧ Inv σ2 :=
  inv_call (R := fun A B v => Wall A ∧ B = T A ∧ Q A v) hX hY (fun A ζ h1 h2 _ => ok_mono (ha A ζ h1 h2) (fun r q => ⟨T A, ⟨h2, rfl, q.1⟩, q.2.1, q.2.2⟩)) (fun A B v ζ h1 h2 q => ok_mono (hb A ζ h1 h2) (fun r g => ⟨hu A _ _ h2 g.1 q.2.2, by rw [q.2.1]; exact g.2.1, g.2.2⟩)) (fun A B v h1 q => by rw [q.2.1]; exact hw A h1) h
/-- for a call that answers or throws -/
theorem inv_throw {τ : Type} {cv : Int → τ} {X : ZS → Option (Option Int × ZS)} {Y : ZS → Option (Int × ZS)} {F : HS → Option (Option τ × HS)} {G : HS → Option (τ × HS)} {Q : (Nat → Nat → Int) → Int → Int → Prop}
    (hX : ∀ ζ σ, Rp ζ σ → Sm (fun (p : Option Int × ZS) (q : Option τ × HS) => q.1 = p.1.map cv ∧ Rp p.2 q.2) (X ζ) (F σ)) (hY : ∀ ζ σ, Rp ζ σ → Sm (fun (p : Int × ZS) (q : τ × HS) => q.1 = cv p.1 ∧ Rp p.2 q.2) (Y ζ) (G σ))
    (ha : ∀ A ζ, Rf A ζ → Wall A → Ok (Y ζ) (fun r => RP A ζ (Q A (r.2.1 0 0)) r)) (hb : ∀ A ζ, Cls A ζ → Wall A → Ok (X ζ) (CPt A ζ (Q A))) (hu : ∀ A s t v w, Wall A → Q A s v → Q A t w → s = t ∧ (s = 0 → v = w))
    {σ : HS} (h : Inv σ) : ∃ o σ1 b σ2, F σ = some (o, σ1) ∧ G σ1 = some (b, σ2) ∧ Inv σ2 ∧ ((o = some b ∧ σ2.1 0 0 = 0) ∨ (o = none ∧ σ2.1 0 0 = 1)) := by
  obtain ⟨ζ, A, hr, hf, hc, hW, hd⟩ := h
  obtain ⟨r, er, c1, c2, c3⟩ := hb A ζ hc hW
  obtain ⟨s, es, s1, s2⟩ := hX ζ σ hr r er
  have z : ∀ x y, x < 26 → r.2.1 x y = ζ.1 x y ∧ r.2.2.1 x y = ζ.2.1 x y := fun x y g => c3.1 x y (by show ¬ 26 ≤ x; omega)
  have hf1 : Rf A r.2 := rf_far hf (fun x y g => (z x y g).1)
  have hd1 : Wrd r.2 := fun j hj => by rw [(z 5 j (by omega)).2]; exact hd j hj
  obtain ⟨u, eu, q1, q2, q3⟩ := ha A r.2 hf1 hW
  obtain ⟨t, et, t1, t2⟩ := hY r.2 s.2 s2 u eu
  refine ⟨s.1, s.2, t.1, t.2, es, et, ⟨u.2, A, t2, q2, cls_far hW.2.1 c2 (fx_mono q3 (fun x y g => by show x < 26; omega)), hW, fun j hj => ?_⟩, ?_⟩
  · rw [(q3.1 5 j (by show ¬ (5 < 25 ∧ 5 ≠ 5); omega)).2]; exact hd1 j hj
  · have e0 : t.2.1 0 0 = mJ (u.2.1 0 0) := t2.1 0 0
    rcases c1 with ⟨v, g1, g2⟩ | ⟨g1, g2⟩
    · have w := hu A _ _ _ _ hW g2 q1
      left
      rw [s1, g1, t1, ← w.2 rfl, e0, ← w.1]
      exact ⟨rfl, rfl⟩
    · have w := hu A _ _ _ _ hW g2 q1
      right
      rw [s1, g1, e0, ← w.1]
      exact ⟨rfl, rfl⟩
/-- the law's own cell -/
theorem inv_out {σ : HS} {v : Int64} (h : Inv σ) : Inv (sJ σ 25 0 v) := by
  obtain ⟨ζ, A, hr, hf, hc, hW, hd⟩ := h
  refine ⟨zJ ζ 25 0 v.toInt, A, ⟨hr.1, fun c k => ?_, hr.2.2.1, hr.2.2.2⟩, hf, cls_far hW.2.1 hc (fx_J (fx_refl _ _) (show 25 < 26 by decide)), hW, fun j hj => ?_⟩
  · show u2 σ.2.1 25 0 v c k = mL (u2 ζ.2.1 25 0 v.toInt c k)
    rw [u2_e, u2_e]
    split
    · exact (Int64.ofInt_toInt v).symm
    · exact hr.2.1 c k
  · rw [zJ_2, if_neg (by omega)]; exact hd j hj
