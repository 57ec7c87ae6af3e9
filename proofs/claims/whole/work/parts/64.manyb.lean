/-! many: the class -/
def Wno (x _y : Nat) : Prop := x = 135 ∨ x = 140
theorem b_many {A : Nat → Nat → Int} {ζ : ZS} (h : Cls A ζ) (hW : Wall A) {z : Int} (hz : r32 z) : Ok (g_X11_many z ζ) (CP A ζ (QM A z)) := by
  have qk := hW.1.1
  have hw := hW.1
  obtain ⟨k, hk⟩ : ∃ k : Nat, A 0 20 = k := ⟨(A 0 20).toNat, by omega⟩
  unfold g_X11_many g_X11_many_25
  refine ok_bind (s_fresh hW h) (fun ζ1 ⟨c1, f1⟩ => ?_)
  have no : ¬ ((1 ≤ z ∧ z ≤ 100) ∧ NV (Sc A (hrd A))) → Ok (some ((-1 : Int), ζ1)) (CP A ζ (QM A z)) := fun g => ok_some ⟨Or.inr ⟨g, rfl⟩, cf_cls c1, f1⟩
  refine ok_gI hz.1 hz.2 (by omega) (by omega) (fun g => no (fun q => by omega)) (fun g1 => ok_gI (by omega) (by omega) hz.1 hz.2 (fun g => no (fun q => by omega)) (fun g2 => ?_))
  have e : 1 ≤ z ∧ z ≤ 100 := by omega
  have hfit := cf_fit c1 hk
  refine ok_bind (s_theyCan (A := A) hfit (by omega)) (fun r ⟨r1, b, r2, r3⟩ => ?_)
  rw [r2, r1]
  refine ok_bi (fun e2 => no (fun q => by have := r3.mpr q.2; rw [e2] at this; cases this)) (fun e2 => ?_)
  have hcan := r3.mp e2
  obtain ⟨X, hX⟩ : ∃ X, X = Sc A (hrd A) := ⟨_, rfl⟩
  rw [← hX] at hfit
  have keep : ∀ {ζ2 : ZS}, Fx Wno ζ1 ζ2 → Va A ζ2 ∧ Cs ζ2 68 k X 12 := fun {ζ2} f2 => ⟨va_fx c1.2.1.1 (fun x y g => (f2.1 x y (by unfold Wno; omega)).1), cs_fx hfit (fun x y g1 g2 => f2.1 x y (by unfold Wno; omega))⟩
  -- the sets of those that outdo
  let Ob : Nat → Nat → Prop := fun b a => a ≠ b ∧ inb A a = true ∧ inb A b = true ∧ od A X z a b
  have fin2 : ∀ (o : Nat → Nat → Bool) (ζ2 : ZS), Fx Wno ζ1 ζ2 → (∀ b, b < 8 → ζ2.1 140 b = ((msk (o b) 8 : Nat) : Int)) → (∀ b a, b < 8 → a < 8 → (o b a = true ↔ Ob b a)) → Ok (g_X4_notOutdone_94 FU (ζ2.1 30 4) 0 ζ2) (CP A ζ (QM A z)) := by
    intro o ζ2 f2 ho hob
    obtain ⟨va2, _⟩ := keep f2
    have fs : Fx Wsc ζ1 ζ2 := fx_mono f2 (fun x y q => by unfold Wno at q; unfold Wsc; omega)
    let Bd : Nat → Nat → Nat → Prop := fun b a i => inb A i = true ∧ (∀ u, u < 8 → (i < b ∨ (i = b ∧ u < a)) → Ob i u → Ob u i)
    have inner : ∀ (b : Nat) (r94 : Int → Int → ZS → Option (Int × ZS)), b < 8 → (∀ p : Nat → Bool, (∀ i, i < 8 → (p i = true ↔ Bd (b + 1) 0 i)) → Ok (r94 ((msk p 8 : Nat) : Int) ((b : Int) + 1) ζ2) (CP A ζ (QM A z))) → ∀ (m : Nat) (acc w : Int) (a : Nat) (p : Nat → Bool), w = a → a ≤ 8 → 8 - a < m → acc = ((msk p 8 : Nat) : Int) → (∀ i, i < 8 → (p i = true ↔ Bd b a i)) → Ok (g_X4_notOutdone_103 (b : Int) r94 m acc w ζ2) (CP A ζ (QM A z)) := by
      intro b r94 hb hnext m
      induction m with
      | zero => intro _ _ _ _ _ _ h; omega
      | succ m ih =>
        intro acc w a p hwa ha hm hacc hp
        subst hwa; subst hacc
        unfold g_X4_notOutdone_103 g_X4_notOutdone_146
        have n1 : (a : Int) + 1 = ((a + 1 : Nat) : Int) := by omega
        refine ok_gI (by omega) (by omega) (by omega) (by omega) (fun q => hnext p (fun i hi => (hp i hi).trans ?_)) (fun q => ?_)
        · have e8 : a = 8 := by clear hp ih; omega
          subst e8
          exact ⟨fun c => ⟨c.1, fun u hu hi2 => c.2 u hu (by omega)⟩, fun c => ⟨c.1, fun u hu hi2 => c.2 u hu (by omega)⟩⟩
        · have ha8 : a < 8 := by clear hp ih; omega
          have n3 : 8 - (a + 1) < m := by clear hp ih; omega
          rw [show Int.toNat (b : Int) = b by omega, show Int.toNat (a : Int) = a by omega, ho b hb, ho a ha8]
          have same : (Ob b a → Ob a b) → Ok (g_X4_notOutdone_103 (b : Int) r94 m ((msk p 8 : Nat) : Int) ((a : Int) + 1) ζ2) (CP A ζ (QM A z)) := by
            intro hs
            refine ih _ _ (a + 1) p n1 ha8 n3 rfl (fun i hi => (hp i hi).trans ⟨fun c => ⟨c.1, fun u hu hc hO => ?_⟩, fun c => ⟨c.1, fun u hu hc => c.2 u hu (by omega)⟩⟩)
            by_cases cc : i = b ∧ u = a
            · rw [cc.1, cc.2] at hO ⊢; exact hs hO
            · exact c.2 u hu (by omega) hO
          refine ok_gk (by omega) (by omega) (bit_test (p := o b) (n := 8) (t := a) rfl rfl (by omega) ha8 (fun h0 => same (fun hO => by rw [(hob b a hb ha8).mpr hO] at h0; cases h0)) (fun h1 => ?_))
          refine ok_gk (by omega) (by omega) (bit_test (p := o a) (n := 8) (t := b) rfl rfl (by omega) hb (fun h0 => ?_) (fun h2 => same (fun _ => (hob a b ha8 hb).mp h2)))
          rw [z_out p (by omega) hb]
          refine ih _ _ (a + 1) (fun i => p i && !decide (i = b)) n1 ha8 n3 rfl (fun i hi => ?_)
          by_cases ei : i = b
          · subst ei
            simp only [decide_true, Bool.not_true, Bool.and_false]
            refine ⟨fun q => (by cases q), fun c => ?_⟩
            have := c.2 a ha8 (by omega) ((hob i a hb ha8).mp h1)
            rw [(hob a i ha8 hb).mpr this] at h0; cases h0
          · simp only [ei, decide_false, Bool.not_false, Bool.and_true]
            exact (hp i hi).trans ⟨fun c => ⟨c.1, fun u hu hc => c.2 u hu (by omega)⟩, fun c => ⟨c.1, fun u hu hc => c.2 u hu (by omega)⟩⟩
    have outer : ∀ (m : Nat) (acc w : Int) (b : Nat) (p : Nat → Bool), w = b → b ≤ 8 → 8 - b < m → acc = ((msk p 8 : Nat) : Int) → (∀ i, i < 8 → (p i = true ↔ Bd b 0 i)) → Ok (g_X4_notOutdone_94 m acc w ζ2) (CP A ζ (QM A z)) := by
      intro m
      induction m with
      | zero => intro _ _ _ _ _ _ h; omega
      | succ m ih =>
        intro acc w b p hwb hb hm hacc hp
        subst hwb; subst hacc
        unfold g_X4_notOutdone_94
        refine ok_gI (by omega) (by omega) (by omega) (by omega) (fun q => ok_some ⟨Or.inl ⟨⟨e, hcan⟩, p, rfl, fun i hi => (hp i hi).trans ?_⟩, cf_cls (cf_sc hW.2.1 c1 fs), fx_trans f1 (wsc_26 fs)⟩) (fun q => ?_)
        · rw [← hX]
          have e8 : b = 8 := by clear hp ih; omega
          subst e8
          refine ⟨fun c => ⟨c.1, fun u hu hne hin hod => ?_⟩, fun c => ⟨c.1, fun u hu _ hO => ?_⟩⟩
          · exact (c.2 u hu (Or.inl hi) ⟨hne, hin, c.1, hod⟩).2.2.2
          · exact ⟨Ne.symm hO.1, c.1, hO.2.1, c.2 u hu hO.1 hO.2.1 hO.2.2.2⟩
        · have hb8 : b < 8 := by clear hp ih; omega
          have n1 : (b : Int) + 1 = ((b + 1 : Nat) : Int) := by omega
          have n3 : 8 - (b + 1) < m := by clear hp ih; omega
          exact inner b _ hb8 (fun p' hp' => ih _ _ (b + 1) p' n1 hb8 n3 rfl hp') FU _ 0 0 p rfl (by omega) (by rw [FU_e]; omega) rfl hp
    rw [va2.2]
    exact outer FU _ 0 0 (inb A) rfl (by omega) (by rw [FU_e]; omega) rfl (fun i _ => ⟨fun q => ⟨q, fun u hu hc => by omega⟩, fun q => q.1⟩)
  -- filling them
  let Fl : Nat → Nat → ZS → (Nat → Nat → Bool) → Prop := fun b a ζ2 o => Fx Wno ζ1 ζ2 ∧ (∀ b', b' < b → ζ2.1 140 b' = ((msk (o b') 8 : Nat) : Int)) ∧ (∀ b' a', b' < b → a' < 8 → (o b' a' = true ↔ Ob b' a'))
  have fillA : ∀ (b : Nat) (r2 : Int → ZS → Option (Int × ZS)) (o : Nat → Nat → Bool), b < 8 → (∀ b' a', b' < b → a' < 8 → (o b' a' = true ↔ Ob b' a')) → (∀ (ζ3 : ZS) (p : Nat → Bool), Fx Wno ζ1 ζ3 → (∀ b', b' < b → ζ3.1 140 b' = ((msk (o b') 8 : Nat) : Int)) → ζ3.1 140 b = ((msk p 8 : Nat) : Int) → (∀ a', a' < 8 → (p a' = true ↔ Ob b a')) → Ok (r2 ((b : Int) + 1) ζ3) (CP A ζ (QM A z))) → ∀ (m : Nat) (w : Int) (a : Nat) (p : Nat → Bool) (ζ2 : ZS), w = a → a ≤ 8 → 8 - a < m → Fx Wno ζ1 ζ2 → (∀ b', b' < b → ζ2.1 140 b' = ((msk (o b') 8 : Nat) : Int)) → ζ2.1 140 b = ((msk p 8 : Nat) : Int) → (∀ a', a' < 8 → (p a' = true ↔ (a' < a ∧ Ob b a'))) → Ok (g_X4_notOutdone_17 z (b : Int) r2 m w ζ2) (CP A ζ (QM A z)) := by
    intro b r2 o hb hoo hnext m
    induction m with
    | zero => intro _ _ _ _ _ _ h; omega
    | succ m ih =>
      intro w a p ζ2 hwa ha hm f2 hol hob hp
      subst hwa
      obtain ⟨va2, cs2⟩ := keep f2
      unfold g_X4_notOutdone_17 g_X4_notOutdone_72
      have n1 : (a : Int) + 1 = ((a + 1 : Nat) : Int) := by omega
      refine ok_gI (by omega) (by omega) (by omega) (by omega) (fun q => hnext ζ2 p f2 hol hob (fun a' h' => (hp a' h').trans ⟨fun c => c.2, fun c => ⟨by omega, c⟩⟩)) (fun q => ?_)
      have ha8 : a < 8 := by clear hp ih; omega
      have n3 : 8 - (a + 1) < m := by clear hp ih; omega
      have skip : ∀ ζ3, Fx Wno ζ1 ζ3 → (∀ b', b' < b → ζ3.1 140 b' = ((msk (o b') 8 : Nat) : Int)) → ζ3.1 140 b = ((msk p 8 : Nat) : Int) → ¬ Ob b a → Ok (g_X4_notOutdone_17 z (b : Int) r2 m ((a : Int) + 1) ζ3) (CP A ζ (QM A z)) := by
        intro ζ3 f3 ol3 ob3 hn
        refine ih _ (a + 1) p ζ3 n1 ha8 n3 f3 ol3 ob3 (fun a' h' => (hp a' h').trans ⟨fun c => ⟨by omega, c.2⟩, fun c => ⟨?_, c.2⟩⟩)
        apply Classical.byContradiction
        intro cc
        have ea : a' = a := by omega
        subst ea
        exact hn c.2
      refine ok_gI (by omega) (by omega) (by omega) (by omega) (fun g => skip ζ2 f2 hol hob (fun c => c.1 (by clear hp ih; omega))) (fun g => ?_)
      refine ok_beq (s_isInC va2.2 (by clear hp ih; omega)) ?_
      rw [inz_n ha8]
      refine ok_bi (fun e0 => skip ζ2 f2 hol hob (fun c => by have := c.2.1; rw [e0] at this; cases this)) (fun e0 => ?_)
      refine ok_beq (s_isInC va2.2 (by clear hp ih; omega)) ?_
      rw [inz_n hb]
      refine ok_bi (fun e1 => skip ζ2 f2 hol hob (fun c => by have := c.2.2.1; rw [e1] at this; cases this)) (fun e1 => ?_)
      refine ok_bind (s_outdoesC (a := a) (b := b) va2 hw cs2 rfl rfl ha8 hb e) (fun q ⟨⟨pp, q1, q2⟩, f3⟩ => ?_)
      have f23 : Fx Wno ζ1 q.2 := fx_trans f2 (fx_mono f3 (fun x y c => Or.inl c))
      have s140 : ∀ y, q.2.1 140 y = ζ2.1 140 y := fun y => (f3.1 140 y (by unfold We; omega)).1
      rw [q1]
      refine ok_bi (fun e3 => skip q.2 f23 (fun b' h' => by rw [s140]; exact hol b' h') (by rw [s140]; exact hob) (fun c => by have := q2.mpr c.2.2.2; rw [e3] at this; cases this)) (fun e3 => ?_)
      rw [show Int.toNat (b : Int) = b by omega, s140 b, hob, z_in p (by omega) ha8]
      refine ok_gk (by omega) (by omega) (ok_gk (by omega) (by omega) (ih _ (a + 1) (fun i => p i || decide (i = a)) _ n1 ha8 n3 (fx_I f23 (Or.inr rfl)) (fun b' h' => ?_) (by rw [zI_1, if_pos ⟨rfl, rfl⟩]) (fun a' h' => ?_)))
      · rw [zI_1, if_neg (by omega), s140]; exact hol b' h'
      · by_cases c : a' = a
        · subst c
          simp only [decide_true, Bool.or_true, true_iff]
          exact ⟨by omega, by omega, e0, e1, q2.mp e3⟩
        · simp only [c, decide_false, Bool.or_false]
          exact (hp a' h').trans ⟨fun q => ⟨by omega, q.2⟩, fun q => ⟨by omega, q.2⟩⟩
  have fillB : ∀ (m : Nat) (w : Int) (b : Nat) (o : Nat → Nat → Bool) (ζ2 : ZS), w = b → b ≤ 8 → 8 - b < m → Fx Wno ζ1 ζ2 → (∀ b', b' < b → ζ2.1 140 b' = ((msk (o b') 8 : Nat) : Int)) → (∀ b' a', b' < b → a' < 8 → (o b' a' = true ↔ Ob b' a')) → Ok (g_X4_notOutdone_2 z m w ζ2) (CP A ζ (QM A z)) := by
    intro m
    induction m with
    | zero => intro _ _ _ _ _ _ h; omega
    | succ m ih =>
      intro w b o ζ2 hwb hb hm f2 hol hoo
      subst hwb
      unfold g_X4_notOutdone_2
      have n1 : (b : Int) + 1 = ((b + 1 : Nat) : Int) := by omega
      refine ok_gI (by omega) (by omega) (by omega) (by omega) (fun q => fin2 o ζ2 f2 (fun b' h' => hol b' (by clear hoo ih; omega)) (fun b' a' h1 h2 => hoo b' a' (by clear hoo ih; omega) h2)) (fun q => ?_)
      have hb8 : b < 8 := by clear hoo ih; omega
      have n3 : 8 - (b + 1) < m := by clear hoo ih; omega
      rw [show Int.toNat (b : Int) = b by omega]
      refine ok_gk (by omega) (by omega) (fillA b _ o hb8 hoo (fun ζ3 p f3 ol3 ob3 hp3 => ?_) FU 0 0 (fun _ => false) _ rfl (by omega) (by rw [FU_e]; omega) (fx_I f2 (Or.inr rfl)) (fun b' h' => by rw [zI_1, if_neg (by omega)]; exact hol b' h') (by rw [zI_1, if_pos ⟨rfl, rfl⟩, msk_0 _ (fun _ _ => rfl)]; rfl) (fun a' _ => ⟨fun c => (by cases c), fun c => by omega⟩))
      refine ih _ (b + 1) (fun b' => if b' = b then p else o b') ζ3 n1 hb8 n3 f3 (fun b' h' => ?_) (fun b' a' h1 h2 => ?_)
      · by_cases c : b' = b
        · rw [if_pos c, c]; exact ob3
        · rw [if_neg c]; exact ol3 b' (by omega)
      · by_cases c : b' = b
        · rw [if_pos c, c]; exact hp3 a' h2
        · rw [if_neg c]; exact hoo b' a' (by omega) h2
  refine ok_bind ?_ (fun q hq => ok_some hq)
  unfold g_X4_notOutdone
  exact fillB FU 0 0 (fun _ _ => false) ζ1 rfl (by omega) (by rw [FU_e]; omega) (fx_refl _ _) (fun b' h' => by omega) (fun b' a' h1 => by omega)
