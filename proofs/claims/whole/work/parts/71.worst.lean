/-! worst -/
/-- the greatest so far -/
def Grz (p : Nat → Bool) (f : Nat → Int) (j : Nat) (most set : Int) : Prop := (∃ q : Nat → Bool, set = ((msk q 8 : Nat) : Int) ∧ ∀ i, i < 8 → (q i = true ↔ (i < j ∧ p i = true ∧ f i = most))) ∧ -1 ≤ most ∧ (∀ u, u < j → p u = true → f u ≤ most) ∧ (most = -1 ∨ ∃ u, u < j ∧ p u = true ∧ f u = most)
section
variable {p : Nat → Bool} {f : Nat → Int} {j : Nat} {most set : Int}
theorem grz_0 : Grz p f 0 (-1) 0 := ⟨⟨fun _ => false, by rw [msk_0 _ (fun _ _ => rfl)]; rfl, fun i hi => ⟨fun q => (by cases q), fun q => (by omega)⟩⟩, by omega, fun u hu => by omega, Or.inl rfl⟩
theorem grz_skip (h : Grz p f j most set) (hp : p j = false) : Grz p f (j + 1) most set := by
  obtain ⟨⟨q, h1, h2⟩, h3, h4, h5⟩ := h
  refine ⟨⟨q, h1, fun i hi => (h2 i hi).trans ⟨fun c => ⟨by omega, c.2⟩, fun c => ⟨?_, c.2⟩⟩⟩, h3, fun u hu hpu => ?_, ?_⟩
  · apply Classical.byContradiction
    intro g
    have : i = j := by omega
    subst this
    rw [hp] at c; cases c.2.1
  · by_cases c : u = j
    · subst c; rw [hp] at hpu; cases hpu
    · exact h4 u (by omega) hpu
  · rcases h5 with c | ⟨u, a, b⟩
    · exact Or.inl c
    · exact Or.inr ⟨u, by omega, b⟩
theorem grz_new (h : Grz p f j most set) (hj : j < 8) (hp : p j = true) (hf : most < f j) : Grz p f (j + 1) (f j) (zshl 1 (j : Int)) := by
  obtain ⟨⟨q, h1, h2⟩, h3, h4, h5⟩ := h
  refine ⟨⟨fun i => decide (i = j), z_single (by omega) hj, fun i hi => ?_⟩, by omega, fun u hu hpu => ?_, Or.inr ⟨j, by omega, hp, rfl⟩⟩
  · rw [decide_eq_true_eq]
    refine ⟨fun c => by subst c; exact ⟨by omega, hp, rfl⟩, fun c => ?_⟩
    apply Classical.byContradiction
    intro g
    have := h4 i (by omega) c.2.1
    omega
  · by_cases c : u = j
    · subst c; omega
    · have := h4 u (by omega) hpu; omega
theorem grz_eq (h : Grz p f j most set) (hj : j < 8) (hp : p j = true) (hf : f j = most) : Grz p f (j + 1) most (zor set (zshl 1 (j : Int))) := by
  obtain ⟨⟨q, h1, h2⟩, h3, h4, h5⟩ := h
  subst h1
  refine ⟨⟨_, z_in q (by omega) hj, fun i hi => ?_⟩, h3, fun u hu hpu => ?_, Or.inr ⟨j, by omega, hp, hf⟩⟩
  · rw [Bool.or_eq_true, decide_eq_true_eq, h2 i hi]
    constructor
    · rintro (c | c)
      · exact ⟨by omega, c.2⟩
      · subst c; exact ⟨by omega, hp, hf⟩
    · intro c
      by_cases g : i = j
      · exact Or.inr g
      · exact Or.inl ⟨by omega, c.2⟩
  · by_cases c : u = j
    · subst c; omega
    · exact h4 u (by omega) hpu
theorem grz_lt (h : Grz p f j most set) (hf : f j < most) : Grz p f (j + 1) most set := by
  obtain ⟨⟨q, h1, h2⟩, h3, h4, h5⟩ := h
  refine ⟨⟨q, h1, fun i hi => (h2 i hi).trans ⟨fun c => ⟨by omega, c.2⟩, fun c => ⟨?_, c.2⟩⟩⟩, h3, fun u hu hpu => ?_, ?_⟩
  · apply Classical.byContradiction
    intro g
    have : i = j := by omega
    subst this
    omega
  · by_cases c : u = j
    · subst c; omega
    · exact h4 u (by omega) hpu
  · rcases h5 with c | ⟨u, a, b⟩
    · exact Or.inl c
    · exact Or.inr ⟨u, by omega, b⟩
theorem grz_end (h : Grz p f 8 most set) (hf : ∀ i, i < 8 → 0 ≤ f i) : QS (fun t => p t = true ∧ ∀ u, u < 8 → p u = true → f u ≤ f t) set := by
  obtain ⟨⟨q, h1, h2⟩, h3, h4, h5⟩ := h
  refine ⟨q, h1, fun t ht => (h2 t ht).trans ⟨fun c => ⟨c.2.1, fun u hu hpu => by rw [c.2.2]; exact h4 u hu hpu⟩, fun c => ⟨ht, c.1, ?_⟩⟩⟩
  have a := h4 t ht c.1
  rcases h5 with e | ⟨u, hu, hpu, e⟩
  · have := hf t ht; omega
  · have := c.2 u hu hpu; omega
end
/-- the least value of the measures below j -/
def lvv (A : Nat → Nat → Int) (t : Nat) : Nat → Int
  | 0 => 100
  | j + 1 => if val A t j < lvv A t j then val A t j else lvv A t j
theorem lvv_bd {A : Nat → Nat → Int} (hw : Wa A) {t : Nat} (ht : t < 8) : ∀ j, j ≤ 4 → 0 ≤ lvv A t j ∧ lvv A t j ≤ 100
  | 0, _ => by unfold lvv; omega
  | j + 1, h => by
    have ih := lvv_bd hw ht j (by omega)
    have := val_bd hw ht (m := j) (by omega)
    unfold lvv
    split <;> omega
def QW (A : Nat → Nat → Int) (v : Int) : Prop := QS (fun t => inb A t = true ∧ ∀ u, u < 8 → inb A u = true → lvv A u (A 0 20).toNat ≤ lvv A t (A 0 20).toNat) v
theorem a_worst {A : Nat → Nat → Int} {ζ : ZS} (h : Rf A ζ) (hW : Wall A) : Ok (g_X12_worst ζ) (RP A ζ (QW A)) := by
  have f0 : Fx (fun x _ => x < 25 ∧ x ≠ 5) ζ (zI ζ 0 0 0) := fx_I (fx_refl _ _) (by decide)
  have h0 := rf_0 h 0
  have qk := hW.1.1
  obtain ⟨k, hk⟩ : ∃ k : Nat, A 0 20 = k := ⟨(A 0 20).toNat, by omega⟩
  have ek : (A 0 20).toNat = k := by omega
  unfold g_X12_worst
  generalize zI ζ 0 0 0 = ζ0 at f0 h0 ⊢
  have e20 : ζ0.1 0 20 = k := by rw [rf_k h0, hk]
  have key : ∀ (n : Nat) (most set w : Int) (t : Nat), w = t → t ≤ 8 → 8 - t < n → Grz (inb A) (fun t => lvv A t k) t most set → most ≤ 100 → Ok (g_X12_worst_11 n most set w ζ0) (RP A ζ (QW A)) := by
    intro n
    induction n with
    | zero => intro _ _ _ _ _ _ h; omega
    | succ n ih =>
      intro most set w t hwt ht hn hg hm
      subst hwt
      unfold g_X12_worst_11 g_X12_worst_114
      refine ok_gI (by omega) (by omega) (by omega) (by omega) (fun g => ok_some ⟨?_, h0, f0⟩) (fun g => ok_beq (s_isInN h0 hW.1 rfl (by omega)) (ok_bi (fun e => ?_) (fun e => ?_)))
      · have : t = 8 := by omega
        subst this
        unfold QW
        rw [ek]
        exact grz_end hg (fun i hi => (lvv_bd hW.1 hi k (by omega)).1)
      · exact ih _ _ _ (t + 1) (by omega) (by omega) (by omega) (grz_skip hg e) hm
      · have ht8 : t < 8 := by omega
        have lb := lvv_bd hW.1 ht8 k (by omega)
        have hmm := hg.2.1
        have inner : ∀ (m : Nat) (acc w : Int) (j : Nat), w = j → j ≤ k → k - j < m → acc = lvv A t j → Ok (g_X12_worst_32 most set (t : Int) (g_X12_worst_11 n) m acc w ζ0) (RP A ζ (QW A)) := by
          intro m
          induction m with
          | zero => intro _ _ _ _ _ h; omega
          | succ m ih2 =>
            intro acc w j hwj hj hm2 ha
            subst hwj
            have lj := lvv_bd hW.1 ht8 j (by omega)
            unfold g_X12_worst_32
            rw [e20]
            refine ok_gI (by omega) (by omega) (by omega) (by omega) (fun g1 => ?_) (fun g1 => ?_)
            · have ej : j = k := by omega
              subst ej
              subst ha
              unfold g_X12_worst_100 g_X12_worst_113 g_X12_worst_114
              refine ok_gI (by omega) (by omega) (by omega) (by omega) (fun q1 => ok_gI (by omega) (by omega) (by omega) (by omega) (fun q2 => ?_) (fun q2 => ?_)) (fun q1 => ?_)
              · refine ok_gI (by omega) (by omega) (by omega) (by omega) (fun _ => ih _ _ _ (t + 1) (by omega) (by omega) (by omega) (grz_eq hg ht8 e q2) hm) (fun q3 => absurd q1 q3)
              · refine ok_gI (by omega) (by omega) (by omega) (by omega) (fun _ => ih _ _ _ (t + 1) (by omega) (by omega) (by omega) (grz_lt hg (by show lvv A t j < most; omega)) hm) (fun q3 => absurd q1 q3)
              · refine ok_gI (by omega) (by omega) (by omega) (by omega) (fun q3 => absurd q3 q1) (fun _ => ih _ _ _ (t + 1) (by omega) (by omega) (by omega) (grz_new hg ht8 e (by show most < lvv A t j; omega)) (by omega))
            · have vb := val_bd hW.1 ht8 (m := j) (by omega)
              unfold g_X12_worst_65
              refine ok_beq (s_valueOf h0 hW.1 rfl rfl ht8 (by omega)) (ok_gI (by omega) (by omega) (by dsimp only; omega) (by dsimp only; omega) (fun q1 => ih2 _ _ (j + 1) (by omega) (by omega) (by omega) ?_) (fun q1 => ok_beq (s_valueOf h0 hW.1 rfl rfl ht8 (by omega)) (ih2 _ _ (j + 1) (by omega) (by omega) (by omega) ?_)))
              · dsimp only at q1
                show acc = if val A t j < lvv A t j then val A t j else lvv A t j
                rw [if_neg (by omega)]; exact ha
              · dsimp only at q1
                show val A t j = if val A t j < lvv A t j then val A t j else lvv A t j
                rw [if_pos (by omega)]
        exact inner FU 100 0 0 rfl (by omega) (by rw [FU_e]; omega) rfl
  exact key FU (-1) 0 0 0 rfl (by omega) (by rw [FU_e]; omega) grz_0 (by omega)
theorem b_worst {A : Nat → Nat → Int} {ζ : ZS} (h : Cls A ζ) (hW : Wall A) : Ok (g_X11_worst ζ) (CP A ζ (QW A)) := by
  have qk := hW.1.1
  obtain ⟨k, hk⟩ : ∃ k : Nat, A 0 20 = k := ⟨(A 0 20).toNat, by omega⟩
  have ek : (A 0 20).toNat = k := by omega
  have l49 : ln 49 = 8 := rfl
  unfold g_X11_worst g_X9_bestAtWorst
  refine ok_bind (s_fresh hW h) (fun ζ1 ⟨c1, f1⟩ => ?_)
  have e16 : ζ1.1 26 16 = k := by rw [c1.1.2.2.1, hk]
  have va := c1.2.1.1
  rw [e16]
  have key : ∀ (n : Nat) (w : Int) (t : Nat) (ζ2 : ZS), w = t → t ≤ 8 → 8 - t < n → Fx (We 49) ζ1 ζ2 → (∀ u, u < t → ζ2.2.1 49 u = lvv A u k) → Ok (g_X9_bestAtWorst_2 (k : Int) n w ζ2) (fun r => QW A r.1 ∧ Fx (We 49) ζ1 r.2) := by
    intro n
    induction n with
    | zero => intro _ _ _ _ _ h; omega
    | succ n ih =>
      intro w t ζ2 hwt ht hn hf hold
      subst hwt
      have va2 : ∀ t m, t < 8 → m < 4 → ζ2.1 (41 + t) m = val A t m := fun t m g1 g2 => by rw [(hf.1 _ _ (by unfold We; omega)).1]; exact va.1 t m g1 g2
      unfold g_X9_bestAtWorst_2
      refine ok_gI (by omega) (by omega) (by omega) (by omega) (fun g => ok_bind (s_greatestOf (p := inb A) (f := fun u => lvv A u k) (by rw [(hf.1 30 4 (by unfold We; omega)).1]; exact va.2) l49 (fun u hu => hold u (by omega)) (fun u hu => by have := lvv_bd hW.1 hu k (by omega); omega)) (fun q ⟨q1, q2⟩ => ok_some ⟨?_, by rw [q1]; exact hf⟩)) (fun g => ?_)
      · unfold QW; rw [ek]; exact q2
      · have ht8 : t < 8 := by omega
        have least : ∀ (m : Nat) (acc w : Int) (j : Nat), w = j → j ≤ k → k - j < m → acc = lvv A t j → g_X9_leastValue_6 (t : Int) (k : Int) m acc w ζ2 = some (lvv A t k, ζ2) := by
          intro m
          induction m with
          | zero => intro _ _ _ _ _ h; omega
          | succ m ih2 =>
            intro acc w j hwj hj hm2 ha
            subst hwj
            apply ok_eq
            have lj := lvv_bd hW.1 ht8 j (by omega)
            unfold g_X9_leastValue_6
            refine ok_gI (by omega) (by omega) (by omega) (by omega) (fun g1 => ok_some ?_) (fun g1 => ?_)
            · have ej : j = k := by omega
              subst ej
              rw [ha]
            · have vb := val_bd hW.1 ht8 (m := j) (by omega)
              rw [show 40 + 1 + Int.toNat (t : Int) = 41 + t by omega, show Int.toNat (j : Int) = j by omega, va2 t j ht8 (by omega)]
              refine ok_gk (by omega) (by omega) (ok_gk (by omega) (by omega) (ok_beq (s_min ζ2 (by omega) (by omega)) (ok_of (ih2 _ _ (j + 1) (by omega) (by omega) (by omega) ?_))))
              rw [ha]; rfl
        have lb := lvv_bd hW.1 ht8 k (by omega)
        unfold g_X9_leastValue
        rw [show Int.toNat (t : Int) = t by omega]
        refine ok_beq (least FU 100 0 0 rfl (by omega) (by rw [FU_e]; omega) rfl) (ok_gw (by dsimp only; omega) (by dsimp only; omega) (ok_gk (by omega) (by omega) (ih _ (t + 1) _ (by omega) (by omega) (by omega) (fx_J hf rfl) (fun u hu => ?_))))
        rw [zJ_2]
        by_cases c : u = t
        · subst c; rw [if_pos ⟨rfl, rfl⟩]
        · rw [if_neg (by omega)]; exact hold u (by omega)
  refine ok_bind (key FU 0 0 ζ1 rfl (by omega) (by rw [FU_e]; omega) (fx_refl _ _) (fun u hu => by omega)) (fun q ⟨q1, q2⟩ => ok_some ?_)
  have fs : Fx Wsc ζ1 q.2 := fx_mono q2 (fun x y c => by unfold We at c; unfold Wsc; omega)
  exact ⟨q1, cf_cls (cf_sc hW.2.1 c1 fs), fx_trans f1 (wsc_26 fs)⟩
