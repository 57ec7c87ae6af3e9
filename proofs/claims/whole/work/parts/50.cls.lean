/-! the class: what it holds; values -/
def cell2 (c : Nat) : Prop := c = 150 ∨ c = 160
def Ch (A : Nat → Nat → Int) (ζ : ZS) (c : Nat) : Prop := (∀ m, m < 4 → ζ.1 (c + 1) m = (if A 6 m = 0 then -1 else 1) ∧ ζ.1 (c + 2) m = A 7 m ∧ ζ.1 (c + 3) m = A 8 m) ∧ ζ.1 c 9 = A 9 0 ∧ ∀ s : Nat, (s : Int) < A 9 0 → ζ.1 (c + 4) s = A 10 s ∧ ζ.1 (c + 6) s = A 14 s ∧ (A 11 s = 3 → ζ.1 (c + 5) s = 0 ∧ ζ.1 (c + 7) s = A 15 s ∧ ζ.1 (c + 8) s = 1 ∧ ζ.1 (c + 9) s = 1) ∧ (A 11 s = 4 → ζ.1 (c + 5) s = 0 ∧ ζ.1 (c + 7) s = A 15 s ∧ ζ.1 (c + 8) s = 1 ∧ ζ.1 (c + 9) s = 2) ∧ (A 11 s = 5 → ζ.1 (c + 5) s = 0 ∧ ζ.1 (c + 7) s = A 15 s ∧ ζ.1 (c + 8) s = A 12 s ∧ ζ.1 (c + 9) s = A 13 s) ∧ (A 11 s = 6 → ζ.1 (c + 5) s = 1 ∧ ζ.1 (c + 8) s = A 12 s) ∧ (A 11 s = 7 → ζ.1 (c + 5) s = 2 ∧ ζ.1 (c + 8) s = A 12 s) ∧ (A 11 s = 8 → ζ.1 (c + 5) s = 3 ∧ ζ.1 (c + 7) s = A 15 s)
def Th (A : Nat → Nat → Int) (ζ : ZS) : Prop := ζ.1 30 3 = ((msk (told A) 8 : Nat) : Int) ∧ ∀ t m, t < 8 → m < 4 → ζ.1 (32 + t) m = A 17 (4 * t + m)
def Va (A : Nat → Nat → Int) (ζ : ZS) : Prop := (∀ t m, t < 8 → m < 4 → ζ.1 (41 + t) m = val A t m) ∧ ζ.1 30 4 = ((msk (inb A) 8 : Nat) : Int)
def Wva (x y : Nat) : Prop := (x = 30 ∧ y = 4) ∨ (41 ≤ x ∧ x ≤ 48)
theorem ch_fx {A : Nat → Nat → Int} {ζ ζ' : ZS} {c : Nat} (h : Ch A ζ c) (hf : ∀ x y, c ≤ x → x ≤ c + 9 → ζ'.1 x y = ζ.1 x y) : Ch A ζ' c := by
  unfold Ch
  rw [hf c 9 (by omega) (by omega)]
  refine ⟨fun m hm => ?_, h.2.1, fun s hs => ?_⟩
  · rw [hf (c + 1) m (by omega) (by omega), hf (c + 2) m (by omega) (by omega), hf (c + 3) m (by omega) (by omega)]; exact h.1 m hm
  · rw [hf (c + 4) s (by omega) (by omega), hf (c + 5) s (by omega) (by omega), hf (c + 6) s (by omega) (by omega), hf (c + 7) s (by omega) (by omega), hf (c + 8) s (by omega) (by omega), hf (c + 9) s (by omega) (by omega)]; exact h.2.2 s hs
theorem s_min (ζ : ZS) {a b : Int} (ha : r32 a) (hb : r32 b) : g_J9_min_7cf53 a b ζ = some (if b < a then b else a, ζ) := by
  apply ok_eq
  unfold g_J9_min_7cf53 g_J9_min_7cf53_10
  exact ok_gI hb.1 hb.2 ha.1 ha.2 (fun h => ok_some (by rw [if_pos h])) (fun h => ok_some (by rw [if_neg h]))
theorem inb_okj {A : Nat → Nat → Int} {t : Nat} : inb A t = (told A t && okj A t 4) := by
  unfold inb
  simp [okj, Bool.and_assoc]
theorem ln_val : ∀ t, t < 8 → ln (41 + t) = 4 := by decide
/-- who is in, behind measure m of thing t -/
def inP (A : Nat → Nat → Int) (t m : Nat) : Nat → Bool := fun i => if i < t then inb A i else if i = t then told A i && okj A i m else told A i
theorem inP_0 (A : Nat → Nat → Int) (t : Nat) : inP A t 4 = inP A (t + 1) 0 := by
  funext i
  unfold inP
  by_cases c : i < t
  · rw [if_pos c, if_pos (by omega)]
  · rw [if_neg c]
    by_cases e : i = t
    · rw [if_pos e, if_pos (by omega), inb_okj]
    · rw [if_neg e, if_neg (by omega)]
      by_cases e2 : i = t + 1
      · rw [if_pos e2]; simp [okj]
      · rw [if_neg e2]
theorem s_valueBy {A : Nat → Nat → Int} {ζ : ZS} {c : Nat} {z : Int} (hw : Wa A) (hc : cell2 c) (hch : Ch A ζ c) (hth : Th A ζ) (hz : z = A 0 20) : Ok (g_X9_valueBy c z ζ) (fun ζ' => Va A ζ' ∧ Fx Wva ζ ζ') := by
  subst hz
  have qk := hw.1
  unfold cell2 at hc
  let St : Nat → Nat → ZS → Prop := fun t m ζ1 => (∀ t' m', t' < 8 → m' < 4 → (t' < t ∨ (t' = t ∧ m' < m)) → ζ1.1 (41 + t') m' = val A t' m') ∧ ζ1.1 30 4 = ((msk (inP A t m) 8 : Nat) : Int) ∧ Fx Wva ζ ζ1
  have inner : ∀ (t : Nat) (r10 : Int → ZS → Option ZS), t < 8 → (∀ ζ2, St (t + 1) 0 ζ2 → Ok (r10 ((t : Int) + 1) ζ2) (fun ζ' => Va A ζ' ∧ Fx Wva ζ ζ')) → ∀ (n : Nat) (y : Int) (m : Nat) (ζ1 : ZS), y = m → m ≤ 4 → 4 - m < n → St t m ζ1 → Ok (g_X9_valueBy_19 c (A 0 20) (t : Int) r10 n y ζ1) (fun ζ' => Va A ζ' ∧ Fx Wva ζ ζ') := by
    intro t r10 ht hnext n
    induction n with
    | zero => intro _ _ _ _ _ h; omega
    | succ n ih =>
      intro y m ζ1 hy hm hn hst
      subst hy
      obtain ⟨hv, hin, hf⟩ := hst
      unfold g_X9_valueBy_19
      refine ok_gI (by omega) (by omega) (by omega) (by omega) (fun h => ?_) (fun h => ?_)
      · have e : m = 4 := by omega
        subst e
        exact hnext ζ1 ⟨fun t' m' g1 g2 g3 => hv t' m' g1 g2 (by omega), by rw [hin, inP_0], hf⟩
      · have hm4 : m < 4 := by omega
        obtain ⟨g6, g7, g8⟩ := hch.1 m hm4
        have w := hw.2.2.2 m hm4
        have f17 := hw.2.2.1 t m ht hm4
        have ub := unc_bd hw ht hm4
        have e1 : ζ1.1 (c + 1) m = ζ.1 (c + 1) m := (hf.1 _ _ (by unfold Wva; omega)).1
        have e3 : ζ1.1 (c + 3) m = ζ.1 (c + 3) m := (hf.1 _ _ (by unfold Wva; omega)).1
        have em : Int.toNat (m : Int) = m := by omega
        have et : Int.toNat (t : Int) = t := by omega
        -- the last step
        have put : ∀ (ζ2 : ZS) (v : Int), v = (if A 0 20 ≤ (m : Int) then 0 else unc A t m) → (∀ x y, ¬ (x = 30 ∧ y = 4) → ζ2.1 x y = ζ1.1 x y) → Fx Wva ζ ζ2 → ζ2.1 30 4 = ((msk (inP A t (m + 1)) 8 : Nat) : Int) → Ok (g_X9_valueBy_90 r10 (g_X9_valueBy_19 c (A 0 20) (t : Int) r10 n) c (A 0 20) (t : Int) (m : Int) v ζ2) (fun ζ' => Va A ζ' ∧ Fx Wva ζ ζ') := by
          intro ζ2 v hvv hsame hf2 hin2
          have e2 : ζ2.1 (c + 2) m = A 7 m := by rw [hsame _ _ (by omega), (hf.1 (c + 2) m (by unfold Wva; omega)).1]; exact g7
          have vb : 0 ≤ v ∧ v ≤ 100 := by rw [hvv]; split <;> omega
          unfold g_X9_valueBy_90 g_X9_valueBy_126
          rw [em, et, e2]
          have fin : ∀ x : Int, x = val A t m → Ok (gk (m : Int) (ln (40 + 1 + t)) (g_X9_valueBy_19 c (A 0 20) (t : Int) r10 n ((m : Int) + 1) (zI ζ2 (40 + 1 + t) m x))) (fun ζ' => Va A ζ' ∧ Fx Wva ζ ζ') := by
            intro x hx
            have el : ln (40 + 1 + t) = 4 := ln_val t ht
            rw [el]
            refine ok_gk (by omega) (by omega) (ih _ (m + 1) _ (by omega) (by omega) (by omega) ⟨fun t' m' h1 h2 h3 => ?_, ?_, fx_I hf2 (by unfold Wva; omega)⟩)
            · rw [zI_1]
              by_cases e : t' = t ∧ m' = m
              · rw [if_pos (by omega), hx, e.1, e.2]
              · rw [if_neg (by omega), hsame _ _ (by omega)]
                exact hv t' m' h1 h2 (by omega)
            · rw [zI_1, if_neg (by omega)]; exact hin2
          refine ok_gk (by omega) (by omega) (ok_gk (by omega) (by omega) (ok_gI (by omega) (by omega) (by omega) (by omega) (fun q => ?_) (fun q => ?_)))
          · refine fin v ?_
            rw [hvv]
            unfold val
            split
            · rfl
            · rw [if_neg (by omega)]
          · refine ok_gk (by omega) (by omega) (ok_beq (s_min ζ2 (by omega) (by omega)) (fin _ ?_))
            have : ¬ A 0 20 ≤ (m : Int) := fun g => q (w.2.2.2 g).2.1
            rw [hvv]
            unfold val
            rw [if_neg this, if_neg this]
            by_cases g : A 7 m < unc A t m
            · rw [if_pos g, if_pos (by omega)]
            · rw [if_neg g, if_neg (by omega)]
        -- what must be
        have must : ∀ v : Int, v = (if A 0 20 ≤ (m : Int) then 0 else unc A t m) → Ok (g_X9_valueBy_64 r10 (g_X9_valueBy_19 c (A 0 20) (t : Int) r10 n) c (A 0 20) (t : Int) (m : Int) v ζ1) (fun ζ' => Va A ζ' ∧ Fx Wva ζ ζ') := by
          intro v hvv
          have vb : 0 ≤ v ∧ v ≤ 100 := by rw [hvv]; split <;> omega
          unfold g_X9_valueBy_64
          rw [em, e3, g8]
          refine ok_gk (by omega) (by omega) (ok_gI (by omega) (by omega) (by omega) (by omega) (fun q => ?_) (fun q => ?_))
          · refine put ζ1 v hvv (fun _ _ _ => rfl) hf ?_
            rw [hin]
            congr 1
            apply msk_congr
            intro i hi
            unfold inP
            by_cases e : i = t
            · subst e
              have : okm A i m = true := by
                unfold okm
                by_cases g : A 0 20 ≤ (m : Int)
                · simp [g]
                · rw [if_neg g] at hvv; rw [hvv] at q; simp [q]
              simp [okj, this]
            · simp [e]
          · have hk : ¬ A 0 20 ≤ (m : Int) := fun g => by rw [if_pos g] at hvv; have := (w.2.2.2 g).2.2; omega
            rw [if_neg hk] at hvv
            refine put _ v (by rw [if_neg hk]; exact hvv) (fun x y hxy => by rw [zI_1, if_neg hxy]) (fx_I hf (by unfold Wva; omega)) ?_
            rw [zI_1, if_pos ⟨rfl, rfl⟩, hin, z_out _ (by omega) ht]
            congr 1
            apply msk_congr
            intro i hi
            unfold inP
            by_cases e : i = t
            · subst e
              have : okm A i m = false := by
                unfold okm
                rw [decide_eq_false hk, decide_eq_false (by omega : ¬ A 8 m < 0), decide_eq_false (by omega : ¬ A 8 m ≤ unc A i m)]; rfl
              simp [okj, this]
            · simp [e]
        -- less
        have less : ∀ f : Int, f = (if A 0 20 ≤ (m : Int) then 0 else A 17 (4 * t + m)) → Ok (g_X9_valueBy_44 r10 (g_X9_valueBy_19 c (A 0 20) (t : Int) r10 n) c (A 0 20) (t : Int) (m : Int) f ζ1) (fun ζ' => Va A ζ' ∧ Fx Wva ζ ζ') := by
          intro f hff
          unfold g_X9_valueBy_44
          rw [em, e1, g6]
          have r : (if A 6 m = 0 then (-1 : Int) else 1) = -1 ∨ (if A 6 m = 0 then (-1 : Int) else 1) = 1 := by split; exact Or.inl rfl; exact Or.inr rfl
          refine ok_gk (by omega) (by omega) (ok_gI (by omega) (by omega) (by omega) (by omega) (fun q => ?_) (fun q => ?_))
          · refine must f ?_
            have : A 6 m = 0 := by
              apply Classical.byContradiction
              intro g
              rw [if_neg g] at q
              omega
            rw [hff]
            unfold unc
            rw [if_pos this]
          · refine must _ ?_
            have : ¬ A 6 m = 0 := fun g => q (by rw [if_pos g])
            have hk : ¬ A 0 20 ≤ (m : Int) := fun g => this (w.2.2.2 g).1
            rw [hff, if_neg hk, if_neg hk]
            unfold unc
            rw [if_neg this]
        refine ok_gI (by omega) (by omega) (by omega) (by omega) (fun q => ?_) (fun q => ?_)
        · exact less 0 (by rw [if_pos q])
        · refine ok_gk (by omega) (by omega) (ok_gk (by omega) (by omega) (less _ ?_))
          rw [if_neg q, em, et]
          have : ζ1.1 (31 + 1 + t) m = ζ.1 (31 + 1 + t) m := (hf.1 _ _ (by unfold Wva; omega)).1
          rw [this]
          exact hth.2 t m ht hm4
  have outer : ∀ (n : Nat) (y : Int) (t : Nat) (ζ1 : ZS), y = t → t ≤ 8 → 8 - t < n → St t 0 ζ1 → Ok (g_X9_valueBy_10 c (A 0 20) n y ζ1) (fun ζ' => Va A ζ' ∧ Fx Wva ζ ζ') := by
    intro n
    induction n with
    | zero => intro _ _ _ _ _ h; omega
    | succ n ih =>
      intro y t ζ1 hy ht hn hst
      subst hy
      unfold g_X9_valueBy_10
      refine ok_gI (by omega) (by omega) (by omega) (by omega) (fun h => ?_) (fun h => ?_)
      · refine ok_some ⟨⟨fun t' m' g1 g2 => hst.1 t' m' g1 g2 (by omega), ?_⟩, hst.2.2⟩
        rw [hst.2.1]
        congr 1
        apply msk_congr
        intro i hi
        unfold inP
        rw [if_pos (by omega)]
      · exact inner t _ (by omega) (fun ζ2 h2 => ih _ (t + 1) ζ2 (by omega) (by omega) (by omega) h2) FU 0 0 ζ1 rfl (by omega) (by rw [FU_e]; omega) hst
  unfold g_X9_valueBy
  refine outer FU 0 0 _ rfl (by omega) (by rw [FU_e]; omega) ⟨fun t' m' g1 g2 g3 => by omega, ?_, fx_I (fx_refl _ _) (by unfold Wva; omega)⟩
  rw [zI_1, if_pos ⟨rfl, rfl⟩, hth.1]
  congr 1
  apply msk_congr
  intro i hi
  unfold inP
  by_cases e : i = 0
  · simp [e, okj]
  · simp [e]
