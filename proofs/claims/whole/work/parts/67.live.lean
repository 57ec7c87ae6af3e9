/-! what counts of what is held; row -/
def Liv (x y : Nat) : Prop := (x = 0 ∧ (y = 20 ∨ y = 23)) ∨ ((x = 6 ∨ x = 7 ∨ x = 8) ∧ y < 4) ∨ (x = 9 ∧ y = 0) ∨ (10 ≤ x ∧ x ≤ 15 ∧ y < 12) ∨ (x = 16 ∧ y < 8) ∨ (x = 17 ∧ y < 32)
def Sl (A B : Nat → Nat → Int) : Prop := ∀ x y, Liv x y → B x y = A x y
section
variable {A B : Nat → Nat → Int}
theorem sl_k (h : Sl A B) : B 0 20 = A 0 20 := h 0 20 (by unfold Liv; omega)
theorem sl_9 (h : Sl A B) : B 9 0 = A 9 0 := h 9 0 (by unfold Liv; omega)
theorem sl_unc (h : Sl A B) {t m : Nat} (ht : t < 8) (hm : m < 4) : unc B t m = unc A t m := by
  unfold unc
  rw [h 6 m (by unfold Liv; omega), h 17 (4 * t + m) (by unfold Liv; omega)]
theorem sl_val (h : Sl A B) {t m : Nat} (ht : t < 8) (hm : m < 4) : val B t m = val A t m := by
  unfold val
  rw [sl_k h, sl_unc h ht hm, h 7 m (by unfold Liv; omega)]
theorem sl_told (h : Sl A B) {t : Nat} (ht : t < 8) : told B t = told A t := by
  unfold told
  rw [h 16 t (by unfold Liv; omega)]
theorem sl_okm (h : Sl A B) {t m : Nat} (ht : t < 8) (hm : m < 4) : okm B t m = okm A t m := by
  unfold okm
  rw [sl_k h, sl_unc h ht hm, h 8 m (by unfold Liv; omega)]
theorem sl_inb (h : Sl A B) {t : Nat} (ht : t < 8) : inb B t = inb A t := by
  unfold inb
  rw [sl_told h ht, sl_okm h ht (by omega), sl_okm h ht (by omega), sl_okm h ht (by omega), sl_okm h ht (by omega)]
theorem sl_sr (hs : Ws A) (h : Sl A B) {s : Nat} (hsn : (s : Int) < A 9 0) : e4 (sr B s) (sr A s) := by
  intro i hi
  have q := hs.2 s hsn
  have q9 := hs.1
  unfold sr
  rw [h 11 s (by unfold Liv; omega), h 12 s (by unfold Liv; omega), h 13 s (by unfold Liv; omega), h 14 s (by unfold Liv; omega), h 15 s (by unfold Liv; omega)]
  have sh : ∀ a n σ, sharev B a n σ = sharev A a n σ := fun a n σ => by unfold sharev; rw [sl_k h]
  rw [sh, sh]
  by_cases c3 : A 11 s = 3
  · rw [if_pos c3, if_pos c3]
  · rw [if_neg c3, if_neg c3]
    by_cases c4 : A 11 s = 4
    · rw [if_pos c4, if_pos c4]
    · rw [if_neg c4, if_neg c4]
      by_cases c5 : A 11 s = 5
      · rw [if_pos c5, if_pos c5]
      · rw [if_neg c5, if_neg c5]
        by_cases c6 : A 11 s = 6
        · rw [if_pos c6, if_pos c6]
        · rw [if_neg c6, if_neg c6]
          by_cases c7 : A 11 s = 7
          · rw [if_pos c7, if_pos c7]
          · rw [if_neg c7, if_neg c7]
            have b := q.2.2.2.2.2.1 ⟨c6, c7⟩
            have b2 := q.2.2.1
            rw [sl_told h (by omega), sl_told h (by omega)]
            split
            · unfold leadv
              rw [sl_val h (by omega) hi, sl_val h (by omega) hi]
            · rfl
theorem sl_hrd (hs : Ws A) (h : Sl A B) : hrd B = hrd A := by
  funext s
  have q9 := hs.1
  unfold hrd
  rw [sl_9 h]
  by_cases c : s < 12
  · unfold voc
    rw [h 10 s (by unfold Liv; omega), h 0 23 (by unfold Liv; omega)]
  · rw [decide_eq_false (by omega)]; rfl
theorem sl_Sc (hs : Ws A) (h : Sl A B) (P : Nat → Bool) (w : V4) : Sc B P w ↔ Sc A P w := by
  unfold Sc
  rw [sl_k h, sl_9 h]
  refine and_congr_right (fun _ => and_congr_right (fun _ => ⟨fun g s q1 q2 => ?_, fun g s q1 q2 => ?_⟩))
  · rw [← dt_e4l (sl_sr hs h q1)]; exact g s q1 q2
  · rw [dt_e4l (sl_sr hs h q1)]; exact g s q1 q2
theorem sl_wa (hw : Wa A) (h : Sl A B) : Wa B := by
  refine ⟨by rw [sl_k h]; exact hw.1, fun t ht => by rw [h 16 t (by unfold Liv; omega)]; exact hw.2.1 t ht, fun t m ht hm => by rw [h 17 (4 * t + m) (by unfold Liv; omega)]; exact hw.2.2.1 t m ht hm, fun m hm => ?_⟩
  rw [sl_k h, h 6 m (by unfold Liv; omega), h 7 m (by unfold Liv; omega), h 8 m (by unfold Liv; omega)]
  exact hw.2.2.2 m hm
theorem sl_ws (hs : Ws A) (h : Sl A B) : Ws B := by
  have q9 := hs.1
  refine ⟨by rw [sl_9 h]; exact q9, fun s hsn => ?_⟩
  rw [sl_9 h] at hsn
  rw [sl_k h, h 10 s (by unfold Liv; omega), h 11 s (by unfold Liv; omega), h 12 s (by unfold Liv; omega), h 13 s (by unfold Liv; omega), h 14 s (by unfold Liv; omega), h 15 s (by unfold Liv; omega)]
  exact hs.2 s hsn
theorem sl_wv (hv : Wv A) (h : Sl A B) : Wv B := by unfold Wv; rw [h 0 23 (by unfold Liv; omega)]; exact hv
/-- what is worked out lies in these cells -/
def Wfo (x y : Nat) : Prop := (x = 30 ∧ y = 4) ∨ (41 ≤ x ∧ x ≤ 48) ∨ (x = 50 ∧ y = 4) ∨ (52 ≤ x ∧ x ≤ 66) ∨ (68 ≤ x ∧ x ≤ 70)
theorem fr_sl {ζ ζ' : ZS} (hs : Ws A) (h : Sl A B) (hf : Fr A ζ) (e : ∀ x y, Wfo x y → ζ'.1 x y = ζ.1 x y ∧ ζ'.2.1 x y = ζ.2.1 x y) : Fr B ζ' := by
  have z : ∀ x y, Wfo x y → ζ'.1 x y = ζ.1 x y := fun x y g => (e x y g).1
  have zl : ∀ x y, Wfo x y → ζ'.2.1 x y = ζ.2.1 x y := fun x y g => (e x y g).2
  have q9 := hs.1
  obtain ⟨b1, b2, b3, k, b4, b5, R, n, ρ, b6, b7, b8, b9, b10⟩ := hf
  have e68 : ∀ i, cw ζ' 68 i = cw ζ 68 i := fun i => by funext m; exact zl 69 _ (by unfold Wfo; omega)
  refine ⟨⟨fun t m g1 g2 => by rw [z _ _ (by unfold Wfo; omega), sl_val h g1 g2]; exact b1.1 t m g1 g2, ?_⟩, fun s m g1 g2 => ?_, by rw [z _ _ (by unfold Wfo; omega), sl_hrd hs h]; exact b3, k, by rw [sl_k h]; exact b4, cn_fx b5 (fun x => z _ _ (by unfold Wfo; omega)) (fun x => z _ _ (by unfold Wfo; omega)) (fun x => zl _ _ (by unfold Wfo; omega)), R, n, ρ, cn_fx b6 (fun x => z _ _ (by unfold Wfo; omega)) (fun x => z _ _ (by unfold Wfo; omega)) (fun x => zl _ _ (by unfold Wfo; omega)), b7, b8, fun w => (b9 w).trans ?_, fun i j g1 g2 => by rw [e68, e68]; exact b10 i j g1 g2⟩
  · rw [z _ _ (by unfold Wfo; omega), b1.2]
    congr 1
    exact msk_congr (fun i hi => (sl_inb h hi).symm)
  · rw [sl_9 h] at g1
    rw [z _ _ (by unfold Wfo; omega), b2 s m g1 g2]
    exact (sl_sr hs h g1 m g2).symm
  · rw [sl_hrd hs h]; exact (sl_Sc hs h _ w).symm
theorem cls_sl {ζ ζ' : ZS} (hs : Ws A) (h : Sl A B) (hc : Cls A ζ) (hr : Cr B ζ') (e : ∀ x y, Wfo x y → ζ'.1 x y = ζ.1 x y ∧ ζ'.2.1 x y = ζ.2.1 x y) (e18 : ζ'.1 26 18 = ζ.1 26 18) : Cls B ζ' :=
  ⟨hr, by rw [e18]; exact hc.2.1, fun g => fr_sl hs h (hc.2.2 (by rw [← e18]; exact g)) e⟩
end
/-! the order told by hand -/
def rin (A : Nat → Nat → Int) (z : Int) : Nat → Bool
  | 0 => false
  | n + 1 => rin A z n || decide (A 18 n = z)
theorem rin_iff {A : Nat → Nat → Int} {z : Int} : ∀ n, rin A z n = true ↔ ∃ p, p < n ∧ A 18 p = z
  | 0 => ⟨fun h => (by cases h), fun ⟨p, h, _⟩ => (by omega)⟩
  | n + 1 => by
    unfold rin
    rw [Bool.or_eq_true, rin_iff n, decide_eq_true_eq]
    constructor
    · rintro (⟨p, h1, h2⟩ | h)
      · exact ⟨p, by omega, h2⟩
      · exact ⟨n, by omega, h⟩
    · rintro ⟨p, h1, h2⟩
      by_cases e : p = n
      · subst e; exact Or.inr h2
      · exact Or.inl ⟨p, by omega, h2⟩
def rowG (A : Nat → Nat → Int) (z : Int) : Bool := decide (0 ≤ z) && decide (z ≤ 7) && !rin A z (A 0 24).toNat
def rowA (A : Nat → Nat → Int) (z : Int) : Nat → Nat → Int := if z = -1 then up A 0 24 0 else if rowG A z = true then up (up A 18 (A 0 24).toNat z) 0 24 (A 0 24 + 1) else A
def rowV (A : Nat → Nat → Int) (z : Int) : Int := if z = -1 then 1 else bi (rowG A z)
theorem row_room {A : Nat → Nat → Int} (hw : Wo A) {z : Int} (h : rowG A z = true) : A 0 24 < 8 ∧ 0 ≤ z ∧ z ≤ 7 ∧ ∀ p : Nat, (p : Int) < A 0 24 → A 18 p ≠ z := by
  unfold rowG at h
  simp only [Bool.and_eq_true, decide_eq_true_eq, Bool.not_eq_true'] at h
  obtain ⟨⟨h1, h2⟩, h3⟩ := h
  have nin : ∀ p : Nat, (p : Int) < A 0 24 → A 18 p ≠ z := fun p hp e => by
    have := (rin_iff (A 0 24).toNat).mpr ⟨p, by omega, e⟩
    rw [this] at h3; cases h3
  refine ⟨?_, h1, h2, nin⟩
  apply Classical.byContradiction
  intro c
  have q := hw.1
  have := inj_le 9 8 (fun i => if i < 8 then (A 18 i).toNat else z.toNat) (fun i hi => by
    split
    · have := hw.2.1 i (by omega); omega
    · omega) (fun i j hi hj e => by
    by_cases ci : i < 8 <;> by_cases cj : j < 8
    · rw [if_pos ci, if_pos cj] at e
      have a := hw.2.1 i (by omega)
      have b := hw.2.1 j (by omega)
      exact hw.2.2 i j (by omega) (by omega) (by omega)
    · rw [if_pos ci, if_neg cj] at e
      have a := hw.2.1 i (by omega)
      exact absurd (show A 18 i = z by omega) (nin i (by omega))
    · rw [if_neg ci, if_pos cj] at e
      have a := hw.2.1 j (by omega)
      exact absurd (show A 18 j = z by omega) (nin j (by omega))
    · omega)
  omega
theorem row_sl (A : Nat → Nat → Int) (z : Int) : Sl A (rowA A z) := by
  intro x y hl
  unfold Liv at hl
  unfold rowA
  split
  · rw [up_e, if_neg (by omega)]
  · split
    · rw [up_e, if_neg (by omega), up_e, if_neg (by omega)]
    · rfl
theorem wall_row {A : Nat → Nat → Int} (h : Wall A) (z : Int) : Wall (rowA A z) := by
  obtain ⟨h1, h2, h3, h4, h5, h6, h7⟩ := h
  have sl := row_sl A z
  have ot : ∀ x y, ¬ (x = 0 ∧ y = 24) → x ≠ 18 → rowA A z x y = A x y := fun x y g1 g2 => by
    unfold rowA
    split
    · rw [up_e, if_neg g1]
    · split
      · rw [up_e, if_neg g1, up_e, if_neg (by omega)]
      · rfl
  refine ⟨sl_wa h1 sl, sl_ws h2 sl, sl_wv h3 sl, ?_, ?_, ?_, ?_⟩
  · unfold Wx; rw [ot 0 32 (by omega) (by omega), ot 0 33 (by omega) (by omega), ot 0 34 (by omega) (by omega)]; exact h4
  · rw [ot 0 32 (by omega) (by omega)]; exact h5
  · have q := h6.1
    unfold rowA
    split
    · have e : up A 0 24 0 0 24 = 0 := by rw [up_e, if_pos ⟨rfl, rfl⟩]
      exact ⟨by rw [e]; omega, fun p hp => by rw [e] at hp; omega, fun p q hp => by rw [e] at hp; omega⟩
    · split
      case isFalse => exact h6
      case isTrue g0 g =>
        have rr := row_room h6 g
        have e : up (up A 18 (A 0 24).toNat z) 0 24 (A 0 24 + 1) 0 24 = A 0 24 + 1 := by rw [up_e, if_pos ⟨rfl, rfl⟩]
        have e18 : ∀ p, up (up A 18 (A 0 24).toNat z) 0 24 (A 0 24 + 1) 18 p = if p = (A 0 24).toNat then z else A 18 p := fun p => by
          rw [up_e, if_neg (by omega), up_e]
          by_cases c : p = (A 0 24).toNat
          · rw [if_pos ⟨rfl, c⟩, if_pos c]
          · rw [if_neg (by omega), if_neg c]
        refine ⟨by rw [e]; omega, fun p hp => ?_, fun p q hp hq => ?_⟩
        · rw [e] at hp
          rw [e18]
          split
          · omega
          · exact h6.2.1 p (by omega)
        · rw [e] at hp hq
          rw [e18, e18]
          by_cases cp : p = (A 0 24).toNat <;> by_cases cq : q = (A 0 24).toNat
          · intro _; omega
          · rw [if_pos cp, if_neg cq]; intro ee; exact absurd ee.symm (rr.2.2.2 q (by omega))
          · rw [if_neg cp, if_pos cq]; intro ee; exact absurd ee (rr.2.2.2 p (by omega))
          · rw [if_neg cp, if_neg cq]; exact h6.2.2 p q (by omega) (by omega)
  · unfold Wtp
    rw [ot 0 2 (by omega) (by omega)]
    exact ⟨h7.1, fun i hi => by rw [ot 1 i (by omega) (by omega)]; exact h7.2 i hi⟩
theorem a_row {A : Nat → Nat → Int} {ζ : ZS} (h : Rf A ζ) (hW : Wall A) {z : Int} (hz : r32 z) : Ok (g_X12_row z ζ) (RP (rowA A z) ζ (fun v => v = rowV A z)) := by
  have hwo := hW.2.2.2.2.2.1
  have q24 := hwo.1
  obtain ⟨N, hN⟩ : ∃ N : Nat, A 0 24 = N := ⟨(A 0 24).toNat, by omega⟩
  have f0 : Fx (fun x _ => x < 25 ∧ x ≠ 5) ζ (zI ζ 0 0 0) := fx_I (fx_refl _ _) (by decide)
  have h0 := rf_0 h 0
  have e24 : (zI ζ 0 0 0).1 0 24 = N := by rw [h0 0 24 (by unfold psl; omega), hN]
  unfold g_X12_row
  generalize zI ζ 0 0 0 = ζ0 at f0 h0 e24 ⊢
  refine ok_gI hz.1 hz.2 (by omega) (by omega) (fun g => ok_some ⟨by unfold rowV; rw [if_pos g], ?_, fx_I f0 (show 0 < 25 ∧ 0 ≠ 5 by decide)⟩) (fun g => ok_beq (s_within _ hz (by omega) (by omega)) ?_)
  · unfold rowA; rw [if_pos g]; exact rf_up h0 0 24 0 (by omega)
  have key : ∀ (n : Nat) (b : Bool) (w : Int) (j : Nat), w = j → j ≤ N → N - j < n → b = (decide (0 ≤ z) && decide (z ≤ 7) && !rin A z j) → Ok (g_X12_row_27 z n (bi b) w ζ0) (RP (rowA A z) ζ (fun v => v = rowV A z)) := by
    intro n
    induction n with
    | zero => intro _ _ _ _ _ h; omega
    | succ n ih =>
      intro b w j hw hj hn hb
      subst hw
      unfold g_X12_row_27 g_X12_row_53 g_X12_row_54 g_X12_row_85
      rw [e24]
      refine ok_gI (by omega) (by omega) (by omega) (by omega) (fun q => ?_) (fun q => ?_)
      · have ej : j = N := by omega
        subst ej
        have eg : rowG A z = b := by unfold rowG; rw [hN, show Int.toNat (j : Int) = j by omega, hb]
        refine ok_bi (fun e => ok_gz (bi_r b) (ok_some ⟨by unfold rowV; rw [if_neg g, eg], ?_, f0⟩)) (fun e => ?_)
        · unfold rowA; rw [if_neg g, eg, e]; exact h0
        · have rr := row_room hwo (eg.trans e)
          refine ok_gk (by omega) (by omega) (ok_gz (bi_r b) (ok_some ⟨by unfold rowV; rw [if_neg g, eg], ?_, fx_I (fx_I f0 (show 18 < 25 ∧ 18 ≠ 5 by decide)) (show 0 < 25 ∧ 0 ≠ 5 by decide)⟩))
          unfold rowA
          rw [if_neg g, eg, e, if_pos rfl, hN]
          have e2 : (zI ζ0 18 (Int.toNat (j : Int)) z).1 0 24 = j := by rw [zI_1, if_neg (by omega)]; exact e24
          rw [e2]
          exact rf_up (rf_up h0 18 _ z (by omega)) 0 24 _ (by omega)
      · have next : ∀ b', b' = (decide (0 ≤ z) && decide (z ≤ 7) && !rin A z (j + 1)) → Ok (g_X12_row_27 z n (bi b') ((j : Int) + 1) ζ0) (RP (rowA A z) ζ (fun v => v = rowV A z)) := fun b' hb' => ih b' _ (j + 1) (by omega) (by omega) (by omega) hb'
        have h18 : ζ0.1 18 j = A 18 j := rf_c h0 (by omega) (by omega)
        have r18 := hwo.2.1 j (by omega)
        rw [show Int.toNat (j : Int) = j by omega, h18]
        refine ok_bi (fun e => next false ?_) (fun e => ok_gk (by omega) (by omega) (ok_gI (by omega) (by omega) hz.1 hz.2 (fun q1 => next false ?_) (fun q1 => next true ?_)))
        · rw [e] at hb
          simp only [rin]
          cases e1 : rin A z j with
          | true => simp
          | false => rw [e1] at hb; simp at hb ⊢; intro z0 z7; have := hb z0; omega
        · simp only [rin]; rw [decide_eq_true q1]; simp
        · rw [e] at hb
          simp only [rin]
          rw [decide_eq_false q1]
          rw [Bool.or_false]; exact hb
  exact key FU _ 0 0 rfl (by omega) (by rw [FU_e]; omega) (by simp [rin])
theorem b_row {A : Nat → Nat → Int} {ζ : ZS} (h : Cls A ζ) (hW : Wall A) {z : Int} (hz : r32 z) : Ok (g_X11_row z ζ) (CP (rowA A z) ζ (fun v => v = rowV A z)) := by
  have hwo := hW.2.2.2.2.2.1
  have q24 := hwo.1
  obtain ⟨N, hN⟩ : ∃ N : Nat, A 0 24 = N := ⟨(A 0 24).toNat, by omega⟩
  have hcr := h.1
  have e13 : ζ.1 26 13 = N := by rw [hcr.2.2.2.2.1, hN]
  have epl : ∀ p : Nat, p < N → ζ.1 149 p = A 18 p := fun p hp => hcr.2.2.2.2.2.1 p (by omega)
  -- a new row is right
  have mk : ∀ (B : Nat → Nat → Int) (ζ' : ZS), rowA A z = B → (∀ x y, ¬ (x = 26 ∧ y = 13) → x ≠ 149 → ζ'.1 x y = ζ.1 x y) → ζ'.2 = ζ.2 → ζ'.1 26 13 = B 0 24 → (∀ p : Nat, (p : Int) < B 0 24 → ζ'.1 149 p = B 18 p) → (∀ x y, ¬ (x = 0 ∧ y = 24) → x ≠ 18 → B x y = A x y) → Cls (rowA A z) ζ' := by
    intro B ζ' hB hf h2 k1 k2 hBA
    have sl := row_sl A z
    rw [hB] at sl ⊢
    refine cls_sl hW.2.1 sl h ?_ (fun x y g => ⟨hf x y (by unfold Wfo at g; omega) (by unfold Wfo at g; omega), by rw [h2]⟩) (hf 26 18 (by omega) (by omega))
    obtain ⟨⟨c, d, hc, hd, hcd, r1, r2, hch⟩, hth, a1, a2, a3, a4, a5, a6, a7⟩ := hcr
    have hc' := hc
    unfold cell2 at hc'
    refine ⟨⟨c, d, hc, hd, hcd, by rw [h2]; exact r1, by rw [h2]; exact r2, ch_same (ch_fx hch (fun x y g1 g2 => hf x y (by omega) (by omega))) (fun x y g1 g2 => hBA x y (by omega) (by omega))⟩, ⟨?_, fun t m g1 g2 => ?_⟩, ?_, ?_, k1, k2, ?_, fun i g => ?_, fun m g => by rw [hf _ _ (by omega) (by omega)]; exact a7 m g⟩
    · rw [hf _ _ (by omega) (by omega), hth.1]
      congr 1
      exact msk_congr (fun i hi => (sl_told sl hi).symm)
    · rw [hf _ _ (by omega) (by omega), hBA _ _ (by omega) (by omega)]; exact hth.2 t m g1 g2
    · rw [hf _ _ (by omega) (by omega), hBA _ _ (by omega) (by omega)]; exact a1
    · rw [hf _ _ (by omega) (by omega), hBA _ _ (by omega) (by omega)]; exact a2
    · rw [hf _ _ (by omega) (by omega), hBA _ _ (by omega) (by omega)]; exact a5
    · rw [hBA 0 2 (by omega) (by omega)] at g
      rw [hf _ _ (by omega) (by omega), hBA _ _ (by omega) (by omega)]; exact a6 i g
  unfold g_X11_row g_X11_row_31
  have no : z ≠ -1 → rowG A z = false → Ok (some ((0 : Int), ζ)) (CP (rowA A z) ζ (fun v => v = rowV A z)) := fun g1 g2 => ok_some ⟨by unfold rowV; rw [if_neg g1, g2]; rfl, by unfold rowA; rw [if_neg g1, g2]; exact h, fx_refl _ _⟩
  refine ok_gI hz.1 hz.2 (by omega) (by omega) (fun g => ok_some ⟨by unfold rowV; rw [if_pos g], ?_, fx_I (fx_refl _ _) (show 26 ≤ 26 by decide)⟩) (fun g => ?_)
  · have e : up A 0 24 0 0 24 = 0 := by rw [up_e, if_pos ⟨rfl, rfl⟩]
    refine mk (up A 0 24 0) _ (by unfold rowA; rw [if_pos g]) (fun x y g1 g2 => by rw [zI_1, if_neg g1]) rfl (by rw [zI_1, if_pos ⟨rfl, rfl⟩, e]) (fun p hp => by rw [e] at hp; omega) (fun x y g1 g2 => by rw [up_e, if_neg g1])
  have nf : ¬ (0 ≤ z ∧ z ≤ 7) → rowG A z = false := fun q => by
    unfold rowG
    cases e : (decide (0 ≤ z) && decide (z ≤ 7)) with
    | false => rfl
    | true => exact absurd (bd_t e) q
  refine ok_gI hz.1 hz.2 (by omega) (by omega) (fun g1 => no g (nf (by omega))) (fun g1 => ok_gI (by omega) (by omega) hz.1 hz.2 (fun g2 => no g (nf (by omega))) (fun g2 => ?_))
  rw [e13]
  refine ok_gI (by omega) (by omega) (by omega) (by omega) (fun g3 => ?_) (fun g3 => no g ?_)
  · have key : ∀ (n : Nat) (w : Int) (j : Nat), w = j → j ≤ N → N - j < n → rin A z j = false → Ok (g_X11_row_35 z n w ζ) (CP (rowA A z) ζ (fun v => v = rowV A z)) := by
      intro n
      induction n with
      | zero => intro _ _ _ _ h; omega
      | succ n ih =>
        intro w j hw hj hn hb
        subst hw
        unfold g_X11_row_35
        rw [e13]
        refine ok_gI (by omega) (by omega) (by omega) (by omega) (fun q => ?_) (fun q => ?_)
        · have ej : j = N := by omega
          subst ej
          have eg : rowG A z = true := by unfold rowG; rw [hN, show Int.toNat (j : Int) = j by omega, hb, decide_eq_true (show 0 ≤ z by omega), decide_eq_true (show z ≤ 7 by omega)]; rfl
          refine ok_gk (by omega) (by omega) (ok_some ⟨by unfold rowV; rw [if_neg g, eg]; rfl, ?_, fx_I (fx_I (fx_refl _ _) (show 26 ≤ 149 by decide)) (show 26 ≤ 26 by decide)⟩)
          have e2 : (zI ζ 149 (Int.toNat (j : Int)) z).1 26 13 = j := by rw [zI_1, if_neg (by omega)]; exact e13
          rw [e2, show Int.toNat (j : Int) = j by omega]
          have e : up (up A 18 j z) 0 24 ((j : Int) + 1) 0 24 = (j : Int) + 1 := by rw [up_e, if_pos ⟨rfl, rfl⟩]
          refine mk (up (up A 18 j z) 0 24 ((j : Int) + 1)) _ (by unfold rowA; rw [if_neg g, eg, if_pos rfl, hN, show Int.toNat (j : Int) = j by omega]) (fun x y g1 g2 => by rw [zI_1, if_neg g1, zI_1, if_neg (by omega)]) rfl (by rw [zI_1, if_pos ⟨rfl, rfl⟩, e]) (fun p hp => ?_) (fun x y g1 g2 => by rw [up_e, if_neg g1, up_e, if_neg (by omega)])
          rw [e] at hp
          rw [up_e, if_neg (by omega), up_e, zI_1, if_neg (by omega), zI_1]
          by_cases c : p = j
          · rw [if_pos ⟨rfl, c⟩, if_pos ⟨rfl, c⟩]
          · rw [if_neg (by omega), if_neg (by omega)]; exact epl p (by omega)
        · have r18 := hwo.2.1 j (by omega)
          rw [show Int.toNat (j : Int) = j by omega, epl j (by omega)]
          refine ok_gk (by omega) (by omega) (ok_gI (by omega) (by omega) hz.1 hz.2 (fun q1 => no g ?_) (fun q1 => ih _ (j + 1) (by omega) (by omega) (by omega) (by simp only [rin]; rw [hb, decide_eq_false q1]; rfl)))
          unfold rowG
          have : rin A z (A 0 24).toNat = true := (rin_iff _).mpr ⟨j, by omega, q1⟩
          rw [this]; simp
    exact key FU 0 0 rfl (by omega) (by rw [FU_e]; omega) rfl
  · cases e : rowG A z with
    | false => rfl
    | true => have := row_room hwo e; omega
