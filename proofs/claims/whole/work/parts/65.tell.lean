/-! measures, drop, thing: reference and class -/
theorem zand01 : zand 0 1 = 0 := by decide
theorem zand11 : zand 1 1 = 1 := by decide
theorem okV_of {z lo hi v : Int} (h1 : lo ≤ z ∧ z ≤ hi → v = 1) (h0 : ¬ (lo ≤ z ∧ z ≤ hi) → v = 0) : okV z lo hi v := by
  unfold okV
  cases e : (decide (lo ≤ z) && decide (z ≤ hi)) with
  | true => simp only [Bool.and_eq_true, decide_eq_true_eq] at e; exact h1 e
  | false => exact h0 (fun q => by rw [decide_eq_true q.1, decide_eq_true q.2] at e; cases e)
theorem s_forgets {ζ : ZS} {o : Nat} {z : Int} (hz : z = o) (ho : o < 2) : Ok (g_X12_forgetsChoice z ζ) (fun ζ' => (∀ x y, ζ'.1 x y = if x = 9 ∧ y = o then 0 else if x = 6 ∧ 4 * o ≤ y ∧ y < 4 * o + 4 then 0 else if (x = 7 ∨ x = 8) ∧ 4 * o ≤ y ∧ y < 4 * o + 4 then -1 else ζ.1 x y) ∧ ζ'.2 = ζ.2) := by
  subst hz
  have key : ∀ (n : Nat) (w : Int) (j : Nat) (ζ1 : ZS), w = j → j ≤ 4 → 4 - j < n → Ok (g_X12_forgetsChoice_9 (o : Int) n w ζ1) (fun ζ' => (∀ x y, ζ'.1 x y = if x = 6 ∧ 4 * o + j ≤ y ∧ y < 4 * o + 4 then 0 else if (x = 7 ∨ x = 8) ∧ 4 * o + j ≤ y ∧ y < 4 * o + 4 then -1 else ζ1.1 x y) ∧ ζ'.2 = ζ1.2) := by
    intro n
    induction n with
    | zero => intro _ _ _ _ _ h; omega
    | succ n ih =>
      intro w j ζ1 hw hj hn
      subst hw
      unfold g_X12_forgetsChoice_9
      refine ok_gI (by omega) (by omega) (by omega) (by omega) (fun g => ok_some ⟨fun x y => ?_, rfl⟩) (fun g => ?_)
      · rw [if_neg (by omega), if_neg (by omega)]
      · refine ok_gk (by omega) (by omega) (ok_gk (by omega) (by omega) (ok_gk (by omega) (by omega) (ok_mono (ih _ (j + 1) _ (by omega) (by omega) (by omega)) (fun ζ' ⟨e1, e2⟩ => ⟨fun x y => ?_, e2⟩))))
        rw [e1 x y, zI_1, zI_1, zI_1, zand01, show Int.toNat (4 * (o : Int) + j) = 4 * o + j by omega]
        repeat' split
        all_goals first | rfl | (exfalso; omega)
  unfold g_X12_forgetsChoice
  rw [show Int.toNat (o : Int) = o by omega]
  refine ok_gk (by omega) (by omega) (ok_mono (key FU 0 0 _ rfl (by omega) (by rw [FU_e]; omega)) (fun ζ' ⟨e1, e2⟩ => ⟨fun x y => ?_, e2⟩))
  rw [e1 x y, zI_1]
  repeat' split
  all_goals first | rfl | (exfalso; omega)
def clrA (A : Nat → Nat → Int) (z : Int) : Nat → Nat → Int := fun x y => if x = 0 ∧ y = 20 then z else if x = 16 ∧ y < 8 then 0 else if x = 9 ∧ y = 0 then 0 else if x = 6 ∧ y < 4 then 0 else if (x = 7 ∨ x = 8) ∧ y < 4 then -1 else if x = 0 ∧ y = 23 then 255 else if x = 0 ∧ y = 24 then 0 else A x y
theorem s_clears {ζ : ZS} {z : Int} : Ok (g_X12_clears z ζ) (fun ζ' => (∀ x y, ζ'.1 x y = clrA ζ.1 z x y) ∧ ζ'.2 = ζ.2) := by
  have key : ∀ (n : Nat) (w : Int) (j : Nat) (ζ1 : ZS), w = j → j ≤ 8 → 8 - j < n → Ok (g_X12_clears_7 n w ζ1) (fun ζ' => (∀ x y, ζ'.1 x y = if x = 16 ∧ j ≤ y ∧ y < 8 then 0 else if x = 9 ∧ y = 0 then 0 else if x = 6 ∧ y < 4 then 0 else if (x = 7 ∨ x = 8) ∧ y < 4 then -1 else if x = 0 ∧ y = 23 then 255 else if x = 0 ∧ y = 24 then 0 else ζ1.1 x y) ∧ ζ'.2 = ζ1.2) := by
    intro n
    induction n with
    | zero => intro _ _ _ _ _ h; omega
    | succ n ih =>
      intro w j ζ1 hw hj hn
      subst hw
      unfold g_X12_clears_7
      refine ok_gI (by omega) (by omega) (by omega) (by omega) (fun g => ok_bind (s_forgets (o := 0) rfl (by omega)) (fun q ⟨e1, e2⟩ => ok_some ⟨fun x y => ?_, e2⟩)) (fun g => ?_)
      · rw [zI_1, zI_1, e1 x y]
        repeat' split
        all_goals first | rfl | (exfalso; omega)
      · refine ok_gk (by omega) (by omega) (ok_mono (ih _ (j + 1) _ (by omega) (by omega) (by omega)) (fun ζ' ⟨e1, e2⟩ => ⟨fun x y => ?_, e2⟩))
        rw [e1 x y, zI_1, zand01, show Int.toNat (j : Int) = j by omega]
        repeat' split
        all_goals first | rfl | (exfalso; omega)
  unfold g_X12_clears
  refine ok_mono (key FU 0 0 _ rfl (by omega) (by rw [FU_e]; omega)) (fun ζ' ⟨e1, e2⟩ => ⟨fun x y => ?_, e2⟩)
  rw [e1 x y, zI_1]
  unfold clrA
  repeat' split
  all_goals first | rfl | (exfalso; omega)
theorem rf_clr {A : Nat → Nat → Int} {ζ ζ' : ZS} {z : Int} (h : Rf A ζ) (e : ∀ x y, ζ'.1 x y = clrA ζ.1 z x y) : Rf (clrA A z) ζ' := fun x y hp => by
  have e32 : clrA A z 0 32 = A 0 32 := rfl
  have hp' : psl A x y := by unfold psl at hp ⊢; rw [e32] at hp; exact hp
  rw [e x y]
  unfold clrA
  rw [h x y hp']
def measA (A : Nat → Nat → Int) (z : Int) : Nat → Nat → Int := if 1 ≤ z ∧ z ≤ 4 then clrA A z else A
theorem a_measures {A : Nat → Nat → Int} {ζ : ZS} (h : Rf A ζ) {z : Int} (hz : r32 z) : Ok (g_X12_measures z ζ) (RP (measA A z) ζ (okV z 1 4)) := by
  have f0 : Fx (fun x _ => x < 25 ∧ x ≠ 5) ζ (zI ζ 0 0 0) := fx_I (fx_refl _ _) (by decide)
  unfold g_X12_measures
  refine ok_beq (s_within _ hz (by omega) (by omega)) (ok_bi (fun e => ok_some ⟨by unfold okV; rw [e]; rfl, ?_, f0⟩) (fun e => ?_))
  · unfold measA
    rw [if_neg (fun q => by rw [decide_eq_true q.1, decide_eq_true q.2] at e; cases e)]
    exact rf_0 h 0
  · refine ok_bind s_clears (fun q ⟨e1, e2⟩ => ok_some ⟨by unfold okV; rw [e]; rfl, ?_, fx_trans f0 ⟨fun x y hx => ⟨?_, by rw [e2]⟩, by rw [e2]⟩⟩)
    · unfold measA
      simp only [Bool.and_eq_true, decide_eq_true_eq] at e
      rw [if_pos e]
      exact rf_clr (rf_0 h 0) e1
    · have hx : ¬ (x < 25 ∧ x ≠ 5) := hx
      show q.1 x y = (zI ζ 0 0 0).1 x y
      rw [e1 x y]
      unfold clrA
      repeat' split
      all_goals first | rfl | (exfalso; omega)
theorem wall_meas {A : Nat → Nat → Int} (h : Wall A) (z : Int) : Wall (measA A z) := by
  unfold measA
  split
  case isFalse => exact h
  case isTrue q =>
    obtain ⟨h1, h2, h3, h4, h5, h6, h7⟩ := h
    have e20 : clrA A z 0 20 = z := rfl
    have e9 : clrA A z 9 0 = 0 := rfl
    have e24 : clrA A z 0 24 = 0 := rfl
    have e2 : clrA A z 0 2 = A 0 2 := rfl
    refine ⟨⟨by rw [e20]; exact q, fun t ht => ?_, fun t m ht hm => ?_, fun m hm => ?_⟩, ⟨by rw [e9]; omega, fun s hs => by rw [e9] at hs; omega⟩, ?_, h4, h5, ⟨by rw [e24]; omega, fun p hp => by rw [e24] at hp; omega, fun p q hp => by rw [e24] at hp; omega⟩, ⟨h7.1, fun i hi => h7.2 i hi⟩⟩
    · left
      show clrA A z 16 t = 0
      unfold clrA
      rw [if_neg (by omega), if_pos ⟨rfl, ht⟩]
    · have : clrA A z 17 (4 * t + m) = A 17 (4 * t + m) := by unfold clrA; repeat' split; all_goals first | rfl | (exfalso; omega)
      rw [this]; exact h1.2.2.1 t m ht hm
    · have a6 : clrA A z 6 m = 0 := by unfold clrA; rw [if_neg (by omega), if_neg (by omega), if_neg (by omega), if_pos ⟨rfl, hm⟩]
      have a7 : clrA A z 7 m = -1 := by unfold clrA; rw [if_neg (by omega), if_neg (by omega), if_neg (by omega), if_neg (by omega), if_pos ⟨Or.inl rfl, hm⟩]
      have a8 : clrA A z 8 m = -1 := by unfold clrA; rw [if_neg (by omega), if_neg (by omega), if_neg (by omega), if_neg (by omega), if_pos ⟨Or.inr rfl, hm⟩]
      rw [a6, a7, a8]
      exact ⟨Or.inl rfl, by omega, by omega, fun _ => ⟨rfl, rfl, rfl⟩⟩
    · show 0 ≤ (255 : Int) ∧ (255 : Int) ≤ 255
      omega
theorem s_clearC {ζ : ZS} {c : Nat} : Ok (g_X0_clear c ζ) (fun ζ' => (∀ x y, ζ'.1 x y = if x = c ∧ y = 9 then 0 else if (x = c + 1 ∨ x = c + 2 ∨ x = c + 3) ∧ y < 4 then -1 else ζ.1 x y) ∧ ζ'.2 = ζ.2) := by
  have key : ∀ (n : Nat) (w : Int) (j : Nat) (ζ1 : ZS), w = j → j ≤ 4 → 4 - j < n → Ok (g_X0_clear_2 c n w ζ1) (fun ζ' => (∀ x y, ζ'.1 x y = if x = c ∧ y = 9 then 0 else if (x = c + 1 ∨ x = c + 2 ∨ x = c + 3) ∧ j ≤ y ∧ y < 4 then -1 else ζ1.1 x y) ∧ ζ'.2 = ζ1.2) := by
    intro n
    induction n with
    | zero => intro _ _ _ _ _ h; omega
    | succ n ih =>
      intro w j ζ1 hw hj hn
      subst hw
      unfold g_X0_clear_2
      refine ok_gI (by omega) (by omega) (by omega) (by omega) (fun g => ok_some ⟨fun x y => ?_, rfl⟩) (fun g => ?_)
      · rw [zI_1]
        repeat' split
        all_goals first | rfl | (exfalso; omega)
      · refine ok_gk (by omega) (by omega) (ok_gk (by omega) (by omega) (ok_gk (by omega) (by omega) (ok_mono (ih _ (j + 1) _ (by omega) (by omega) (by omega)) (fun ζ' ⟨e1, e2⟩ => ⟨fun x y => ?_, e2⟩))))
        rw [e1 x y, zI_1, zI_1, zI_1, show Int.toNat (j : Int) = j by omega]
        repeat' split
        all_goals first | rfl | (exfalso; omega)
  unfold g_X0_clear
  refine ok_mono (key FU 0 0 _ rfl (by omega) (by rw [FU_e]; omega)) (fun ζ' ⟨e1, e2⟩ => ⟨fun x y => ?_, e2⟩)
  rw [e1 x y]
  repeat' split
  all_goals first | rfl | (exfalso; omega)
theorem cell_kd {c : Nat} (h : cell2 c) : kd c = 0 := by unfold cell2 at h; rcases h with e | e <;> subst e <;> decide
theorem s_beginWith {A : Nat → Nat → Int} {ζ : ZS} (h : Cr A ζ) {z : Int} : Ok (g_X11_beginWith z ζ) (fun ζ' => Cls (clrA A z) ζ' ∧ Fx (fun x _ => 26 ≤ x) ζ ζ') := by
  obtain ⟨⟨c, d, hc, hd, hcd, r1, r2, hch⟩, hth, a1, a2, a3, a4, a5, a6, a7⟩ := h
  have hc' := hc
  unfold cell2 at hc'
  unfold g_X11_beginWith
  refine ok_rk r1 (cell_kd hc) (ok_bind s_clearC (fun q ⟨e1, e2⟩ => ok_some ?_))
  have E : ∀ x y, (zI (zI (zI q 26 13 0) 26 17 255) 26 18 1).1 x y = if x = 26 ∧ y = 18 then 1 else if x = 26 ∧ y = 17 then 255 else if x = 26 ∧ y = 13 then 0 else if x = c ∧ y = 9 then 0 else if (x = c + 1 ∨ x = c + 2 ∨ x = c + 3) ∧ y < 4 then -1 else if x = 30 ∧ y = 3 then 0 else if x = 26 ∧ y = 16 then z else ζ.1 x y := fun x y => by
    rw [zI_1, zI_1, zI_1, e1 x y, zI_1, zI_1]
  have E2 : (zI (zI (zI q 26 13 0) 26 17 255) 26 18 1).2 = ζ.2 := e2
  generalize zI (zI (zI q 26 13 0) 26 17 255) 26 18 1 = ζ' at E E2
  have c6 : ∀ m, m < 4 → clrA A z 6 m = 0 := fun m hm => by unfold clrA; rw [if_neg (by omega), if_neg (by omega), if_neg (by omega), if_pos ⟨rfl, hm⟩]
  have c7 : ∀ m, m < 4 → clrA A z 7 m = -1 := fun m hm => by unfold clrA; rw [if_neg (by omega), if_neg (by omega), if_neg (by omega), if_neg (by omega), if_pos ⟨Or.inl rfl, hm⟩]
  have c8 : ∀ m, m < 4 → clrA A z 8 m = -1 := fun m hm => by unfold clrA; rw [if_neg (by omega), if_neg (by omega), if_neg (by omega), if_neg (by omega), if_pos ⟨Or.inr rfl, hm⟩]
  have c9 : clrA A z 9 0 = 0 := rfl
  have c24 : clrA A z 0 24 = 0 := rfl
  have keep : ∀ x y, x ≠ 26 → x ≠ 30 → x < 150 → ζ'.1 x y = ζ.1 x y := fun x y g1 g2 g3 => by
    rw [E x y]
    repeat' split
    all_goals first | rfl | (exfalso; omega)
  refine ⟨cls_stale ⟨⟨c, d, hc, hd, hcd, by rw [E2]; exact r1, by rw [E2]; exact r2, ⟨fun m hm => ⟨?_, ?_, ?_⟩, ?_, fun s hs => by rw [c9] at hs; omega⟩⟩, ⟨?_, fun t m g1 g2 => ?_⟩, ?_, ?_, ?_, fun p g => by rw [c24] at g; omega, ?_, fun i g => ?_, fun m g => by rw [keep _ _ (by omega) (by omega) (by omega)]; exact a7 m g⟩ (by rw [E, if_pos ⟨rfl, rfl⟩]), ⟨fun x y hx => ⟨?_, by rw [E2]⟩, by rw [E2]⟩⟩
  · rw [c6 m hm, if_pos rfl, E, if_neg (by omega), if_neg (by omega), if_neg (by omega), if_neg (by omega), if_pos (by omega)]
  · rw [c7 m hm, E, if_neg (by omega), if_neg (by omega), if_neg (by omega), if_neg (by omega), if_pos (by omega)]
  · rw [c8 m hm, E, if_neg (by omega), if_neg (by omega), if_neg (by omega), if_neg (by omega), if_pos (by omega)]
  · rw [c9, E, if_neg (by omega), if_neg (by omega), if_neg (by omega), if_pos ⟨rfl, rfl⟩]
  · rw [E, if_neg (by omega), if_neg (by omega), if_neg (by omega), if_neg (by omega), if_neg (by omega), if_pos ⟨rfl, rfl⟩, msk_0 (told (clrA A z)) (fun i hi => ?_)]
    · rfl
    · unfold told
      rw [decide_eq_false]
      intro q
      apply q
      unfold clrA
      rw [if_neg (by omega), if_pos ⟨rfl, hi⟩]
  · have : clrA A z 17 (4 * t + m) = A 17 (4 * t + m) := by unfold clrA; repeat' split; all_goals first | rfl | (exfalso; omega)
    rw [this, keep _ _ (by omega) (by omega) (by omega)]; exact hth.2 t m g1 g2
  · rw [E, if_neg (by omega), if_neg (by omega), if_neg (by omega), if_neg (by omega), if_neg (by omega), if_neg (by omega), if_pos ⟨rfl, rfl⟩]; rfl
  · rw [E, if_neg (by omega), if_pos ⟨rfl, rfl⟩]; rfl
  · rw [E, if_neg (by omega), if_neg (by omega), if_pos ⟨rfl, rfl⟩]; rfl
  · rw [keep _ _ (by omega) (by omega) (by omega)]; exact a5
  · have g' : (i : Int) < A 0 2 := g
    rw [keep _ _ (by omega) (by omega) (by omega), a6 i g']
    unfold clrA
    repeat' split
    all_goals first | rfl | (exfalso; omega)
  · have hx : ¬ 26 ≤ x := hx
    rw [E x y]
    repeat' split
    all_goals first | rfl | (exfalso; omega)
theorem b_measures {A : Nat → Nat → Int} {ζ : ZS} (h : Cls A ζ) {z : Int} (hz : r32 z) : Ok (g_X11_measures z ζ) (CP (measA A z) ζ (okV z 1 4)) := by
  unfold g_X11_measures g_X11_measures_10
  have no : ¬ (1 ≤ z ∧ z ≤ 4) → Ok (some ((0 : Int), ζ)) (CP (measA A z) ζ (okV z 1 4)) := fun g => ok_some ⟨okV_of (fun q => absurd q g) (fun _ => rfl), by unfold measA; rw [if_neg g]; exact h, fx_refl _ _⟩
  refine ok_gI hz.1 hz.2 (by omega) (by omega) (fun g => no (by omega)) (fun g => ok_gI hz.1 hz.2 (by omega) (by omega) (fun g2 => ?_) (fun g2 => no (by omega)))
  refine ok_bind (s_beginWith h.1) (fun q ⟨q1, q2⟩ => ok_some ⟨okV_of (fun _ => rfl) (fun q => absurd ⟨by omega, g2⟩ q), ?_, q2⟩)
  unfold measA
  rw [if_pos ⟨by omega, g2⟩]
  exact q1
/-! drop -/
def dropA (A : Nat → Nat → Int) (z : Int) : Nat → Nat → Int := if thz A z = true then up A 16 z.toNat 0 else A
theorem wall_drop {A : Nat → Nat → Int} (h : Wall A) (z : Int) : Wall (dropA A z) := by
  unfold dropA
  split
  case isFalse => exact h
  case isTrue q =>
    have ot : ∀ x y, x ≠ 16 → up A 16 z.toNat 0 x y = A x y := fun x y g => by rw [up_e, if_neg (by omega)]
    obtain ⟨h1, h2⟩ := h
    refine ⟨⟨h1.1, fun t ht => ?_, h1.2.2⟩, h2⟩
    rw [up_e]
    split
    · exact Or.inl rfl
    · exact h1.2.1 t ht
theorem a_drop {A : Nat → Nat → Int} {ζ : ZS} (h : Rf A ζ) (hW : Wall A) {z : Int} (hz : r32 z) : Ok (g_X12_drop z ζ) (RP (dropA A z) ζ (fun v => v = bi (thz A z))) := by
  have f0 : Fx (fun x _ => x < 25 ∧ x ≠ 5) ζ (zI ζ 0 0 0) := fx_I (fx_refl _ _) (by decide)
  unfold g_X12_drop
  refine ok_beq (s_isThing (rf_0 h 0) hW.1 hz) (ok_bi (fun e => ok_some ⟨by rw [e]; rfl, by unfold dropA; rw [e]; exact rf_0 h 0, f0⟩) (fun e => ?_))
  have e' := e
  unfold thz at e'
  simp only [Bool.and_eq_true, decide_eq_true_eq] at e'
  refine ok_gk (by omega) (by omega) (ok_some ⟨by rw [e]; rfl, ?_, fx_I f0 (show 16 < 25 ∧ 16 ≠ 5 by decide)⟩)
  unfold dropA
  rw [e, if_pos rfl, zand01]
  exact rf_up (rf_0 h 0) 16 z.toNat 0 (by omega)
/-- the class's lasting part, when only things and what is told of them have changed -/
theorem cr_th {A B : Nat → Nat → Int} {ζ ζ' : ZS} (h : Cr A ζ) (hr : ζ'.2.2 = ζ.2.2) (hB : ∀ x y, x ≠ 16 → x ≠ 17 → B x y = A x y) (hf : ∀ x y, (x = 26 ∧ y ≠ 18) ∨ x = 27 ∨ x = 28 ∨ 148 ≤ x → ζ'.1 x y = ζ.1 x y) (ht : Th B ζ') : Cr B ζ' := by
  obtain ⟨⟨c, d, hc, hd, hcd, r1, r2, hch⟩, hth, a1, a2, a3, a4, a5, a6, a7⟩ := h
  have hc' := hc
  unfold cell2 at hc'
  refine ⟨⟨c, d, hc, hd, hcd, by rw [hr]; exact r1, by rw [hr]; exact r2, ch_same (ch_fx hch (fun x y g1 g2 => hf x y (by omega))) (fun x y g1 g2 => hB x y (by omega) (by omega))⟩, ht, ?_, ?_, ?_, fun p g => ?_, ?_, fun i g => ?_, fun m g => by rw [hf _ _ (by omega)]; exact a7 m g⟩
  · rw [hf _ _ (by omega), hB _ _ (by omega) (by omega)]; exact a1
  · rw [hf _ _ (by omega), hB _ _ (by omega) (by omega)]; exact a2
  · rw [hf _ _ (by omega), hB _ _ (by omega) (by omega)]; exact a3
  · rw [hB 0 24 (by omega) (by omega)] at g
    rw [hf _ _ (by omega), hB _ _ (by omega) (by omega)]; exact a4 p g
  · rw [hf _ _ (by omega), hB _ _ (by omega) (by omega)]; exact a5
  · rw [hB 0 2 (by omega) (by omega)] at g
    rw [hf _ _ (by omega), hB _ _ (by omega) (by omega)]; exact a6 i g
theorem b_drop {A : Nat → Nat → Int} {ζ : ZS} (h : Cls A ζ) {z : Int} (hz : r32 z) : Ok (g_X11_drop z ζ) (CP (dropA A z) ζ (fun v => v = bi (thz A z))) := by
  unfold g_X11_drop
  refine ok_beq (s_isTold h.1.2.1.1 hz) (ok_bi (fun e => ok_some ⟨by rw [e]; rfl, by unfold dropA; rw [e]; exact h, fx_refl _ _⟩) (fun e => ?_))
  have e' := e
  unfold thz at e'
  simp only [Bool.and_eq_true, decide_eq_true_eq] at e'
  refine ok_some ⟨by rw [e]; rfl, ?_, fx_I (fx_I (fx_refl _ _) (show 26 ≤ 30 by decide)) (show 26 ≤ 26 by decide)⟩
  unfold dropA
  rw [e, if_pos rfl]
  have ez : zand (ζ.1 30 3) (zxor (zshl 1 z) (-1)) = ((msk (told (up A 16 z.toNat 0)) 8 : Nat) : Int) := by
    have := z_out (told A) (n := 8) (t := z.toNat) (by omega) (by omega)
    rw [show ((z.toNat : Nat) : Int) = z by omega] at this
    rw [h.1.2.1.1, this]
    congr 1
    refine msk_congr (fun i hi => ?_)
    unfold told
    rw [up_e]
    by_cases g : i = z.toNat
    · rw [if_pos ⟨rfl, g⟩]; simp [g]
    · rw [if_neg (by omega)]; simp [g]
  show Cls (up A 16 z.toNat 0) (zI (zI ζ 30 3 (zand (ζ.1 30 3) (zxor (zshl 1 z) (-1)))) 26 18 1)
  rw [ez]
  refine cls_stale (cr_th h.1 rfl (fun x y g1 g2 => by rw [up_e, if_neg (by omega)]) (fun x y g => by rw [zI_1, if_neg (by omega), zI_1, if_neg (by omega)]) ⟨?_, fun t m g1 g2 => ?_⟩) (by rw [zI_1, if_pos ⟨rfl, rfl⟩])
  · rw [zI_1, if_neg (by omega), zI_1, if_pos ⟨rfl, rfl⟩]
  · rw [zI_1, if_neg (by omega), zI_1, if_neg (by omega), up_e, if_neg (by omega)]; exact h.1.2.1.2 t m g1 g2
