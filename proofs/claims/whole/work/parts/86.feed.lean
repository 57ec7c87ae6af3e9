/-! feed: signs put onto the tape; voices keeps the wall -/
theorem sg_bits (X : BitVec 64) (j : Nat) (hj : j ≤ 56) : (X.sshiftRight j).signExtend 32 &&& 255#32 = (X >>> j).signExtend 32 &&& 255#32 := by
  apply BitVec.eq_of_getLsbD_eq
  intro i hi
  rw [BitVec.getLsbD_and, BitVec.getLsbD_and]
  by_cases c : i < 8
  · congr 1
    rw [BitVec.getLsbD_signExtend, BitVec.getLsbD_signExtend, BitVec.getLsbD_sshiftRight, BitVec.getLsbD_ushiftRight]
    rw [decide_eq_true hi, if_pos (show i < 64 by omega), if_pos (show i < 64 by omega), if_pos (show j + i < 64 by omega)]
    rw [decide_eq_false (show ¬ 64 ≤ i by omega)]
    rfl
  · have e : (255#32).getLsbD i = false := by
      show Nat.testBit 255 i = false
      exact Nat.testBit_lt_two_pow (Nat.lt_of_lt_of_le (show 255 < 2 ^ 8 by decide) (Nat.pow_le_pow_right (by decide) (by omega)))
    rw [e, Bool.and_false, Bool.and_false]
theorem sg_s1 : ∀ j, j < 8 → (BitVec.smod ((mJ ((8 * j : Nat) : Int)).toInt64 &&& 63).toBitVec 64).toNat = 8 * j := by decide +kernel
theorem sg_s2 : ∀ j, j < 8 → (BitVec.umod ((mJ ((8 * j : Nat) : Int)).toInt64.toUInt64 &&& Int64.toUInt64 63).toBitVec 64).toNat = 8 * j := by decide +kernel
theorem sg_eq (v : Int) {j : Nat} (hj : j < 8) : zand (zlsr v ((8 * j : Nat) : Int)) 255 = zand (zlur v ((8 * j : Nat) : Int)) 255 := by
  unfold zand zlsr zlur
  congr 1
  apply Int32.toBitVec_inj.1
  show BitVec.signExtend 32 ((mL v).toBitVec.sshiftRight (BitVec.smod ((mJ ((8 * j : Nat) : Int)).toInt64 &&& 63).toBitVec 64).toNat) &&& 255#32 = BitVec.signExtend 32 ((mL v).toBitVec >>> (BitVec.umod ((mJ ((8 * j : Nat) : Int)).toInt64.toUInt64 &&& Int64.toUInt64 63).toBitVec 64).toNat) &&& 255#32
  rw [sg_s1 j hj, sg_s2 j hj]
  exact sg_bits _ _ (by omega)
theorem sg_bd (x : Int) : 0 ≤ zand x 255 ∧ zand x 255 ≤ 255 := by
  have l : ((mJ x).toBitVec &&& 255#32).toNat ≤ 255 := by rw [BitVec.toNat_and]; exact Nat.and_le_right
  have e : zand x 255 = _ := i32n (x := mJ x &&& mJ 255) (n := ((mJ x).toBitVec &&& 255#32).toNat) rfl (by omega)
  omega
theorem sg_by {c : Int} (h0 : 0 ≤ c) (h1 : c ≤ 126) : zbyt (zi2b c) = c := by
  have : ∀ n : Nat, n < 127 → zbyt (zi2b (n : Int)) = (n : Int) := by decide +kernel
  have e := this c.toNat (by omega)
  rw [show ((c.toNat : Nat) : Int) = c by omega] at e
  exact e
def sgv (v : Int) (j : Nat) : Int := zand (zlsr v ((8 * j : Nat) : Int)) 255
abbrev kno (c : Int) : Prop := c = 10 ∨ (32 ≤ c ∧ c ≤ 126)
def lay1 (A : Nat → Nat → Int) (c : Int) : Nat → Nat → Int := if kno c ∧ A 0 2 < 1000 then up (up A 1 (A 0 2).toNat c) 0 2 (A 0 2 + 1) else A
def layN (A : Nat → Nat → Int) (v : Int) : Nat → Nat → Nat → Int
  | 0 => A
  | j + 1 => layN (lay1 A (sgv v j)) v j
theorem lay_ot (A : Nat → Nat → Int) (c : Int) (x y : Nat) (h1 : ¬ (x = 0 ∧ y = 2)) (h2 : x ≠ 1) : lay1 A c x y = A x y := by
  unfold lay1
  split
  · rw [up_e, if_neg h1, up_e, if_neg (by omega)]
  · rfl
theorem lay_sl (A : Nat → Nat → Int) (c : Int) : Sl A (lay1 A c) := by
  intro x y hl
  unfold Liv at hl
  exact lay_ot A c x y (by omega) (by omega)
theorem wall_lay1 {A : Nat → Nat → Int} (h : Wall A) (c : Int) : Wall (lay1 A c) := by
  obtain ⟨h1, h2, h3, h4, h5, h6, h7⟩ := h
  have sl := lay_sl A c
  have ot := lay_ot A c
  refine ⟨sl_wa h1 sl, sl_ws h2 sl, sl_wv h3 sl, ?_, ?_, ?_, ?_⟩
  · unfold Wx; rw [ot 0 32 (by omega) (by omega), ot 0 33 (by omega) (by omega), ot 0 34 (by omega) (by omega)]; exact h4
  · rw [ot 0 32 (by omega) (by omega)]; exact h5
  · unfold Wo
    rw [ot 0 24 (by omega) (by omega)]
    exact ⟨h6.1, fun p hp => by rw [ot 18 p (by omega) (by omega)]; exact h6.2.1 p hp, fun p q hp hq => by rw [ot 18 p (by omega) (by omega), ot 18 q (by omega) (by omega)]; exact h6.2.2 p q hp hq⟩
  · unfold lay1
    split
    case isFalse => exact h7
    case isTrue g =>
      have q := h7.1
      have e : up (up A 1 (A 0 2).toNat c) 0 2 (A 0 2 + 1) 0 2 = A 0 2 + 1 := by rw [up_e, if_pos ⟨rfl, rfl⟩]
      refine ⟨by rw [e]; omega, fun i hi => ?_⟩
      rw [e] at hi
      rw [up_e, if_neg (by omega), up_e]
      by_cases ci : i = (A 0 2).toNat
      · rw [if_pos ⟨rfl, ci⟩]; exact g.1
      · rw [if_neg (by omega)]; exact h7.2 i (by omega)
theorem wall_layN {v : Int} : ∀ (j : Nat) {A : Nat → Nat → Int}, Wall A → Wall (layN A v j)
  | 0, _, h => h
  | j + 1, _, h => wall_layN j (wall_lay1 h _)
theorem s_layd (v : Int) : ∀ (n j : Nat) (w : Int) (A : Nat → Nat → Int) (ζ : ZS), w = 8 * (j : Int) - 8 → j ≤ 8 → j < n → Rf A ζ → Wall A → Ok (g_X12_lay_3 v n w ζ) (fun ζ' => Rf (layN A v j) ζ' ∧ Fx (fun x _ => x < 25 ∧ x ≠ 5) ζ ζ') := by
  intro n
  induction n with
  | zero => intro _ _ _ _ _ _ h; omega
  | succ n ih =>
    intro j w A ζ hw hj hn hr hW
    subst hw
    unfold g_X12_lay_3 g_X12_lay_38 g_X12_lay_69
    cases j with
    | zero => exact ok_gI (by omega) (by omega) (by omega) (by omega) (fun _ => ok_some ⟨hr, fx_refl _ _⟩) (fun q => absurd (show 8 * ((0 : Nat) : Int) - 8 < 0 by omega) q)
    | succ j =>
      have ew : 8 * ((j + 1 : Nat) : Int) - 8 = ((8 * j : Nat) : Int) := by omega
      rw [ew]
      have q2 := hW.2.2.2.2.2.2.1
      have e2 : ζ.1 0 2 = A 0 2 := hr 0 2 (by unfold psl; omega)
      rw [e2]
      have bd := sg_bd (zlsr v ((8 * j : Nat) : Int))
      show Ok (gI _ _ _ _ (gI (sgv v j) _ (sgv v j = 10) _ (gI (sgv v j) _ (sgv v j < 32) _ (gI _ (sgv v j) (126 < sgv v j) _ _)))) (fun ζ' => Rf (layN (lay1 A (sgv v j)) v j) ζ' ∧ _)
      have bd : 0 ≤ sgv v j ∧ sgv v j ≤ 255 := bd
      have hW' := wall_lay1 hW (sgv v j)
      have no : ¬ (kno (sgv v j) ∧ A 0 2 < 1000) → Ok (g_X12_lay_3 v n (((8 * j : Nat) : Int) + (-8)) ζ) (fun ζ' => Rf (layN (lay1 A (sgv v j)) v j) ζ' ∧ Fx (fun x _ => x < 25 ∧ x ≠ 5) ζ ζ') := fun g => by
        have e : lay1 A (sgv v j) = A := by unfold lay1; rw [if_neg g]
        rw [e]
        exact ih j _ A ζ (by omega) (by omega) (by omega) hr hW
      have yes : kno (sgv v j) → Ok (gI 1000 (A 0 2) (1000 ≤ A 0 2) (g_X12_lay_3 v n (((8 * j : Nat) : Int) + (-8)) ζ) (gk (A 0 2) 1000 (g_X12_lay_3 v n (((8 * j : Nat) : Int) + (-8)) (zI (zI ζ 1 (Int.toNat (A 0 2)) (sgv v j)) 0 2 (((zI ζ 1 (Int.toNat (A 0 2)) (sgv v j)).1 0 2) + 1))))) (fun ζ' => Rf (layN (lay1 A (sgv v j)) v j) ζ' ∧ Fx (fun x _ => x < 25 ∧ x ≠ 5) ζ ζ') := fun g => by
        refine ok_gI (by omega) (by omega) (by omega) (by omega) (fun g2 => no (by omega)) (fun g2 => ok_gk (by omega) (by omega) ?_)
        have e : lay1 A (sgv v j) = up (up A 1 (A 0 2).toNat (sgv v j)) 0 2 (A 0 2 + 1) := by unfold lay1; rw [if_pos ⟨g, by omega⟩]
        have e3 : (zI ζ 1 (Int.toNat (A 0 2)) (sgv v j)).1 0 2 = A 0 2 := by rw [zI_1, if_neg (by omega)]; exact e2
        rw [e3]
        refine ok_mono (ih j _ (lay1 A (sgv v j)) _ (by omega) (by omega) (by omega) (by rw [e]; exact rf_up (rf_up hr 1 _ _ (by omega)) 0 2 _ (by omega)) hW') (fun ζ' q => ⟨q.1, fx_trans (fx_I (fx_I (fx_refl _ _) (show 1 < 25 ∧ 1 ≠ 5 by decide)) (show 0 < 25 ∧ 0 ≠ 5 by decide)) q.2⟩)
      refine ok_gI (by omega) (by omega) (by omega) (by omega) (fun q => by omega) (fun _ => ok_gI (by omega) (by omega) (by omega) (by omega) (fun q => yes (Or.inl q)) (fun g1 => ok_gI (by omega) (by omega) (by omega) (by omega) (fun q => no (fun c => ?_)) (fun g2 => ok_gI (by omega) (by omega) (by omega) (by omega) (fun q => no (fun c => ?_)) (fun g3 => yes (Or.inr (by omega))))))
      · have := c.1; unfold kno at this; omega
      · have := c.1; unfold kno at this; omega
def fedA (A : Nat → Nat → Int) (a b c : Int) : Nat → Nat → Int := layN (layN (layN A a 8) b 8) c 8
theorem wall_fed {A : Nat → Nat → Int} (h : Wall A) (a b c : Int) : Wall (fedA A a b c) := wall_layN 8 (wall_layN 8 (wall_layN 8 h))
theorem a_feed {A : Nat → Nat → Int} {ζ : ZS} (h : Rf A ζ) (hW : Wall A) (a b c : Int) : Ok (g_X12_feed a b c ζ) (RP (fedA A a b c) ζ (fun v => v = fedA A a b c 0 2)) := by
  have f0 : Fx (fun x _ => x < 25 ∧ x ≠ 5) ζ (zI ζ 0 0 0) := fx_I (fx_refl _ _) (by decide)
  unfold g_X12_feed g_X12_lay
  refine ok_bind (s_layd a FU 8 56 A _ rfl (by omega) (by rw [FU_e]; omega) (rf_0 h 0) hW) (fun q1 h1 => ?_)
  refine ok_bind (s_layd b FU 8 56 _ _ rfl (by omega) (by rw [FU_e]; omega) h1.1 (wall_layN 8 hW)) (fun q2 h2 => ?_)
  refine ok_bind (s_layd c FU 8 56 _ _ rfl (by omega) (by rw [FU_e]; omega) h2.1 (wall_layN 8 (wall_layN 8 hW))) (fun q3 h3 => ?_)
  exact ok_some ⟨h3.1 0 2 (by unfold psl; omega), h3.1, fx_trans f0 (fx_trans h1.2 (fx_trans h2.2 h3.2))⟩
theorem cls_lay1 {A : Nat → Nat → Int} {ζ : ZS} {c : Int} (h : Cls A ζ) (hW : Wall A) (g : kno c ∧ A 0 2 < 1000) : Cls (lay1 A c) (zI (zI ζ 28 (A 0 2).toNat c) 27 1 (A 0 2 + 1)) := by
  have hf : ∀ x y, ¬ (x = 27 ∧ y = 1) → x ≠ 28 → (zI (zI ζ 28 (A 0 2).toNat c) 27 1 (A 0 2 + 1)).1 x y = ζ.1 x y := fun x y g1 g2 => by rw [zI_1, if_neg g1, zI_1, if_neg (by omega)]
  have h2 : (zI (zI ζ 28 (A 0 2).toNat c) 27 1 (A 0 2 + 1)).2 = ζ.2 := rfl
  have k1 : (zI (zI ζ 28 (A 0 2).toNat c) 27 1 (A 0 2 + 1)).1 27 1 = A 0 2 + 1 := by rw [zI_1, if_pos ⟨rfl, rfl⟩]
  have k2 : ∀ i, (zI (zI ζ 28 (A 0 2).toNat c) 27 1 (A 0 2 + 1)).1 28 i = if i = (A 0 2).toNat then c else ζ.1 28 i := fun i => by
    rw [zI_1, if_neg (by omega), zI_1]
    by_cases e : i = (A 0 2).toNat
    · rw [if_pos ⟨rfl, e⟩, if_pos e]
    · rw [if_neg (by omega), if_neg e]
  generalize zI (zI ζ 28 (A 0 2).toNat c) 27 1 (A 0 2 + 1) = ζ' at hf h2 k1 k2 ⊢
  have sl := lay_sl A c
  have hBA := lay_ot A c
  have eL : lay1 A c = up (up A 1 (A 0 2).toNat c) 0 2 (A 0 2 + 1) := by unfold lay1; rw [if_pos g]
  have l2 : lay1 A c 0 2 = A 0 2 + 1 := by rw [eL, up_e, if_pos ⟨rfl, rfl⟩]
  refine cls_sl hW.2.1 sl h ?_ (fun x y g => ⟨hf x y (by unfold Wfo at g; omega) (by unfold Wfo at g; omega), by rw [h2]⟩) (hf 26 18 (by omega) (by omega))
  obtain ⟨⟨c1, d, hc, hd, hcd, r1, r2, hch⟩, hth, a1, a2, a3, a4, a5, a6, a7⟩ := h.1
  have q2 := hW.2.2.2.2.2.2.1
  have hc' := hc
  unfold cell2 at hc'
  refine ⟨⟨c1, d, hc, hd, hcd, by rw [h2]; exact r1, by rw [h2]; exact r2, ch_same (ch_fx hch (fun x y g1 g2 => hf x y (by omega) (by omega))) (fun x y g1 g2 => hBA x y (by omega) (by omega))⟩, ⟨?_, fun t m g1 g2 => ?_⟩, ?_, ?_, ?_, fun p hp => ?_, by rw [k1, l2], fun i hi => ?_, fun m g => by rw [hf _ _ (by omega) (by omega)]; exact a7 m g⟩
  · rw [hf _ _ (by omega) (by omega), hth.1]
    congr 1
    exact msk_congr (fun i hi => (sl_told sl hi).symm)
  · rw [hf _ _ (by omega) (by omega), hBA _ _ (by omega) (by omega)]; exact hth.2 t m g1 g2
  · rw [hf _ _ (by omega) (by omega), hBA _ _ (by omega) (by omega)]; exact a1
  · rw [hf _ _ (by omega) (by omega), hBA _ _ (by omega) (by omega)]; exact a2
  · rw [hf _ _ (by omega) (by omega), hBA _ _ (by omega) (by omega)]; exact a3
  · rw [hBA 0 24 (by omega) (by omega)] at hp
    rw [hf _ _ (by omega) (by omega), hBA _ _ (by omega) (by omega)]; exact a4 p hp
  · rw [l2] at hi
    rw [eL, up_e, if_neg (show ¬ (1 = 0 ∧ i = 2) by omega), up_e]
    by_cases ci : i = (A 0 2).toNat
    · rw [k2, if_pos ci, if_pos ⟨rfl, ci⟩]
    · rw [k2, if_neg ci, if_neg (by omega)]; exact a6 i (by omega)
theorem s_put (v : Int) : ∀ (n j : Nat) (w : Int) (A : Nat → Nat → Int) (ζ : ZS), w = 8 * (j : Int) - 8 → j ≤ 8 → j < n → Cls A ζ → Wall A → Ok (g_X8_put_3 v n w ζ) (fun ζ' => Cls (layN A v j) ζ' ∧ Fx (fun x _ => 26 ≤ x) ζ ζ') := by
  intro n
  induction n with
  | zero => intro _ _ _ _ _ _ h; omega
  | succ n ih =>
    intro j w A ζ hw hj hn hr hW
    subst hw
    unfold g_X8_put_3 g_X8_put_38 g_X8_put_42 g_X8_put_43 g_X8_put_82
    cases j with
    | zero => exact ok_gI (by omega) (by omega) (by omega) (by omega) (fun _ => ok_some ⟨hr, fx_refl _ _⟩) (fun q => absurd (show 8 * ((0 : Nat) : Int) - 8 < 0 by omega) q)
    | succ j =>
      have ew : 8 * ((j + 1 : Nat) : Int) - 8 = ((8 * j : Nat) : Int) := by omega
      rw [ew, ← sg_eq v (show j < 8 by omega)]
      have q2 := hW.2.2.2.2.2.2.1
      have e2 : ζ.1 27 1 = A 0 2 := hr.1.2.2.2.2.2.2.1
      rw [e2]
      have bd := sg_bd (zlsr v ((8 * j : Nat) : Int))
      show Ok (gI _ _ _ _ (gI (sgv v j) _ (sgv v j = 10) _ (gI (sgv v j) _ (sgv v j < 32) _ (gI _ (sgv v j) (126 < sgv v j) _ _)))) (fun ζ' => Cls (layN (lay1 A (sgv v j)) v j) ζ' ∧ _)
      have bd : 0 ≤ sgv v j ∧ sgv v j ≤ 255 := bd
      have hW' := wall_lay1 hW (sgv v j)
      have no' : ¬ (kno (sgv v j) ∧ A 0 2 < 1000) → Ok (g_X8_put_3 v n (((8 * j : Nat) : Int) + (-8)) ζ) (fun ζ' => Cls (layN (lay1 A (sgv v j)) v j) ζ' ∧ Fx (fun x _ => 26 ≤ x) ζ ζ') := fun g => by
        have e : lay1 A (sgv v j) = A := by unfold lay1; rw [if_neg g]
        rw [e]
        exact ih j _ A ζ (by omega) (by omega) (by omega) hr hW
      refine ok_gI (by omega) (by omega) (by omega) (by omega) (fun q => by omega) (fun _ => ?_)
      have no : ∀ Y : Option ZS, ¬ kno (sgv v j) → Ok (gI 0 0 (((0 : Int)) = 0) (g_X8_put_3 v n (((8 * j : Nat) : Int) + (-8)) ζ) Y) (fun ζ' => Cls (layN (lay1 A (sgv v j)) v j) ζ' ∧ Fx (fun x _ => 26 ≤ x) ζ ζ') := fun Y g => ok_gI (by omega) (by omega) (by omega) (by omega) (fun _ => no' (fun c => g c.1)) (fun q => absurd rfl q)
      have yes : kno (sgv v j) → ∀ X : Option ZS, Ok (gI 1 0 (((1 : Int)) = 0) X (gI 1000 (A 0 2) (1000 ≤ A 0 2) (g_X8_put_3 v n (((8 * j : Nat) : Int) + (-8)) ζ) (gk (A 0 2) 1000 (g_X8_put_3 v n (((8 * j : Nat) : Int) + (-8)) (zI (zI ζ 28 (Int.toNat (A 0 2)) (zbyt (zi2b (sgv v j)))) 27 1 (((zI ζ 28 (Int.toNat (A 0 2)) (zbyt (zi2b (sgv v j)))).1 27 1) + 1)))))) (fun ζ' => Cls (layN (lay1 A (sgv v j)) v j) ζ' ∧ Fx (fun x _ => 26 ≤ x) ζ ζ') := fun g X => by
        refine ok_gI (by omega) (by omega) (by omega) (by omega) (fun q => by omega) (fun _ => ?_)
        refine ok_gI (by omega) (by omega) (by omega) (by omega) (fun g2 => no' (by omega)) (fun g2 => ok_gk (by omega) (by omega) ?_)
        have bk : 0 ≤ sgv v j ∧ sgv v j ≤ 126 := by unfold kno at g; omega
        rw [sg_by bk.1 bk.2]
        have e3 : (zI ζ 28 (Int.toNat (A 0 2)) (sgv v j)).1 27 1 = A 0 2 := by rw [zI_1, if_neg (by omega)]; exact e2
        rw [e3]
        refine ok_mono (ih j _ (lay1 A (sgv v j)) _ (by omega) (by omega) (by omega) (cls_lay1 hr hW ⟨g, by omega⟩) hW') (fun ζ' q => ⟨q.1, fx_trans (fx_I (fx_I (fx_refl _ _) (show 26 ≤ 28 by decide)) (show 26 ≤ 27 by decide)) q.2⟩)
      refine ok_gI (by omega) (by omega) (by omega) (by omega) (fun q => yes (Or.inl q) _) (fun g1 => ok_gI (by omega) (by omega) (by omega) (by omega) (fun q => no _ (fun c => ?_)) (fun g2 => ok_gI (by omega) (by omega) (by omega) (by omega) (fun q => no _ (fun c => ?_)) (fun g3 => yes (Or.inr (by omega)) _)))
      · unfold kno at c; omega
      · unfold kno at c; omega
theorem b_feed {A : Nat → Nat → Int} {ζ : ZS} (h : Cls A ζ) (hW : Wall A) (a b c : Int) : Ok (g_X11_feed a b c ζ) (CP (fedA A a b c) ζ (fun v => v = fedA A a b c 0 2)) := by
  unfold g_X11_feed g_X8_put
  refine ok_bind (s_put a FU 8 56 A _ rfl (by omega) (by rw [FU_e]; omega) h hW) (fun q1 h1 => ?_)
  refine ok_bind (s_put b FU 8 56 _ _ rfl (by omega) (by rw [FU_e]; omega) h1.1 (wall_layN 8 hW)) (fun q2 h2 => ?_)
  refine ok_bind (s_put c FU 8 56 _ _ rfl (by omega) (by rw [FU_e]; omega) h2.1 (wall_layN 8 (wall_layN 8 hW))) (fun q3 h3 => ?_)
  exact ok_some ⟨h3.1.1.2.2.2.2.2.2.1, h3.1, fx_trans h1.2 (fx_trans h2.2 h3.2)⟩
theorem wall_voice {A : Nat → Nat → Int} (h : Wall A) (z : Int) : Wall (voiceA A z) := by
  unfold voiceA
  split
  case isFalse => exact h
  case isTrue g =>
    obtain ⟨h1, h2, h3, h4, h5, h6, h7⟩ := h
    have ot : ∀ x y, ¬ (x = 0 ∧ y = 23) → up A 0 23 z x y = A x y := fun x y c => by rw [up_e, if_neg c]
    refine ⟨?_, ?_, ?_, ?_, ?_, ?_, ?_⟩
    · unfold Wa
      simp only [ot 0 20 (by omega), show ∀ y, up A 0 23 z 16 y = A 16 y from fun y => ot 16 y (by omega), show ∀ y, up A 0 23 z 17 y = A 17 y from fun y => ot 17 y (by omega), show ∀ y, up A 0 23 z 6 y = A 6 y from fun y => ot 6 y (by omega), show ∀ y, up A 0 23 z 7 y = A 7 y from fun y => ot 7 y (by omega), show ∀ y, up A 0 23 z 8 y = A 8 y from fun y => ot 8 y (by omega)]
      exact h1
    · unfold Ws
      simp only [ot 0 20 (by omega), ot 9 0 (by omega), show ∀ y, up A 0 23 z 10 y = A 10 y from fun y => ot 10 y (by omega), show ∀ y, up A 0 23 z 11 y = A 11 y from fun y => ot 11 y (by omega), show ∀ y, up A 0 23 z 12 y = A 12 y from fun y => ot 12 y (by omega), show ∀ y, up A 0 23 z 13 y = A 13 y from fun y => ot 13 y (by omega), show ∀ y, up A 0 23 z 14 y = A 14 y from fun y => ot 14 y (by omega), show ∀ y, up A 0 23 z 15 y = A 15 y from fun y => ot 15 y (by omega)]
      exact h2
    · unfold Wv; rw [up_e, if_pos ⟨rfl, rfl⟩]; exact g
    · unfold Wx; rw [ot 0 32 (by omega), ot 0 33 (by omega), ot 0 34 (by omega)]; exact h4
    · rw [ot 0 32 (by omega)]; exact h5
    · unfold Wo
      rw [ot 0 24 (by omega)]
      exact ⟨h6.1, fun p hp => by rw [ot 18 p (by omega)]; exact h6.2.1 p hp, fun p q hp hq => by rw [ot 18 p (by omega), ot 18 q (by omega)]; exact h6.2.2 p q hp hq⟩
    · unfold Wtp; rw [ot 0 2 (by omega)]; exact ⟨h7.1, fun i hi => by rw [ot 1 i (by omega)]; exact h7.2 i hi⟩
