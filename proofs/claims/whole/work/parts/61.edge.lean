/-! how low a value may be -/
theorem i64n {x : Int64} {n : Nat} (h : x.toBitVec.toNat = n) (hn : n < 9223372036854775808) : x.toInt = (n : Int) := by
  show x.toBitVec.toInt = _
  rw [BitVec.toInt_eq_toNat_of_lt (by rw [h]; omega), h]
theorem neg64 (x : Int64) : x.toInt < 0 ↔ x.toBitVec.msb = true := by
  show x.toBitVec.toInt < 0 ↔ _
  rw [BitVec.toInt_neg_iff, BitVec.msb_eq_decide]
  simp
  omega
theorem zlxor_nn {a b : Int} (ha : i64 a) (hb : i64 b) : 0 ≤ zlxor a b ↔ (0 ≤ a ↔ 0 ≤ b) := by
  have e : zlxor a b < 0 ↔ ((mL a).toBitVec.msb ^^ (mL b).toBitVec.msb) = true := by
    unfold zlxor
    rw [neg64]
    show ((mL a).toBitVec ^^^ (mL b).toBitVec).msb = true ↔ _
    rw [BitVec.msb_xor]
  have e1 := neg64 (mL a)
  have e2 := neg64 (mL b)
  rw [mL_t ha] at e1
  rw [mL_t hb] at e2
  cases h1 : (mL a).toBitVec.msb <;> cases h2 : (mL b).toBitVec.msb <;> rw [h1, h2] at e <;> rw [h1] at e1 <;> rw [h2] at e2 <;> simp at e e1 e2 <;> omega
theorem s_floorDiv (ζ : ZS) {a b : Int} (ha : -4611686018427387904 ≤ a ∧ a ≤ 4611686018427387904) (hb : 0 < b ∧ b ≤ 4611686018427387904) : g_J9_floorDiv_f86c9 a b ζ = some (a / b, ζ) := by
  apply ok_eq
  unfold g_J9_floorDiv_f86c9 g_J9_floorDiv_f86c9_27
  have x := zlxor_nn (a := a) (b := b) ⟨by omega, by omega⟩ ⟨by omega, by omega⟩
  have xr : -9223372036854775808 ≤ zlxor a b ∧ zlxor a b < 9223372036854775808 := ⟨Int64.le_toInt _, Int64.toInt_lt _⟩
  have td := tdiv_le (a := a) hb.1 (-4611686018427387904) 4611686018427387904 ha.1 ha.2 (by omega) (by omega)
  refine ok_gdJ (by omega) (by omega) (by omega) (by omega) (ok_gJ (by omega) (by omega) xr.1 xr.2 (fun g => ok_some ?_) (fun g => ?_))
  · have a0 : 0 ≤ a := by have := x.mp g; omega
    rw [Int.tdiv_eq_ediv_of_nonneg a0]
  · have an : a < 0 := by
      apply Classical.byContradiction
      intro q
      exact g (x.mpr ⟨fun _ => by omega, fun _ => by omega⟩)
    have e : a.tdiv b = -((-a) / b) := by
      rw [← Int.tdiv_eq_ediv_of_nonneg (by omega : 0 ≤ -a), Int.neg_tdiv, Int.neg_neg]
    have m1 := Int.mul_ediv_add_emod (-a) b
    have m2 := Int.emod_nonneg (-a) (show b ≠ 0 by omega)
    have m3 := Int.emod_lt_of_pos (-a) hb.1
    have q0 : 0 ≤ (-a) / b := Int.ediv_nonneg (by omega) (by omega)
    have em : a.tdiv b * b = -(b * ((-a) / b)) := by rw [e, Int.neg_mul, Int.mul_comm]
    have bm : b * ((-a) / b) ≤ -a := by omega
    have bm0 : 0 ≤ b * ((-a) / b) := Int.mul_nonneg (by omega) q0
    generalize hq : (-a) / b = q at *
    refine ok_gJ (by omega) (by omega) (by omega) (by omega) (fun h => ok_some ?_) (fun h => ok_some ?_)
    · -- no rest
      have ea : a = -q * b := by rw [e] at h; omega
      congr 1
      rw [e]
      rw [ea, Int.mul_ediv_cancel _ (by omega)]
    · congr 1
      rw [e]
      -- a = -(b q) - r with 0 < r < b
      have r1 : 0 < -a - b * q := by
        have : ¬ -a - b * q = 0 := fun z => h (by omega)
        omega
      have r2 : -a - b * q < b := by omega
      apply Eq.symm
      have : a = (-q - 1) * b + (b - (-a - b * q)) := by
        have : (-q - 1) * b = -(b * q) - b := by grind
        omega
      rw [this, Int.add_comm, Int.add_mul_ediv_right _ _ (by omega), Int.ediv_eq_zero_of_lt (by omega) (by omega)]
      omega
theorem s_maxJ (ζ : ZS) {a b : Int} (ha : -4611686018427387904 ≤ a ∧ a ≤ 4611686018427387904) (hb : -4611686018427387904 ≤ b ∧ b ≤ 4611686018427387904) : g_J9_max_f86c9 a b ζ = some (if a < b then b else a, ζ) := by
  apply ok_eq
  unfold g_J9_max_f86c9 g_J9_max_f86c9_11
  exact ok_gJ (by omega) (by omega) (by omega) (by omega) (fun h => ok_some (by rw [if_pos h])) (fun h => ok_some (by rw [if_neg h]))
/-- growth and lead -/
theorem dt_gro (A : Nat → Nat → Int) {t m u : Nat} (g : Int) (hm : m < 4) (w : V4) : dt (gro A t m g u) w = dt (leadv A t u) w + g * w m := by
  unfold gro
  rcases (show m = 0 ∨ m = 1 ∨ m = 2 ∨ m = 3 by omega) with rfl | rfl | rfl | rfl <;> simp [dt] <;> grind
/-- as many as the growth must be -/
theorem ceil_iff {l w g : Int} (hw : 0 < w) : 0 ≤ l + g * w ↔ -(l / w) ≤ g := by
  have m1 := Int.mul_ediv_add_emod l w
  have m2 := Int.emod_nonneg l (show w ≠ 0 by omega)
  have m3 := Int.emod_lt_of_pos l hw
  generalize l / w = q at *
  generalize l % w = r at *
  constructor
  · intro h
    apply Classical.byContradiction
    intro c
    have k : w * (q + g + 1) ≤ 0 := by
      have := Int.mul_nonneg (Int.le_of_lt hw) (show 0 ≤ -(q + g + 1) by omega)
      rw [Int.mul_neg] at this
      omega
    have e : w * (q + g + 1) = w * q + g * w + w := by grind
    omega
  · intro h
    have k := Int.mul_nonneg (Int.le_of_lt hw) (show 0 ≤ q + g by omega)
    have e : w * (q + g) = w * q + g * w := by grind
    omega
/-- the least value, 0 or more, at which a is still better by all -/
def Eg (A : Nat → Nat → Int) (X : V4 → Prop) (a b m : Nat) (v : Int) : Prop := 0 ≤ v ∧ Al X (gro A a m (v - val A a m) b) ∧ ∀ v', 0 ≤ v' → v' < v → ¬ Al X (gro A a m (v' - val A a m) b)
theorem eg_fun {A : Nat → Nat → Int} {X : V4 → Prop} {a b m : Nat} {v w : Int} (h : Eg A X a b m v) (g : Eg A X a b m w) : v = w := by
  rcases Int.lt_trichotomy v w with q | q | q
  · exact absurd h.2.1 (g.2.2 v h.1 q)
  · exact q
  · exact absurd g.2.1 (h.2.2 w g.1 q)
def QE (A : Nat → Nat → Int) (z y x v : Int) : Prop := (((0 ≤ x ∧ x < A 0 20) ∧ two A z y = true ∧ NV (Sc A (hrd A)) ∧ Al (Sc A (hrd A)) (leadv A z.toNat y.toNat)) ∧ Eg A (Sc A (hrd A)) z.toNat y.toNat x.toNat v) ∨ (¬ ((0 ≤ x ∧ x < A 0 20) ∧ two A z y = true ∧ NV (Sc A (hrd A)) ∧ Al (Sc A (hrd A)) (leadv A z.toNat y.toNat)) ∧ v = -1)
theorem qe_fun {A : Nat → Nat → Int} {z y x v w : Int} (h : QE A z y x v) (g : QE A z y x w) : v = w := by
  rcases h with ⟨a, b⟩ | ⟨a, b⟩ <;> rcases g with ⟨a', b'⟩ | ⟨a', b'⟩
  · exact eg_fun b b'
  · exact absurd a a'
  · exact absurd a' a
  · omega
/-! raised -/
def rai (A : Nat → Nat → Int) (t m v : Int) : Nat → Nat → Int := up (up (up A 0 32 t) 0 33 m) 0 34 v
theorem rai_e (A : Nat → Nat → Int) (t m v : Int) (x y : Nat) (h : ¬ (x = 0 ∧ (y = 32 ∨ y = 33 ∨ y = 34))) : rai A t m v x y = A x y := by
  unfold rai
  rw [up_e, if_neg (by omega), up_e, if_neg (by omega), up_e, if_neg (by omega)]
theorem rai_32 (A : Nat → Nat → Int) (t m v : Int) : rai A t m v 0 32 = t ∧ rai A t m v 0 33 = m ∧ rai A t m v 0 34 = v := by
  unfold rai
  refine ⟨?_, ?_, ?_⟩ <;> simp [up_e]
theorem rai_val (A : Nat → Nat → Int) (t m v : Int) (u i : Nat) : val (rai A t m v) u i = val A u i := by
  unfold val unc
  simp only [rai_e A t m v 0 20 (by omega), rai_e A t m v 7 i (by omega), rai_e A t m v 6 i (by omega), rai_e A t m v 17 (4 * u + i) (by omega)]
theorem rai_wa {A : Nat → Nat → Int} (h : Wa A) (t m v : Int) : Wa (rai A t m v) := by
  unfold Wa
  simp only [rai_e A t m v 0 20 (by omega)]
  refine ⟨h.1, fun t' ht => by rw [rai_e A t m v 16 t' (by omega)]; exact h.2.1 t' ht, fun t' m' h1 h2 => by rw [rai_e A t m v 17 _ (by omega)]; exact h.2.2.1 t' m' h1 h2, fun m' h1 => by rw [rai_e A t m v 6 _ (by omega), rai_e A t m v 7 _ (by omega), rai_e A t m v 8 _ (by omega)]; exact h.2.2.2 m' h1⟩
theorem rai_abv {A : Nat → Nat → Int} {t u m : Nat} {v : Int} (hk : (m : Int) < A 0 20) (hu : u ≠ t) : abv (rai A t m v) t u = gro A t m (v - val A t m) u := by
  funext i
  unfold abv gro leadv seen
  simp only [rai_e A t m v 0 20 (by omega), (rai_32 A t m v).1, (rai_32 A t m v).2.1, (rai_32 A t m v).2.2, rai_val]
  by_cases e : i = m
  · subst e
    rw [if_neg (by omega), if_pos (by simp), if_neg (by omega), if_pos rfl]
    omega
  · by_cases c : A 0 20 ≤ (i : Int)
    · rw [if_pos c, if_neg e, val_0 c, val_0 c]; omega
    · rw [if_neg c, if_neg (by omega), if_neg (by omega), if_neg e]; omega
theorem rai_inb {A : Nat → Nat → Int} (t m v : Int) (u : Nat) : inb (rai A t m v) u = inb A u := by
  have ek : ∀ i, okm (rai A t m v) u i = okm A u i := fun i => by
    unfold okm unc
    simp only [rai_e A t m v 0 20 (by omega), rai_e A t m v 8 i (by omega), rai_e A t m v 6 i (by omega), rai_e A t m v 17 (4 * u + i) (by omega)]
  unfold inb told
  rw [rai_e A t m v 16 u (by omega), ek, ek, ek, ek]
theorem rai_lb {A : Nat → Nat → Int} {ζ : ZS} {lv q : Nat} {X : V4 → Prop} (h : Lb A ζ lv X q) (t m v : Int) : Lb (rai A t m v) ζ lv X q := by
  obtain ⟨k, R, n, ρ, hk, h⟩ := h
  exact ⟨k, R, n, ρ, by rw [rai_e A t m v 0 20 (by omega)]; exact hk, h⟩
/-- all that stays but what is raised -/
def Rg (A : Nat → Nat → Int) (ζ : ZS) : Prop := ∀ c k, psl A c k → ¬ (c = 0 ∧ k = 32) → ζ.1 c k = A c k
theorem rg_of {A : Nat → Nat → Int} {ζ : ZS} (h : Rf A ζ) : Rg A ζ := fun c k hp _ => h c k hp
theorem rg_rai {A : Nat → Nat → Int} {ζ : ZS} (h32 : A 0 32 = -1) (h : Rg A ζ) (t m v : Int) : Rf (rai A t m v) (zI (zI (zI ζ 0 32 t) 0 33 m) 0 34 v) := fun x y hp => by
  by_cases c : x = 0 ∧ (y = 32 ∨ y = 33 ∨ y = 34)
  · obtain ⟨c0, c1 | c1 | c1⟩ := c <;> subst c0 <;> subst c1
    · rw [(rai_32 A t m v).1]; simp [zI_1]
    · rw [(rai_32 A t m v).2.1]; simp [zI_1]
    · rw [(rai_32 A t m v).2.2]; simp [zI_1]
  · rw [rai_e A t m v x y c, zI_1, if_neg (by omega), zI_1, if_neg (by omega), zI_1, if_neg (by omega)]
    refine h x y ?_ (by omega)
    unfold psl at hp ⊢
    omega
theorem rg_z {A : Nat → Nat → Int} {ζ : ZS} (h32 : A 0 32 = -1) (h : Rg A ζ) (t m v : Int) : Rg A (zI (zI (zI ζ 0 32 t) 0 33 m) 0 34 v) := fun x y hp hn => by
  have : ¬ (x = 0 ∧ (y = 33 ∨ y = 34)) := by unfold psl at hp; omega
  rw [zI_1, if_neg (by omega), zI_1, if_neg (by omega), zI_1, if_neg (by omega)]
  exact h x y hp hn
theorem rg_back {A : Nat → Nat → Int} {ζ : ZS} (h32 : A 0 32 = -1) (h : Rg A ζ) : Rf A (zI ζ 0 32 (-1)) := fun x y hp => by
  rw [zI_1]
  by_cases c : x = 0 ∧ y = 32
  · rw [if_pos c, c.1, c.2, h32]
  · rw [if_neg c]; exact h x y hp c
theorem rai_wx {A : Nat → Nat → Int} {t m v : Int} (ht : 0 ≤ t ∧ t ≤ 7) (hm : 0 ≤ m ∧ m ≤ 3) (hv : 0 ≤ v ∧ v ≤ 100) : Wx (rai A t m v) := by
  unfold Wx
  rw [(rai_32 A t m v).1, (rai_32 A t m v).2.1, (rai_32 A t m v).2.2]
  exact ⟨by omega, fun _ => ⟨hm, hv⟩⟩
theorem lb_z0 {A : Nat → Nat → Int} {ζ : ZS} {lv q y : Nat} {X : V4 → Prop} {v : Int} (h : Lb A ζ lv X q) : Lb A (zI ζ 0 y v) lv X q := by
  obtain ⟨k, R, n, ρ, a1, a2, a3, a4, a5, a6⟩ := h
  exact ⟨k, R, n, ρ, a1, a2, a3, a4, a5, by rw [zI_1, if_neg (by omega)]; exact a6.1, by rw [zI_1, if_neg (by omega)]; exact a6.2.1, a6.2.2⟩
theorem a_edge {A : Nat → Nat → Int} {ζ : ZS} (h : Rf A ζ) (hW : Wall A) {z y x : Int} (hz : r32 z) (hy : r32 y) (hx : r32 x) : Ok (g_X12_edge z y x ζ) (RP A ζ (QE A z y x)) := by
  have hW' := hW
  obtain ⟨hw, hs, hv, hwx, h32, _⟩ := hW
  have qk := hw.1
  have f0 : Fx (fun x _ => x < 25 ∧ x ≠ 5) ζ (zI ζ 0 0 0) := fx_I (fx_refl _ _) (by decide)
  unfold g_X12_edge g_X12_edge_45
  refine ok_beq (s_areTwo (rf_0 h 0) hw hz hy) (ok_bi (fun e => ok_some (rp_same h (Or.inr ⟨fun q => (by rw [e] at q; cases q.2.1), rfl⟩))) (fun e => ?_))
  have ek : (zI ζ 0 0 0).1 0 20 = A 0 20 := rf_k (rf_0 h 0)
  rw [ek]
  refine ok_beq (s_within _ hx (by omega) (by omega)) (ok_bi (fun g => ok_some (rp_same h (Or.inr ⟨fun q => ?_, rfl⟩))) (fun g => ?_))
  · rw [decide_eq_true q.1.1, decide_eq_true (show x ≤ A 0 20 - 1 by omega)] at g; cases g
  simp only [Bool.and_eq_true, decide_eq_true_eq] at g
  refine ok_bind (s_findNow (rf_0 h 0) hW') (fun r ⟨lw, hr, hf, r01, r1⟩ => ?_)
  have f1 := fx_trans f0 (wq_25 hf)
  refine ok_gI (by omega) (by omega) (by omega) (by omega) (fun g => ok_some ⟨Or.inr ⟨fun q => (by have := r1.mpr q.2.2.1; omega), rfl⟩, hr, f1⟩) (fun g0 => ?_)
  have hcan := r1.mp (by omega)
  generalize r.2 = ζ0 at lw hr hf f1
  have e2 := e
  unfold two at e2
  simp only [Bool.and_eq_true, Bool.not_eq_true', decide_eq_false_iff_not] at e2
  have iz := inz_r e2.1.1
  have iy := inz_r e2.1.2
  have hne : z.toNat ≠ y.toNat := by have := e2.2; omega
  refine ok_bind (s_isBetter hr hw hwx (a := z.toNat) (b := y.toNat) (lv := 0) (by omega) (by omega) rfl (by omega) (by omega) (by omega) lw.1 (by omega)) (fun q ⟨q1, p, q2, q3⟩ => ?_)
  rw [q1, q2]
  rw [abv_lead h32] at q3
  refine ok_bi (fun e3 => ok_some ⟨Or.inr ⟨fun q => (by have := q3.mpr q.2.2.2; rw [e3] at this; cases this), rfl⟩, hr, f1⟩) (fun e3 => ?_)
  have hal := q3.mp e3
  have vb := val_bd hw (t := z.toNat) (m := x.toNat) (by omega) (by omega)
  -- at its own value it holds
  have own : Al (Sc A (hrd A)) (gro A z.toNat x.toNat (val A z.toNat x.toNat - val A z.toNat x.toNat) y.toNat) := fun w hw' => by
    rw [dt_gro A _ (by omega)]
    have := hal w hw'
    rw [Int.sub_self, Int.zero_mul]; omega
  have yes : ∀ v, Eg A (Sc A (hrd A)) z.toNat y.toNat x.toNat v → QE A z y x v := fun v hv => Or.inl ⟨⟨by omega, e, hcan, hal⟩, hv⟩
  -- the state while raised: all but what is raised as before
  have key : ∀ (n : Nat) (least w : Int) (ζ1 : ZS), 0 ≤ w → w ≤ 101 → 101 - w.toNat < n → Rg A ζ1 → Lb A ζ1 0 (Sc A (hrd A)) 12 → Fx (fun x _ => x < 25 ∧ x ≠ 5) ζ ζ1 → ((least = -1 ∧ ∀ v', 0 ≤ v' → v' < w → ¬ Al (Sc A (hrd A)) (gro A z.toNat x.toNat (v' - val A z.toNat x.toNat) y.toNat)) ∨ (0 ≤ least ∧ least ≤ 100 ∧ Eg A (Sc A (hrd A)) z.toNat y.toNat x.toNat least)) → Ok (g_X12_edge_53 z y x n least w ζ1) (RP A ζ (QE A z y x)) := by
    intro n
    induction n with
    | zero => intro _ _ _ _ _ h; omega
    | succ n ih =>
      intro least w ζ1 hw0 hw1 hn hrg hL1 hf1 hinv
      have hn' : ¬ (101 ≤ w) → 101 - (w + 1).toNat < n := by clear hinv ih; omega
      have lr : -1 ≤ least ∧ least ≤ 100 := by rcases hinv with ⟨a, _⟩ | ⟨a, b, _⟩ <;> omega
      unfold g_X12_edge_53 g_X12_edge_97 g_X12_edge_105
      have fin : 0 ≤ least → Ok (some (least, zI ζ1 0 32 (-1))) (RP A ζ (QE A z y x)) := by
        intro hl
        rcases hinv with ⟨a, _⟩ | ⟨_, _, hE⟩
        · omega
        · exact ok_some ⟨yes _ hE, rg_back h32 hrg, fx_I hf1 (show (0 : Nat) < 25 ∧ (0 : Nat) ≠ 5 by decide)⟩
      refine ok_gI (by omega) (by omega) (by omega) (by omega) (fun g1 => fin ?_) (fun g1 => ok_gI (by omega) (by omega) (by omega) (by omega) (fun g2 => fin g2) (fun g2 => ?_))
      · rcases hinv with ⟨_, b⟩ | ⟨a, _⟩
        · exact absurd own (b _ vb.1 (by omega))
        · exact a
      have hno : ∀ v', 0 ≤ v' → v' < w → ¬ Al (Sc A (hrd A)) (gro A z.toNat x.toNat (v' - val A z.toNat x.toNat) y.toNat) := by
        rcases hinv with ⟨_, b⟩ | ⟨a, _⟩
        · exact b
        · omega
      clear hinv
      have hL2 : Lb (rai A z x w) (zI (zI (zI ζ1 0 32 z) 0 33 x) 0 34 w) 0 (Sc A (hrd A)) 12 := rai_lb (lb_z0 (lb_z0 (lb_z0 hL1))) z x w
      have hf2 : Fx (fun x _ => x < 25 ∧ x ≠ 5) ζ (zI (zI (zI ζ1 0 32 z) 0 33 x) 0 34 w) := fx_I (fx_I (fx_I hf1 (show (0 : Nat) < 25 ∧ (0 : Nat) ≠ 5 by decide)) (show (0 : Nat) < 25 ∧ (0 : Nat) ≠ 5 by decide)) (show (0 : Nat) < 25 ∧ (0 : Nat) ≠ 5 by decide)
      refine ok_bind (s_isBetter (rg_rai h32 hrg z x w) (rai_wa hw z x w) (rai_wx (by omega) (by omega) (by omega)) (a := z.toNat) (b := y.toNat) (lv := 0) (by omega) (by omega) rfl (by omega) (by omega) (by omega) hL2 (by omega)) (fun q ⟨q1, p, q2, q3⟩ => ?_)
      have eab : abv (rai A z x w) z.toNat y.toNat = gro A z.toNat x.toNat (w - val A z.toNat x.toNat) y.toNat := by
        have := rai_abv (A := A) (t := z.toNat) (u := y.toNat) (m := x.toNat) (v := w) (by omega) (fun c => hne c.symm)
        rw [show ((z.toNat : Nat) : Int) = z by omega, show ((x.toNat : Nat) : Int) = x by omega] at this
        exact this
      rw [eab] at q3
      rw [q1, q2]
      refine ok_bi (fun e4 => ?_) (fun e4 => ?_)
      · refine ih _ _ _ (by omega) (by omega) (hn' (by omega)) (rg_z h32 hrg z x w) (lb_z0 (lb_z0 (lb_z0 hL1))) hf2 (Or.inl ⟨rfl, fun v' a b => ?_⟩)
        by_cases c : v' = w
        · rw [c]; exact fun g => by have := q3.mpr g; rw [e4] at this; cases this
        · exact hno v' a (by omega)
      · exact ih _ _ _ (by omega) (by omega) (hn' (by omega)) (rg_z h32 hrg z x w) (lb_z0 (lb_z0 (lb_z0 hL1))) hf2 (Or.inr ⟨hw0, by omega, hw0, q3.mp e4, hno⟩)
  exact key FU (-1) 0 ζ0 (by omega) (by omega) (by rw [FU_e]; omega) (rg_of hr) lw.1 f1 (Or.inl ⟨rfl, fun v' a b => by omega⟩)
/-! the class -/
theorem s_hasMeasure {A : Nat → Nat → Int} {ζ : ZS} (hk : ζ.1 26 16 = A 0 20) (hw : Wa A) {z : Int} (hz : r32 z) : g_X11_hasMeasure z ζ = some (bi (decide (0 ≤ z) && decide (z < A 0 20)), ζ) := by
  have qk := hw.1
  apply ok_eq
  unfold g_X11_hasMeasure g_X11_hasMeasure_16 g_X11_hasMeasure_17
  rw [hk]
  refine ok_gI hz.1 hz.2 (by omega) (by omega) (fun g => ok_gz (Or.inl rfl) (ok_some (by rw [decide_eq_false (by omega : ¬ 0 ≤ z)]; rfl))) (fun g => ok_gI (by omega) (by omega) hz.1 hz.2 (fun g2 => ok_gz (Or.inl rfl) (ok_some (by rw [decide_eq_false (by omega : ¬ z < A 0 20), Bool.and_false]; rfl))) (fun g2 => ok_gz (Or.inr rfl) (ok_some (by rw [decide_eq_true (by omega : 0 ≤ z), decide_eq_true (by omega : z < A 0 20)]; rfl))))
theorem b_edge {A : Nat → Nat → Int} {ζ : ZS} (h : Cls A ζ) (hW : Wall A) {z y x : Int} (hz : r32 z) (hy : r32 y) (hx : r32 x) : Ok (g_X11_edge z y x ζ) (CP A ζ (QE A z y x)) := by
  have qk := hW.1.1
  have hw := hW.1
  obtain ⟨k, hk⟩ : ∃ k : Nat, A 0 20 = k := ⟨(A 0 20).toNat, by omega⟩
  unfold g_X11_edge g_X11_edge_32
  refine ok_bind (s_fresh hW h) (fun ζ1 ⟨c1, f1⟩ => ok_beq (s_hasMeasure c1.1.2.2.1 hw hx) (ok_bi (fun e => ok_some ⟨Or.inr ⟨fun q => ?_, rfl⟩, cf_cls c1, f1⟩) (fun e => ?_)))
  · rw [decide_eq_true q.1.1, decide_eq_true q.1.2] at e; cases e
  simp only [Bool.and_eq_true, decide_eq_true_eq] at e
  have hfit := cf_fit c1 hk
  refine ok_bind (s_compare hw c1.2.1.1 hfit (by omega) (by omega) hz hy) (fun r ⟨r1, r2⟩ => ?_)
  have f2 : Fx Wsc ζ1 r.2 := fx_mono r2 (fun x y g => by unfold We at g; unfold Wsc; omega)
  have c2 := cf_sc hW.2.1 c1 f2
  have hfit2 := cf_fit c2 hk
  have f12 := fx_trans f1 (wsc_26 f2)
  have rr1 : -1 ≤ r.1 ∧ r.1 ≤ 2 := by
    rcases r1 with ⟨_, _, g⟩ | ⟨_, g⟩
    · rcases g with ⟨g, _⟩ | ⟨g, _⟩ | ⟨g, _⟩ <;> omega
    · omega
  refine ok_gI (by omega) (by omega) (by omega) (by omega) (fun g => ?_) (fun g => ok_some ⟨Or.inr ⟨fun q => ?_, rfl⟩, cf_cls c2, f12⟩)
  · obtain ⟨htwo, hcan, hbt⟩ : two A z y = true ∧ NV (Sc A (hrd A)) ∧ Bt (Sc A (hrd A)) (leadv A z.toNat y.toNat) r.1 := by
      rcases r1 with q | ⟨_, q⟩
      · exact q
      · omega
    have hal : Al (Sc A (hrd A)) (leadv A z.toNat y.toNat) := by
      rcases hbt with ⟨_, q⟩ | ⟨q, _⟩ | ⟨q, _⟩
      · exact q
      · omega
      · omega
    have e2 := htwo
    unfold two at e2
    simp only [Bool.and_eq_true] at e2
    have iz := inz_r e2.1.1
    have iy := inz_r e2.1.2
    have vb := val_bd hw (t := z.toNat) (m := x.toNat) (by omega) (by omega)
    have hbd := leadv_bd hw (a := z.toNat) (b := y.toNat) (by omega) (by omega)
    generalize r.2 = ζ2 at c2 hfit2 f12 f2
    unfold g_X4_leastStillBetter
    have core : Ok ((g_X9_fillLead z y 135 ζ2).bind fun q1 => g_X4_leastStillBetter_19 z x FU 0 0 q1) (fun r => Eg A (Sc A (hrd A)) z.toNat y.toNat x.toNat r.1 ∧ Fx (We 135) ζ2 r.2) := by
      refine ok_bind (s_fillLead (A := A) (a := z.toNat) (b := y.toNat) (e := 135) c2.2.1.1.1 (by omega) (by omega) (by omega) (by omega) (by omega) rfl) (fun ζ3 ⟨h3, f3⟩ => ?_)
      have hfit3 : Cs ζ3 68 k (Sc A (hrd A)) 12 := cs_fx hfit2 (fun x y g1 g2 => f3.1 x y (by unfold We; omega))
      obtain ⟨n, c3, k1, k4, hn, n42, hne, hpt, halc, _⟩ := cs_n hfit3 (by omega)
      have hl0 : ∀ j, j < n → 0 ≤ dt (leadv A z.toNat y.toNat) (cw ζ3 68 j) := fun j hj => hal _ (hpt j hj).1
      have hlb : ∀ j, j < n → dt (leadv A z.toNat y.toNat) (cw ζ3 68 j) ≤ 2400000000 := fun j hj => (dt_bd hbd (hpt j hj).2.2.1).2
      have v3 : ζ3.1 (40 + 1 + z.toNat) x.toNat = val A z.toNat x.toNat := by rw [(f3.1 _ _ (by unfold We; omega)).1]; exact c2.2.1.1.1 _ _ (by omega) (by omega)
      have key : ∀ (m : Nat) (E w : Int) (i : Nat), w = i → i ≤ n → n - i < m → 0 ≤ E → E ≤ 100 → (∀ v, 0 ≤ v → (E ≤ v ↔ ∀ j, j < i → 0 ≤ dt (gro A z.toNat x.toNat (v - val A z.toNat x.toNat) y.toNat) (cw ζ3 68 j))) → Ok (g_X4_leastStillBetter_19 z x m E w ζ3) (fun r => Eg A (Sc A (hrd A)) z.toNat y.toNat x.toNat r.1 ∧ Fx (We 135) ζ2 r.2) := by
        intro m
        induction m with
        | zero => intro _ _ _ _ _ h; omega
        | succ m ih =>
          intro E w i hwi hi hm hE0 hE1 hinv
          subst hwi
          unfold g_X4_leastStillBetter_19 g_X4_leastStillBetter_101
          rw [hn]
          refine ok_gI (by omega) (by omega) (by omega) (by omega) (fun g => ok_some ⟨?_, f3⟩) (fun g => ?_)
          · have ei : i = n := by omega
            subst ei
            refine ⟨hE0, (halc _).mp ((hinv E hE0).mp (Int.le_refl E)), fun v' a b c => ?_⟩
            have := (hinv v' a).mpr ((halc _).mpr c)
            omega
          · have hin : i < n := by omega
            have bw := (hpt i hin).2.2.1 x.toNat (by omega)
            have l0 := hl0 i hin
            have l1 := hlb i hin
            have n1 : (i : Int) + 1 = ((i + 1 : Nat) : Int) := by omega
            have n3 : n - (i + 1) < m := by clear hinv ih; omega
            refine ok_beq (s_weight ζ3 68 (m := x.toNat) rfl (by omega) (by omega) (by omega)) ?_
            have step : ∀ E' : Int, 0 ≤ E' → E' ≤ 100 → (∀ v, 0 ≤ v → (E' ≤ v ↔ (E ≤ v ∧ 0 ≤ dt (gro A z.toNat x.toNat (v - val A z.toNat x.toNat) y.toNat) (cw ζ3 68 i)))) → Ok (g_X4_leastStillBetter_19 z x m E' ((i : Int) + 1) ζ3) (fun r => Eg A (Sc A (hrd A)) z.toNat y.toNat x.toNat r.1 ∧ Fx (We 135) ζ2 r.2) := by
              intro E' a b c
              refine ih E' _ (i + 1) n1 hin n3 a b (fun v hv => (c v hv).trans ?_)
              rw [hinv v hv]
              exact ⟨fun ⟨g1, g2⟩ j hj => by
                by_cases ej : j = i
                · rw [ej]; exact g2
                · exact g1 j (by omega), fun g => ⟨fun j hj => g j (by omega), g i (by omega)⟩⟩
            refine ok_gJ (by dsimp only; omega) (by dsimp only; omega) (by omega) (by omega) (fun gw => ?_) (fun gw => ?_)
            · have gw : cw ζ3 68 i x.toNat ≤ 0 := gw
              have w0 : cw ζ3 68 i x.toNat = 0 := by omega
              refine step E hE0 hE1 (fun v hv => ⟨fun q => ⟨q, ?_⟩, fun q => q.1⟩)
              rw [dt_gro A _ (by omega), w0, Int.mul_zero]; omega
            · have gw : ¬ cw ζ3 68 i x.toNat ≤ 0 := gw
              refine ok_beq (cs_prod ζ3 68 135 hfit3 (by omega) rfl hn hin rfl h3 hbd) ?_
              generalize hl : dt (leadv A z.toNat y.toNat) (cw ζ3 68 i) = L at l0 l1 ⊢
              generalize hwv : cw ζ3 68 i x.toNat = W at bw gw ⊢
              refine ok_beq (s_floorDiv ζ3 (by omega) (by omega)) ?_
              dsimp only
              have q0 : 0 ≤ L / W := Int.ediv_nonneg l0 (by omega)
              have q1 : L / W ≤ L := Int.ediv_le_self W l0
              rw [show Int.toNat z = z.toNat from rfl, v3]
              refine ok_gk (by omega) (by omega) (ok_gk (by omega) (by omega) (ok_gw (by omega) (by omega) ?_))
              refine ok_beq (s_maxJ ζ3 (by omega) (by omega)) ?_
              refine step _ ?_ ?_ (fun v hv => ?_)
              · split <;> omega
              · split <;> omega
              · rw [dt_gro A _ (by omega), hl, hwv, ceil_iff (by omega)]
                split <;> omega
      exact key FU 0 0 0 rfl (by omega) (by rw [FU_e]; omega) (by omega) (by omega) (fun v hv => ⟨fun _ j hj => by omega, fun _ => hv⟩)
    refine ok_bind core (fun q ⟨q1, q2⟩ => ?_)
    have f4 : Fx Wsc ζ2 q.2 := fx_mono q2 (fun x y g => by unfold We at g; unfold Wsc; omega)
    exact ok_some ⟨Or.inl ⟨⟨e, htwo, hcan, hal⟩, q1⟩, cf_cls (cf_sc hW.2.1 c2 f4), fx_trans f12 (wsc_26 f4)⟩
  · rcases r1 with ⟨_, _, q'⟩ | ⟨q', _⟩
    · rcases q' with ⟨a, _⟩ | ⟨_, b, _⟩ | ⟨_, b, _⟩
      · exact g a
      · exact b q.2.2.2
      · exact b q.2.2.2
    · exact q' ⟨q.2.1, q.2.2.1⟩
