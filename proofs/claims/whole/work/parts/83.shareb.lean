/-! share: the class -/
theorem neg32 (x : Int32) : x.toInt < 0 ↔ x.toBitVec.msb = true := by
  show x.toBitVec.toInt < 0 ↔ _
  rw [BitVec.toInt_neg_iff, BitVec.msb_eq_decide]
  simp
  omega
theorem zxor_nn {a b : Int} (ha : i32 a) (hb : i32 b) : 0 ≤ zxor a b ↔ (0 ≤ a ↔ 0 ≤ b) := by
  have e : zxor a b < 0 ↔ ((mJ a).toBitVec.msb ^^ (mJ b).toBitVec.msb) = true := by
    unfold zxor
    rw [neg32]
    show ((mJ a).toBitVec ^^^ (mJ b).toBitVec).msb = true ↔ _
    rw [BitVec.msb_xor]
  have e1 := neg32 (mJ a)
  have e2 := neg32 (mJ b)
  rw [mJ_t ha] at e1
  rw [mJ_t hb] at e2
  cases h1 : (mJ a).toBitVec.msb <;> cases h2 : (mJ b).toBitVec.msb <;> rw [h1, h2] at e <;> rw [h1] at e1 <;> rw [h2] at e2 <;> simp at e e1 e2 <;> omega
theorem s_floorI (ζ : ZS) {a b : Int} (ha : -1000000 ≤ a ∧ a ≤ 1000000) (hb : 0 < b ∧ b ≤ 1000000) : g_J9_floorDiv_7cf53 a b ζ = some (a / b, ζ) := by
  apply ok_eq
  unfold g_J9_floorDiv_7cf53 g_J9_floorDiv_7cf53_21
  have x := zxor_nn (a := a) (b := b) ⟨by omega, by omega⟩ ⟨by omega, by omega⟩
  have xr : -2147483648 ≤ zxor a b ∧ zxor a b < 2147483648 := ⟨Int32.le_toInt _, Int32.toInt_lt _⟩
  have td := tdiv_le (a := a) hb.1 (-1000000) 1000000 ha.1 ha.2 (by omega) (by omega)
  refine ok_gd (by omega) (by omega) (by omega) (by omega) (ok_gI (by omega) (by omega) xr.1 xr.2 (fun g => ok_some ?_) (fun g => ?_))
  · have a0 : 0 ≤ a := by have := x.mp g; omega
    rw [Int.tdiv_eq_ediv_of_nonneg a0]
  · have an : a < 0 := by
      apply Classical.byContradiction
      intro q
      exact g (x.mpr ⟨fun _ => by omega, fun _ => by omega⟩)
    have e : a.tdiv b = -((-a) / b) := by
      rw [← Int.tdiv_eq_ediv_of_nonneg (by omega : 0 ≤ -a), Int.neg_tdiv, Int.neg_neg]
    have m1 := Int.mul_ediv_add_emod (-a) b
    have m2 := Int.emod_nonneg (-a) (show b ≠ 0 by omega)
    have m3 := Int.emod_lt_of_pos (-a) hb.1
    have q0 : 0 ≤ (-a) / b := Int.ediv_nonneg (by omega) (by omega)
    have em : a.tdiv b * b = -(b * ((-a) / b)) := by rw [e, Int.neg_mul, Int.mul_comm]
    have bm : b * ((-a) / b) ≤ -a := by omega
    have bm0 : 0 ≤ b * ((-a) / b) := Int.mul_nonneg (by omega) q0
    generalize hq : (-a) / b = q at *
    refine ok_gI (by omega) (by omega) (by omega) (by omega) (fun h => ok_some ?_) (fun h => ok_some ?_)
    · have ea : a = -q * b := by rw [e] at h; omega
      congr 1
      rw [e]
      rw [ea, Int.mul_ediv_cancel _ (by omega)]
    · congr 1
      rw [e]
      have r1 : 0 < -a - b * q := by
        have : ¬ -a - b * q = 0 := fun z => h (by omega)
        omega
      have r2 : -a - b * q < b := by omega
      apply Eq.symm
      have : a = (-q - 1) * b + (b - (-a - b * q)) := by
        have : (-q - 1) * b = -(b * q) - b := by grind
        omega
      rw [this, Int.add_comm, Int.add_mul_ediv_right _ _ (by omega), Int.ediv_eq_zero_of_lt (by omega) (by omega)]
      omega
def wqv (k s th m : Nat) (x : Int) : V4 := fun i => (if i = 0 then x else 0) + (if i = 1 then (s : Int) else 0) + (if i = 2 then (th : Int) else 0) + (if i + 1 = k then (m : Int) - x else 0)
theorem dt_wqv {k s th m : Nat} {x : Int} {r : V4} (h1 : 1 ≤ k) (h4 : k ≤ 4) : dt r (wqv k s th m x) = (r 1 * s + r 2 * th + r (k - 1) * m) + x * (r 0 - r (k - 1)) := by
  rcases (show k = 1 ∨ k = 2 ∨ k = 3 ∨ k = 4 by omega) with e | e | e | e <;> subst e <;> simp [dt, wqv] <;> grind
/-- the span: for which x the rows so far are kept -/
def Spn (ζ : ZS) (k s th m : Nat) (P : Int → Prop) : Prop := (ζ.1 144 0 = (k : Int) - 1 ∧ ζ.1 144 1 = m ∧ ζ.1 144 2 = s ∧ ζ.1 144 3 = th) ∧ (0 ≤ ζ.1 144 4 ∧ ζ.1 144 4 ≤ 10000) ∧ (-10000 ≤ ζ.1 144 5 ∧ ζ.1 144 5 ≤ m) ∧ ∀ x : Int, (0 ≤ x ∧ x ≤ m) → ((ζ.1 144 4 ≤ x ∧ x ≤ ζ.1 144 5) ↔ ((k = 1 → x = m) ∧ P x))
theorem spn_congr {ζ : ZS} {k s th m : Nat} {P Q : Int → Prop} (h : Spn ζ k s th m P) (e : ∀ x : Int, 0 ≤ x → x ≤ (m : Int) → (P x ↔ Q x)) : Spn ζ k s th m Q := ⟨h.1, h.2.1, h.2.2.1, fun x hx => (h.2.2.2 x hx).trans (and_congr_right (fun _ => e x hx.1 hx.2))⟩
theorem s_open {ζ : ZS} {k n s th : Nat} {z y x w : Int} (hz : z = k) (hy : y = n) (hx : x = s) (hw : w = th) (h1 : 1 ≤ k) (h4 : k ≤ 4) (hn : n ≤ 20) (hs : s + th ≤ n) : Ok (g_X7_open z y x w ζ) (fun ζ' => Spn ζ' k s th (n - s - th) (fun _ => True) ∧ Fx (We 144) ζ ζ') := by
  subst hz; subst hy; subst hx; subst hw
  unfold g_X7_open g_X7_open_49
  have r2 : (zI (zI (zI ζ 144 0 ((k : Int) - 1)) 144 2 (s : Int)) 144 3 (th : Int)).1 144 2 = s := by rw [zI_1, if_neg (by omega), zI_1, if_pos ⟨rfl, rfl⟩]
  have r3 : (zI (zI (zI ζ 144 0 ((k : Int) - 1)) 144 2 (s : Int)) 144 3 (th : Int)).1 144 3 = th := by rw [zI_1, if_pos ⟨rfl, rfl⟩]
  have r0 : (zI (zI (zI ζ 144 0 ((k : Int) - 1)) 144 2 (s : Int)) 144 3 (th : Int)).1 144 0 = (k : Int) - 1 := by rw [zI_1, if_neg (by omega), zI_1, if_neg (by omega), zI_1, if_pos ⟨rfl, rfl⟩]
  rw [r2, r3]
  have fx : Fx (We 144) ζ (zI (zI (zI ζ 144 0 ((k : Int) - 1)) 144 2 (s : Int)) 144 3 (th : Int)) := fx_I (fx_I (fx_I (fx_refl _ _) rfl) rfl) rfl
  generalize zI (zI (zI ζ 144 0 ((k : Int) - 1)) 144 2 (s : Int)) 144 3 (th : Int) = ζ1 at r2 r3 r0 fx
  have em : (n : Int) - s - th = ((n - s - th : Nat) : Int) := by omega
  rw [em]
  generalize n - s - th = m at em
  have q0 : (zI ζ1 144 1 (m : Int)).1 144 0 = (k : Int) - 1 := by rw [zI_1, if_neg (by omega)]; exact r0
  have q1 : (zI ζ1 144 1 (m : Int)).1 144 1 = m := by rw [zI_1, if_pos ⟨rfl, rfl⟩]
  have q2 : (zI ζ1 144 1 (m : Int)).1 144 2 = s := by rw [zI_1, if_neg (by omega)]; exact r2
  have q3 : (zI ζ1 144 1 (m : Int)).1 144 3 = th := by rw [zI_1, if_neg (by omega)]; exact r3
  have fx1 : Fx (We 144) ζ (zI ζ1 144 1 (m : Int)) := fx_I fx rfl
  rw [q0, q1]
  generalize zI ζ1 144 1 (m : Int) = ζ2 at q0 q1 q2 q3 fx1
  have fin : ∀ v : Int, (v = m ∧ k = 1) ∨ (v = 0 ∧ k ≠ 1) → Ok (some (zI (zI ζ2 144 4 v) 144 5 ((zI ζ2 144 4 v).1 144 1))) (fun ζ' => Spn ζ' k s th m (fun _ => True) ∧ Fx (We 144) ζ ζ') := fun v hv => by
    have e1 : (zI ζ2 144 4 v).1 144 1 = m := by rw [zI_1, if_neg (by omega)]; exact q1
    rw [e1]
    have E : ∀ y, (zI (zI ζ2 144 4 v) 144 5 (m : Int)).1 144 y = if y = 5 then (m : Int) else if y = 4 then v else ζ2.1 144 y := fun y => by
      rw [zI_1, zI_1]
      by_cases c5 : y = 5
      · rw [if_pos ⟨rfl, c5⟩, if_pos c5]
      · rw [if_neg (by omega), if_neg c5]
        by_cases c4 : y = 4
        · rw [if_pos ⟨rfl, c4⟩, if_pos c4]
        · rw [if_neg (by omega), if_neg c4]
    refine ok_some ⟨⟨⟨by rw [E]; exact q0, by rw [E]; exact q1, by rw [E]; exact q2, by rw [E]; exact q3⟩, ?_, ?_, fun x hx => ?_⟩, fx_I (fx_I fx1 rfl) rfl⟩
    · rw [E, if_neg (by omega), if_pos rfl]; omega
    · rw [E, if_pos rfl]; omega
    · rw [E, E, if_neg (by omega), if_pos rfl, if_pos rfl]
      rcases hv with ⟨a, b⟩ | ⟨a, b⟩
      · exact ⟨fun c => ⟨fun _ => by omega, trivial⟩, fun c => by have := c.1 b; omega⟩
      · exact ⟨fun c => ⟨fun z => absurd z b, trivial⟩, fun c => by omega⟩
  exact ok_gI (by omega) (by omega) (by omega) (by omega) (fun g => fin _ (Or.inl ⟨rfl, by omega⟩)) (fun g => fin 0 (Or.inr ⟨rfl, by omega⟩))
theorem s_narrow {ζ : ZS} {e k s th m : Nat} {P : Int → Prop} {r : V4} (hl : ln e = 4) (he : e ≠ 144) (hrow : ∀ i, i < 4 → ζ.1 e i = r i) (hb : bd r) (h1 : 1 ≤ k) (h4 : k ≤ 4) (hm : s ≤ 20 ∧ th ≤ 20 ∧ m ≤ 20) (h : Spn ζ k s th m P) : Ok (g_X7_narrow e ζ) (fun ζ' => Spn ζ' k s th m (fun x => P x ∧ 0 ≤ dt r (wqv k s th m x)) ∧ Fx (We 144) ζ ζ') := by
  obtain ⟨⟨h10, h11, h12, h13⟩, hlo, hhi, hx⟩ := h
  unfold g_X7_narrow g_X7_narrow_98
  have t0 : Int.toNat 0 = 0 := rfl
  have t1 : Int.toNat 1 = 1 := rfl
  have t2 : Int.toNat 2 = 2 := rfl
  rw [hl, h10, h11, h12, h13, t0, t1, t2, show Int.toNat ((k : Int) - 1) = k - 1 by omega, hrow 0 (by omega), hrow 1 (by omega), hrow 2 (by omega), hrow (k - 1) (by omega)]
  have b0 := hb 0 (by omega)
  have bl := hb (k - 1) (by omega)
  have p1 := mb (A := 100) (B := 20) (hb 1 (by omega)).1 (hb 1 (by omega)).2 (show -20 ≤ (s : Int) by omega) (show (s : Int) ≤ 20 by omega)
  have p2 := mb (A := 100) (B := 20) (hb 2 (by omega)).1 (hb 2 (by omega)).2 (show -20 ≤ (th : Int) by omega) (show (th : Int) ≤ 20 by omega)
  have p3 := mb (A := 100) (B := 20) bl.1 bl.2 (show -20 ≤ (m : Int) by omega) (show (m : Int) ≤ 20 by omega)
  obtain ⟨ba, hba⟩ : ∃ ba, ba = r 1 * (s : Int) + r 2 * (th : Int) + r (k - 1) * (m : Int) := ⟨_, rfl⟩
  obtain ⟨sl, hsl⟩ : ∃ sl, sl = r 0 - r (k - 1) := ⟨_, rfl⟩
  have ed : ∀ x, dt r (wqv k s th m x) = ba + x * sl := fun x => by rw [dt_wqv h1 h4, hba, hsl]
  have bb : -6000 ≤ ba ∧ ba ≤ 6000 := by rw [hba]; omega
  have sb : -200 ≤ sl ∧ sl ≤ 200 := by omega
  rw [← hba, ← hsl]
  clear p1 p2 p3 hba hsl
  have same : (∀ x : Int, 0 ≤ x ∧ x ≤ m → 0 ≤ ba + x * sl) → Ok (some ζ) (fun ζ' => Spn ζ' k s th m (fun x => P x ∧ 0 ≤ dt r (wqv k s th m x)) ∧ Fx (We 144) ζ ζ') := fun hs => ok_some ⟨⟨⟨h10, h11, h12, h13⟩, hlo, hhi, fun x hxx => (hx x hxx).trans ⟨fun q => ⟨q.1, q.2, by rw [ed]; exact hs x hxx⟩, fun q => ⟨q.1, q.2.1⟩⟩⟩, fx_refl _ _⟩
  have newhi : ∀ v : Int, -10000 ≤ v ∧ v ≤ m → (∀ x : Int, 0 ≤ x ∧ x ≤ m → (x ≤ v ↔ (x ≤ ζ.1 144 5 ∧ 0 ≤ ba + x * sl)) ∨ (¬ (ζ.1 144 4 ≤ x ∧ x ≤ v) ∧ ¬ 0 ≤ ba + x * sl)) → Ok (some (zI ζ 144 5 v)) (fun ζ' => Spn ζ' k s th m (fun x => P x ∧ 0 ≤ dt r (wqv k s th m x)) ∧ Fx (We 144) ζ ζ') := fun v hv hs => by
    have E : ∀ y, y ≠ 5 → (zI ζ 144 5 v).1 144 y = ζ.1 144 y := fun y hy => by rw [zI_1, if_neg (by omega)]
    have E5 : (zI ζ 144 5 v).1 144 5 = v := by rw [zI_1, if_pos ⟨rfl, rfl⟩]
    refine ok_some ⟨⟨⟨by rw [E _ (by omega)]; exact h10, by rw [E _ (by omega)]; exact h11, by rw [E _ (by omega)]; exact h12, by rw [E _ (by omega)]; exact h13⟩, by rw [E _ (by omega)]; exact hlo, by rw [E5]; exact hv, fun x hxx => ?_⟩, fx_I (fx_refl _ _) rfl⟩
    show _ ↔ ((k = 1 → x = (m : Int)) ∧ (P x ∧ 0 ≤ dt r (wqv k s th m x)))
    rw [E 4 (by omega), E5, ed]
    have a := hx x hxx
    rcases hs x hxx with b | ⟨b, c⟩
    · rw [b]
      constructor
      · rintro ⟨q1, q2, q3⟩; have := a.mp ⟨q1, q2⟩; exact ⟨this.1, this.2, q3⟩
      · rintro ⟨q1, q2, q3⟩; have := a.mpr ⟨q1, q2⟩; exact ⟨this.1, this.2, q3⟩
    · exact ⟨fun q => absurd q b, fun q => absurd q.2.2 c⟩
  have newlo : ∀ v : Int, 0 ≤ v ∧ v ≤ 10000 → (∀ x : Int, 0 ≤ x ∧ x ≤ m → (v ≤ x ↔ (ζ.1 144 4 ≤ x ∧ 0 ≤ ba + x * sl))) → Ok (some (zI ζ 144 4 v)) (fun ζ' => Spn ζ' k s th m (fun x => P x ∧ 0 ≤ dt r (wqv k s th m x)) ∧ Fx (We 144) ζ ζ') := fun v hv hs => by
    have E : ∀ y, y ≠ 4 → (zI ζ 144 4 v).1 144 y = ζ.1 144 y := fun y hy => by rw [zI_1, if_neg (by omega)]
    have E5 : (zI ζ 144 4 v).1 144 4 = v := by rw [zI_1, if_pos ⟨rfl, rfl⟩]
    refine ok_some ⟨⟨⟨by rw [E _ (by omega)]; exact h10, by rw [E _ (by omega)]; exact h11, by rw [E _ (by omega)]; exact h12, by rw [E _ (by omega)]; exact h13⟩, by rw [E5]; exact hv, by rw [E _ (by omega)]; exact hhi, fun x hxx => ?_⟩, fx_I (fx_refl _ _) rfl⟩
    show _ ↔ ((k = 1 → x = (m : Int)) ∧ (P x ∧ 0 ≤ dt r (wqv k s th m x)))
    rw [E 5 (by omega), E5, ed, hs x hxx]
    have a := hx x hxx
    constructor
    · rintro ⟨⟨q1, q3⟩, q2⟩; have := a.mp ⟨q1, q2⟩; exact ⟨this.1, this.2, q3⟩
    · rintro ⟨q1, q2, q3⟩; have := a.mpr ⟨q1, q2⟩; exact ⟨⟨this.1, q3⟩, this.2⟩
  refine ok_gk (by omega) (by omega) (ok_gk (by omega) (by omega) (ok_gk (by omega) (by omega) (ok_gk (by omega) (by omega) (ok_gk (by omega) (by omega) ?_))))
  refine ok_gI (by omega) (by omega) (by omega) (by omega) (fun g => ok_gI (by omega) (by omega) (by omega) (by omega) (fun g2 => ?_) (fun g2 => ?_)) (fun g => ?_)
  · have z : sl = 0 := by omega
    refine ok_gI (by omega) (by omega) (by omega) (by omega) (fun g3 => same (fun x _ => by rw [z]; omega)) (fun g3 => newhi (-1) (by omega) (fun x hxx => Or.inr ⟨fun q => by omega, by rw [z]; omega⟩))
  · refine ok_beq (s_floorI ζ (a := ba) (b := -sl) (by omega) (by omega)) ?_
    have q1 := Int.mul_ediv_add_emod ba (-sl)
    have q2 := Int.emod_nonneg ba (show -sl ≠ 0 by omega)
    have fl : -6001 ≤ ba / (-sl) ∧ ba / (-sl) ≤ 6000 := by
      have a1 : ba / (-sl) ≤ 6000 := by
        apply Int.ediv_le_of_le_mul (by omega)
        have := Int.mul_le_mul_of_nonneg_left (show 1 ≤ -sl by omega) (show (0 : Int) ≤ 6000 by omega)
        omega
      have a2 : -6001 ≤ ba / (-sl) := by
        apply (Int.le_ediv_iff_mul_le (by omega)).mpr
        have := Int.mul_le_mul_of_nonneg_left (show 1 ≤ -sl by omega) (show (0 : Int) ≤ 6001 by omega)
        omega
      exact ⟨a2, a1⟩
    refine ok_beq (s_min ζ (by omega) (by dsimp only; omega)) (newhi _ (by dsimp only; split <;> omega) (fun x hxx => Or.inl ?_))
    have le := Int.le_ediv_iff_mul_le (a := x) (b := ba) (c := -sl) (by omega)
    have em : x * (-sl) = -(x * sl) := by rw [Int.mul_neg]
    rw [em] at le
    dsimp only
    split <;> omega
  · refine ok_beq (s_floorI ζ (a := ba) (b := sl) (by omega) (by omega)) ?_
    have fl : -6001 ≤ ba / sl ∧ ba / sl ≤ 6000 := by
      have a1 : ba / sl ≤ 6000 := by
        apply Int.ediv_le_of_le_mul (by omega)
        have := Int.mul_le_mul_of_nonneg_left (show 1 ≤ sl by omega) (show (0 : Int) ≤ 6000 by omega)
        omega
      have a2 : -6001 ≤ ba / sl := by
        apply (Int.le_ediv_iff_mul_le (by omega)).mpr
        have := Int.mul_le_mul_of_nonneg_left (show 1 ≤ sl by omega) (show (0 : Int) ≤ 6001 by omega)
        omega
      exact ⟨a2, a1⟩
    refine ok_beq (s_max ζ (by omega) (by dsimp only; omega)) (newlo _ (by dsimp only; split <;> omega) (fun x hxx => ?_))
    have ci := ceil_iff (l := ba) (w := sl) (g := x) (by omega)
    dsimp only
    rw [ci]
    split <;> omega
theorem s_narrowBy {ζ : ZS} {c N k s th m : Nat} {U : Nat → Bool} {row : Nat → V4} {P : Int → Prop} {z : Int} (hc : c = 51 ∧ N = 12 ∨ c = 126 ∧ N = 8) (hz : z = ((msk U N : Nat) : Int)) (hrow : ∀ r, r < N → U r = true → (∀ i, i < 4 → ζ.1 (c + 1 + r) i = row r i) ∧ bd (row r)) (h1 : 1 ≤ k) (h4 : k ≤ 4) (hm : s ≤ 20 ∧ th ≤ 20 ∧ m ≤ 20) (h : Spn ζ k s th m P) : Ok (g_X7_narrowBy c z ζ) (fun ζ' => Spn ζ' k s th m (fun x => P x ∧ ∀ r, r < N → U r = true → 0 ≤ dt (row r) (wqv k s th m x)) ∧ Fx (We 144) ζ ζ') := by
  have N12 : N ≤ 12 ∧ 0 < N := by omega
  have lc := (ln_pk hc N12.2).2.1
  have key : ∀ (n : Nat) (w : Int) (j : Nat) (ζ1 : ZS), w = j → j ≤ N → N - j < n → Fx (We 144) ζ ζ1 → Spn ζ1 k s th m (fun x => P x ∧ ∀ r, r < j → U r = true → 0 ≤ dt (row r) (wqv k s th m x)) → Ok (g_X7_narrowBy_2 c z n w ζ1) (fun ζ' => Spn ζ' k s th m (fun x => P x ∧ ∀ r, r < N → U r = true → 0 ≤ dt (row r) (wqv k s th m x)) ∧ Fx (We 144) ζ ζ') := by
    intro n
    induction n with
    | zero => intro _ _ _ _ _ h; omega
    | succ n ih =>
      intro w j ζ1 hw hj hn hf hs
      subst hw
      unfold g_X7_narrowBy_2 g_X7_narrowBy_23
      rw [lc]
      refine ok_gI (by omega) (by omega) (by omega) (by omega) (fun g => ok_some ⟨by rw [show j = N by omega] at hs; exact hs, hf⟩) (fun g => ?_)
      refine bit_test hz rfl (by omega) (by omega) (fun e => ih _ (j + 1) ζ1 (by omega) (by omega) (by omega) hf (spn_congr hs (fun x _ _ => and_congr_right (fun _ => ⟨fun q r h1 h2 => ?_, fun q r h1 h2 => q r (by omega) h2⟩)))) (fun e => ?_)
      · by_cases cc : r = j
        · subst cc; rw [e] at h2; cases h2
        · exact q r (by omega) h2
      · have rs := hrow j (by omega) e
        rw [show Int.toNat (j : Int) = j by omega]
        refine ok_gk (by omega) (by omega) (ok_bind (s_narrow (ln_pk hc (r := j) (by omega)).2.2 (by omega) (fun i hi => by rw [(hf.1 _ _ (by unfold We; omega)).1]; exact rs.1 i hi) rs.2 h1 h4 hm hs) (fun ζ2 ⟨s2, f2⟩ => ih _ (j + 1) ζ2 (by omega) (by omega) (by omega) (fx_trans hf f2) (spn_congr s2 (fun x _ _ => ?_))))
        constructor
        · rintro ⟨⟨a, b⟩, d⟩
          refine ⟨a, fun r h1 h2 => ?_⟩
          by_cases cc : r = j
          · subst cc; exact d
          · exact b r (by omega) h2
        · rintro ⟨a, b⟩
          exact ⟨⟨a, fun r h1 h2 => b r (by omega) h2⟩, b j (by omega) e⟩
  unfold g_X7_narrowBy
  exact key FU 0 0 ζ rfl (by omega) (by rw [FU_e]; omega) (fx_refl _ _) (spn_congr h (fun x _ _ => ⟨fun q => ⟨q, fun r h => by omega⟩, fun q => q.1⟩))
theorem smn_span {lo hi : Int} (h0 : 0 ≤ lo) : ∀ n : Nat, ((smn (fun x => if lo ≤ (x : Int) ∧ (x : Int) ≤ hi then 1 else 0) n : Nat) : Int) = if lo ≤ (if hi < n then hi else (n : Int) - 1) then (if hi < n then hi else (n : Int) - 1) - lo + 1 else 0
  | 0 => by
    simp only [smn]
    rw [if_neg (by split <;> omega)]
    rfl
  | n + 1 => by
    have ih := smn_span (hi := hi) h0 n
    simp only [smn]
    push_cast
    rw [ih]
    by_cases c1 : hi < n
    · rw [if_pos c1, if_pos (show hi < (n : Int) + 1 by omega), if_neg (show ¬ (lo ≤ (n : Int) ∧ (n : Int) ≤ hi) by omega)]
      split <;> omega
    · rw [if_neg c1]
      by_cases c2 : hi < (n : Int) + 1
      · rw [if_pos c2]
        by_cases c3 : lo ≤ n
        · rw [if_pos (show lo ≤ (n : Int) ∧ (n : Int) ≤ hi by omega), if_pos (show lo ≤ hi by omega)]
          split <;> simp <;> omega
        · rw [if_neg (show ¬ (lo ≤ (n : Int) ∧ (n : Int) ≤ hi) by omega), if_neg (show ¬ lo ≤ hi by omega), if_neg (by omega)]; rfl
      · rw [if_neg c2]
        by_cases c3 : lo ≤ n
        · rw [if_pos (show lo ≤ (n : Int) ∧ (n : Int) ≤ hi by omega), if_pos (show lo ≤ (n : Int) + 1 - 1 by omega)]
          split <;> simp <;> omega
        · rw [if_neg (show ¬ (lo ≤ (n : Int) ∧ (n : Int) ≤ hi) by omega), if_neg (show ¬ lo ≤ (n : Int) + 1 - 1 by omega), if_neg (by omega)]; rfl
/-- how many along one line -/
noncomputable def wdt (A : Nat → Nat → Int) (t : Int) (k s th m : Nat) : Nat := smn (fun x => if k = 1 → x = m then cG A t (wqv k s th m x) else 0) (m + 1)
theorem s_width {A : Nat → Nat → Int} {ζ : ZS} {k s th m : Nat} {t : Int} (h : Spn ζ k s th m (fun x => GB A t (wqv k s th m x))) (hm : m ≤ 20) : g_X7_width ζ = some (((wdt A t k s th m : Nat) : Int), ζ) := by
  obtain ⟨-, hlo, hhi, hx⟩ := h
  apply ok_eq
  unfold g_X7_width
  refine ok_beq (s_max ζ (by omega) (by omega)) (ok_some ?_)
  dsimp only
  congr 1
  have e : wdt A t k s th m = smn (fun x => if ζ.1 144 4 ≤ (x : Int) ∧ (x : Int) ≤ ζ.1 144 5 then 1 else 0) (m + 1) := by
    unfold wdt
    refine smn_congr (fun x hxm => ?_)
    have a := hx x (by omega)
    by_cases c1 : k = 1 → x = m
    · rw [if_pos c1]
      by_cases c2 : GB A t (wqv k s th m x)
      · rw [cG_1 c2, if_pos (a.mpr ⟨fun z => by have := c1 z; omega, c2⟩)]
      · rw [cG_0 c2, if_neg (fun z => c2 (a.mp z).2)]
    · rw [if_neg c1, if_neg (fun z => c1 (fun z1 => by have := (a.mp z).1 z1; omega))]
  rw [e, smn_span hlo.1]
  push_cast
  rw [if_pos (show ζ.1 144 5 < (m : Int) + 1 by omega)]
  split <;> split <;> omega
/-- as the class counts -/
noncomputable def ctc (A : Nat → Nat → Int) (t : Int) (k n : Nat) : Nat := smn (fun s => smn (fun th => wdt A t k s th (n - s - th)) ((if k ≤ 3 then 0 else n - s) + 1)) ((if k ≤ 2 then 0 else n) + 1)
theorem ct_eq {A : Nat → Nat → Int} {t : Int} {k n : Nat} (h1 : 1 ≤ k) (h4 : k ≤ 4) : ctc A t k n = ctr A t (k - 1) 0 (fun _ => 0) n := by
  have one : ∀ f : Nat → Nat, smn f (0 + 1) = f 0 := fun f => by simp [smn]
  have wd2 : ∀ k' s th m, k' ≠ 1 → wdt A t k' s th m = smn (fun x => cG A t (wqv k' s th m x)) (m + 1) := fun k' s th m hk => smn_congr (fun x _ => by rw [if_pos (fun z => absurd z hk)])
  rcases (show k = 1 ∨ k = 2 ∨ k = 3 ∨ k = 4 by omega) with e | e | e | e <;> subst e
  · unfold ctc
    rw [if_pos (by omega), one, if_pos (by omega), one]
    show wdt A t 1 0 0 (n - 0 - 0) = cG A t (lfv 0 (fun _ => 0) n)
    unfold wdt
    rw [show n - 0 - 0 = n by omega]
    show smn (fun x => if 1 = 1 → x = n then cG A t (wqv 1 0 0 n ((x : Nat) : Int)) else 0) n + (if 1 = 1 → n = n then cG A t (wqv 1 0 0 n ((n : Nat) : Int)) else 0) = _
    rw [if_pos (show 1 = 1 → n = n from fun _ => rfl), smn_congr (g := fun _ => 0) (fun x hx => by rw [if_neg (fun z => by have := z rfl; omega)]), smn_0, Nat.zero_add]
    refine cG_c4 (fun m hm => ?_)
    unfold wqv lfv
    rcases (show m = 0 ∨ m = 1 ∨ m = 2 ∨ m = 3 by omega) with e | e | e | e <;> subst e <;> simp
  · unfold ctc
    rw [if_pos (by omega), one, if_pos (by omega), one, wd2 2 _ _ _ (by omega)]
    show _ = smn (fun w => cG A t (lfv 1 (fun i => if i = 0 then (w : Int) else 0) (n - w))) (n + 1)
    refine smn_congr (fun x hx => cG_c4 (fun m hm => ?_))
    unfold wqv lfv
    rcases (show m = 0 ∨ m = 1 ∨ m = 2 ∨ m = 3 by omega) with e | e | e | e <;> subst e <;> simp <;> omega
  · unfold ctc
    rw [if_neg (by omega)]
    have l1 : smn (fun s => smn (fun th => wdt A t 3 s th (n - s - th)) ((if 3 ≤ 3 then 0 else n - s) + 1)) (n + 1) = smn (fun s => smn (fun x => cG A t (wqv 3 s 0 (n - s) x)) (n + 1 - s)) (n + 1) := smn_congr (fun s hs => by
      rw [if_pos (by omega), one, wd2 3 _ _ _ (by omega), show n - s - 0 = n - s by omega, show n - s + 1 = n + 1 - s by omega])
    rw [l1]
    show _ = smn (fun w => smn (fun v => cG A t (lfv 2 (fun i => if i = 1 then (v : Int) else if i = 0 then (w : Int) else 0) (n - w - v))) (n - w + 1)) (n + 1)
    have l2 : smn (fun w => smn (fun v => cG A t (lfv 2 (fun i => if i = 1 then (v : Int) else if i = 0 then (w : Int) else 0) (n - w - v))) (n - w + 1)) (n + 1) = smn (fun w => smn (fun v => cG A t (lfv 2 (fun i => if i = 1 then (v : Int) else if i = 0 then (w : Int) else 0) (n - w - v))) (n + 1 - w)) (n + 1) := smn_congr (fun w hw => by rw [show n - w + 1 = n + 1 - w by omega])
    rw [l2, smn_tri]
    refine smn_congr (fun s hs => smn_congr (fun x hx => cG_c4 (fun m hm => ?_)))
    unfold wqv lfv
    rcases (show m = 0 ∨ m = 1 ∨ m = 2 ∨ m = 3 by omega) with e | e | e | e <;> subst e <;> simp <;> omega
  · unfold ctc
    rw [if_neg (by omega)]
    have l1 : smn (fun s => smn (fun th => wdt A t 4 s th (n - s - th)) ((if 4 ≤ 3 then 0 else n - s) + 1)) (n + 1) = smn (fun s => smn (fun th => smn (fun x => cG A t (wqv 4 s th (n - s - th) x)) (n + 1 - s - th)) (n + 1 - s)) (n + 1) := smn_congr (fun s hs => by
      rw [if_neg (by omega), show n - s + 1 = n + 1 - s by omega]
      exact smn_congr (fun th hth => by rw [wd2 4 _ _ _ (by omega), show n - s - th + 1 = n + 1 - s - th by omega]))
    rw [l1]
    show _ = smn (fun w => smn (fun v => smn (fun u => cG A t (lfv 3 (fun i => if i = 2 then (u : Int) else if i = 1 then (v : Int) else if i = 0 then (w : Int) else 0) (n - w - v - u))) (n - w - v + 1)) (n - w + 1)) (n + 1)
    have l2 : smn (fun w => smn (fun v => smn (fun u => cG A t (lfv 3 (fun i => if i = 2 then (u : Int) else if i = 1 then (v : Int) else if i = 0 then (w : Int) else 0) (n - w - v - u))) (n - w - v + 1)) (n - w + 1)) (n + 1) = smn (fun w => smn (fun v => smn (fun u => cG A t (lfv 3 (fun i => if i = 2 then (u : Int) else if i = 1 then (v : Int) else if i = 0 then (w : Int) else 0) (n - w - v - u))) (n + 1 - v - w)) (n + 1 - w)) (n + 1) := smn_congr (fun w hw => by
      rw [show n - w + 1 = n + 1 - w by omega]
      exact smn_congr (fun v hv => by rw [show n - w - v + 1 = n + 1 - v - w by omega]))
    rw [l2, smn_tri (fun w v => smn (fun u => cG A t (lfv 3 (fun i => if i = 2 then (u : Int) else if i = 1 then (v : Int) else if i = 0 then (w : Int) else 0) (n - w - v - u))) (n + 1 - v - w)) (n + 1)]
    refine smn_congr (fun s hs => ?_)
    rw [smn_tri (fun w u => cG A t (lfv 3 (fun i => if i = 2 then (u : Int) else if i = 1 then (s : Int) else if i = 0 then (w : Int) else 0) (n - w - s - u))) (n + 1 - s)]
    refine smn_congr (fun th hth => smn_congr (fun x hx => cG_c4 (fun m hm => ?_)))
    unfold wqv lfv
    rcases (show m = 0 ∨ m = 1 ∨ m = 2 ∨ m = 3 by omega) with e | e | e | e <;> subst e <;> simp <;> omega
theorem b_share {A : Nat → Nat → Int} {ζ : ZS} (h : Cls A ζ) (hW : Wall A) {z y : Int} (hz : r32 z) (hy : r32 y) : Ok (g_X11_share z y ζ) (CP A ζ (QSh A z y)) := by
  have hw := hW.1
  have qk := hW.1.1
  have q9 := hW.2.1.1
  obtain ⟨k, hk⟩ : ∃ k : Nat, A 0 20 = k := ⟨(A 0 20).toNat, by omega⟩
  unfold g_X11_share g_X11_share_31
  refine ok_bind (s_fresh hW h) (fun ζ1 ⟨c1, f1⟩ => ?_)
  have no : ∀ ζ2, ζ2 = ζ1 → ¬ ((z = -1 ∨ inz A z = true) ∧ (1 ≤ y ∧ y ≤ 20)) → Ok (some ((-1 : Int), ζ2)) (CP A ζ (QSh A z y)) := fun ζ2 e q => by rw [e]; exact ok_some ⟨Or.inr ⟨q, rfl⟩, cf_cls c1, f1⟩
  refine ok_gI hy.1 hy.2 (by omega) (by omega) (fun g => no ζ1 rfl (fun q => by omega)) (fun g => ok_gI (by omega) (by omega) hy.1 hy.2 (fun g2 => no ζ1 rfl (fun q => by omega)) (fun g2 => ?_))
  obtain ⟨n, hn⟩ : ∃ n : Nat, y = n := ⟨y.toNat, by omega⟩
  subst hn
  have n20 : n ≤ 20 := by omega
  -- the count, with the leads laid if a thing is asked
  have count : ∀ (U : Nat → Bool) (ζ2 : ZS), Fx Wsc ζ1 ζ2 → (z = -1 ∨ inz A z = true) → (∀ u, u < 8 → (U u = true ↔ (z ≠ -1 ∧ inb A u = true ∧ u ≠ z.toNat))) → (∀ r, r < 8 → U r = true → ∀ i, i < 4 → ζ2.1 (126 + 1 + r) i = leadv A z.toNat r i) → Ok (g_X11_share_63 (n : Int) ((msk U 8 : Nat) : Int) ζ2) (CP A ζ (QSh A z n)) := by
    intro U ζ2 hf2 hzz hU hrow
    have c2 := cf_sc hW.2.1 c1 hf2
    have zt : z = -1 ∨ (0 ≤ z ∧ z ≤ 7) := by
      rcases hzz with q | q
      · exact Or.inl q
      · have := inz_r q; exact Or.inr ⟨this.1, this.2.1⟩
    obtain ⟨-, b2, b3, -⟩ := c2.2.1
    have e16 : ∀ {ζ3}, Fx (We 144) ζ2 ζ3 → ζ3.1 26 16 = k := fun {ζ3} hf => by rw [(hf.1 26 16 (by unfold We; omega)).1, c2.1.2.2.1, hk]
    have line : ∀ (ζ3 : ZS) (s th : Nat), Fx (We 144) ζ2 ζ3 → s + th ≤ n → Ok ((g_X7_open (ζ3.1 26 16) (n : Int) (s : Int) (th : Int) ζ3).bind fun q1 => (g_X7_narrowBy 51 (q1.1 50 4) q1).bind fun q2 => (g_X7_narrowBy 126 ((msk U 8 : Nat) : Int) q2).bind fun q3 => g_X7_width q3) (fun r => r.1 = ((wdt A z k s th (n - s - th) : Nat) : Int) ∧ Fx (We 144) ζ2 r.2) := by
      intro ζ3 s th hf hst
      refine ok_bind (s_open (k := k) (n := n) (s := s) (th := th) (e16 hf) rfl rfl rfl (by omega) (by omega) n20 hst) (fun ζ4 ⟨s4, f4⟩ => ?_)
      have g4 := fx_trans hf f4
      refine ok_bind (s_narrowBy (c := 51) (N := 12) (U := hrd A) (row := srz A) (Or.inl ⟨rfl, rfl⟩) (by rw [(g4.1 50 4 (by unfold We; omega)).1]; exact b3) (fun r hr hu => ?_) (by omega) (by omega) (by omega) s4) (fun ζ5 ⟨s5, f5⟩ => ?_)
      · have hr9 : (r : Int) < A 9 0 := by unfold hrd at hu; simp only [Bool.and_eq_true, decide_eq_true_eq] at hu; exact hu.1
        unfold srz
        rw [if_pos hr9]
        refine ⟨fun i hi => ?_, sr_bd hw hW.2.1 hr9⟩
        rw [(g4.1 _ _ (by unfold We; omega)).1, show 51 + 1 + r = 52 + r by omega]
        exact b2 r i hr9 hi
      have g5 := fx_trans g4 f5
      refine ok_bind (s_narrowBy (c := 126) (N := 8) (U := U) (row := leadv A z.toNat) (Or.inr ⟨rfl, rfl⟩) rfl (fun r hr hu => ⟨fun i hi => ?_, leadv_bd hw (by have := (hU r hr).mp hu; omega) hr⟩) (by omega) (by omega) (by omega) s5) (fun ζ6 ⟨s6, f6⟩ => ?_)
      · rw [(g5.1 _ _ (by unfold We; omega)).1]; exact hrow r hr hu i hi
      have g6 := fx_trans g5 f6
      have s7 : Spn ζ6 k s th (n - s - th) (fun x => GB A z (wqv k s th (n - s - th) x)) := spn_congr s6 (fun x _ _ => by
        constructor
        · rintro ⟨⟨_, a⟩, b⟩
          refine ⟨fun s' h1 h2 => ?_, fun hz1 u hu hi => ?_⟩
          · have := a s' (by omega) h2
            unfold srz at this
            rw [if_pos h1] at this
            exact this
          · by_cases cc : u = z.toNat
            · subst cc; rw [dt_self]; omega
            · exact b u hu ((hU u hu).mpr ⟨hz1, hi, cc⟩)
        · rintro ⟨a, b⟩
          refine ⟨⟨trivial, fun r hr hu => ?_⟩, fun r hr hu => ?_⟩
          · have hr9 : (r : Int) < A 9 0 := by unfold hrd at hu; simp only [Bool.and_eq_true, decide_eq_true_eq] at hu; exact hu.1
            unfold srz
            rw [if_pos hr9]; exact a r hr9 hu
          · have := (hU r hr).mp hu
            exact b this.1 r hr this.2.1)
      rw [s_width s7 (by omega)]
      exact ok_some ⟨rfl, g6⟩
    obtain ⟨ms, hms⟩ : ∃ ms : Nat, ms = if k ≤ 2 then 0 else n := ⟨_, rfl⟩
    have msn : ms ≤ n := by rw [hms]; split <;> omega
    have thirds : ∀ (s : Nat) (acc0 : Int) (mt : Nat) (r84 : Int → Int → ZS → Option (Int × ZS)), s ≤ ms → s + mt ≤ n → (∀ ζ4, Fx (We 144) ζ2 ζ4 → Ok (r84 (acc0 + ((smn (fun th => wdt A z k s th (n - s - th)) (mt + 1) : Nat) : Int)) ((s : Int) + 1) ζ4) (CP A ζ (QSh A z n))) → ∀ (m : Nat) (acc w : Int) (th : Nat) (ζ3 : ZS), w = th → th ≤ mt + 1 → mt + 1 - th < m → acc = acc0 + ((smn (fun th => wdt A z k s th (n - s - th)) th : Nat) : Int) → Fx (We 144) ζ2 ζ3 → Ok (g_X11_share_112 (n : Int) ((msk U 8 : Nat) : Int) (ms : Int) (s : Int) (mt : Int) r84 m acc w ζ3) (CP A ζ (QSh A z n)) := by
      intro s acc0 mt r84 hs hmt hnext m
      induction m with
      | zero => intro _ _ _ _ _ _ h; omega
      | succ m ih =>
        intro acc w th ζ3 hwt ht hm ha hf
        subst hwt
        unfold g_X11_share_112
        refine ok_gI (by omega) (by omega) (by omega) (by omega) (fun g3 => ?_) (fun g3 => ?_)
        · rw [ha, show th = mt + 1 by omega]; exact hnext ζ3 hf
        · obtain ⟨r, er, r1, r2⟩ := line ζ3 s th hf (by omega)
          cases h1 : g_X7_open (ζ3.1 26 16) (n : Int) (s : Int) (th : Int) ζ3 with
          | none => rw [h1] at er; cases er
          | some a1 =>
            rw [h1] at er
            cases h2 : g_X7_narrowBy 51 (a1.1 50 4) a1 with
            | none => simp only [Option.bind_some] at er; rw [h2] at er; cases er
            | some a2 =>
              simp only [Option.bind_some] at er
              rw [h2] at er
              cases h3 : g_X7_narrowBy 126 ((msk U 8 : Nat) : Int) a2 with
              | none => simp only [Option.bind_some] at er; rw [h3] at er; cases er
              | some a3 =>
                simp only [Option.bind_some] at er
                rw [h3] at er
                simp only [Option.bind_some] at er
                refine ok_beq rfl (ok_beq h2 (ok_beq h3 (ok_beq er ?_)))
                refine ih _ _ (th + 1) r.2 (by omega) (by omega) (by omega) ?_ r2
                rw [ha, r1]
                simp only [smn]
                push_cast
                omega
    have seconds : ∀ (m : Nat) (acc w : Int) (s : Nat) (ζ3 : ZS), w = s → s ≤ ms + 1 → ms + 1 - s < m → acc = ((smn (fun s => smn (fun th => wdt A z k s th (n - s - th)) ((if k ≤ 3 then 0 else n - s) + 1)) s : Nat) : Int) → Fx (We 144) ζ2 ζ3 → Ok (g_X11_share_84 (n : Int) ((msk U 8 : Nat) : Int) (ms : Int) m acc w ζ3) (CP A ζ (QSh A z n)) := by
      intro m
      induction m with
      | zero => intro _ _ _ _ _ _ h; omega
      | succ m ih =>
        intro acc w s ζ3 hws hs hm ha hf
        subst hws
        unfold g_X11_share_84 g_X11_share_107
        refine ok_gI (by omega) (by omega) (by omega) (by omega) (fun g3 => ?_) (fun g3 => ?_)
        · have fs : Fx Wsc ζ1 ζ3 := fx_trans hf2 (fx_mono hf (fun x y q => by unfold We at q; unfold Wsc; omega))
          refine ok_some ⟨Or.inl ⟨⟨hzz, by omega⟩, ?_⟩, cf_cls (cf_sc hW.2.1 c1 fs), fx_trans f1 (wsc_26 fs)⟩
          rw [hk, show Int.toNat (k : Int) = k by omega, show Int.toNat (n : Int) = n by omega, ← ct_eq (by omega) (by omega)]
          show acc = _
          rw [ha, show s = ms + 1 by omega, hms]
          rfl
        · rw [e16 hf]
          have nx : ∀ mt : Nat, mt = (if k ≤ 3 then 0 else n - s) → ∀ ζ4, Fx (We 144) ζ2 ζ4 → Ok (g_X11_share_84 (n : Int) ((msk U 8 : Nat) : Int) (ms : Int) m (acc + ((smn (fun th => wdt A z k s th (n - s - th)) (mt + 1) : Nat) : Int)) ((s : Int) + 1) ζ4) (CP A ζ (QSh A z n)) := fun mt hmt ζ4 f4 => ih _ _ (s + 1) ζ4 (by omega) (by omega) (by omega) (by rw [ha, hmt]; simp only [smn]; push_cast; rfl) f4
          refine ok_gI (by omega) (by omega) (by omega) (by omega) (fun g4 => ?_) (fun g4 => ?_)
          · exact thirds s acc 0 _ (by omega) (by omega) (nx 0 (by rw [if_pos (by omega)])) FU acc 0 0 ζ3 rfl (by omega) (by rw [FU_e]; omega) (by simp [smn]) hf
          · rw [show (n : Int) - s = ((n - s : Nat) : Int) by omega]
            exact thirds s acc (n - s) _ (by omega) (by omega) (nx (n - s) (by rw [if_neg (by omega)])) FU acc 0 0 ζ3 rfl (by omega) (by rw [FU_e]; omega) (by simp [smn]) hf
    unfold g_X11_share_63 g_X11_share_79
    rw [e16 (fx_refl _ _)]
    refine ok_gI (by omega) (by omega) (by omega) (by omega) (fun g3 => ?_) (fun g3 => ?_)
    · have e : ms = 0 := by rw [hms, if_pos (by omega)]
      have := seconds FU 0 0 0 ζ2 rfl (by omega) (by rw [FU_e]; omega) rfl (fx_refl _ _)
      rw [e] at this
      exact this
    · have e : ms = n := by rw [hms, if_neg (by omega)]
      have := seconds FU 0 0 0 ζ2 rfl (by omega) (by rw [FU_e]; omega) rfl (fx_refl _ _)
      rw [e] at this
      exact this
  have e0 : (0 : Int) = ((msk (fun _ => false) 8 : Nat) : Int) := by rw [msk_0 _ (fun _ _ => rfl)]; rfl
  refine ok_gI hz.1 hz.2 (by omega) (by omega) (fun g3 => ?_) (fun g3 => ?_)
  · unfold g_X11_share_33
    refine ok_gI hz.1 hz.2 (by omega) (by omega) (fun _ => ?_) (fun c => absurd g3 c)
    rw [e0]
    exact count (fun _ => false) ζ1 (fx_refl _ _) (Or.inl g3) (fun u _ => ⟨fun c => (by cases c), fun c => absurd g3 c.1⟩) (fun r _ c => by cases c)
  · refine ok_beq (s_isInC c1.2.1.1.2 hz) (ok_bi (fun e => no ζ1 rfl (fun q => ?_)) (fun e => ?_))
    · rcases q.1 with c | c
      · exact g3 c
      · rw [e] at c; cases c
    · have iz := inz_r e
      unfold g_X11_share_33
      refine ok_gI hz.1 hz.2 (by omega) (by omega) (fun c => absurd c g3) (fun _ => ?_)
      refine ok_bind (s_leadsOf c1.2.1.1 (t := z.toNat) (by omega) (by omega)) (fun s ⟨s1, s2, s3⟩ => ?_)
      have fs3 : Fx Wsc ζ1 s.2 := fx_mono s3 (fun x y q => by unfold Wsc; omega)
      rw [s1]
      refine ok_rk rfl (by decide) ?_
      have eu : zand (ζ1.1 30 4) (zxor (zshl 1 z) (-1)) = ((msk (oth A z.toNat) 8 : Nat) : Int) := by
        have := z_out (inb A) (n := 8) (t := z.toNat) (by omega) (by omega)
        rw [show ((z.toNat : Nat) : Int) = z by omega] at this
        rw [c1.2.1.1.2]; exact this
      dsimp only
      rw [eu]
      refine count (oth A z.toNat) s.2 fs3 (Or.inr e) (fun u _ => ?_) (fun r hr _ i hi => ?_)
      · unfold oth
        rw [Bool.and_eq_true, Bool.not_eq_true', decide_eq_false_iff_not]
        exact ⟨fun q => ⟨g3, q.1, q.2⟩, fun q => ⟨q.2.1, q.2.2⟩⟩
      · rw [show 126 + 1 + r = 127 + r by omega]; exact s2 r i hr hi
