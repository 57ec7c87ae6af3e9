/-! how many members a set has: the JDK's count -/
def tn (x : Int32) : Nat := x.toBitVec.toNat
theorem tn_and (x y : Int32) : tn (x &&& y) = tn x &&& tn y := BitVec.toNat_and _ _
theorem tn_add (x y : Int32) : tn (x + y) = (tn x + tn y) % 4294967296 := BitVec.toNat_add _ _
theorem tn_sub (x y : Int32) : tn (x - y) = (4294967296 - tn y + tn x) % 4294967296 := BitVec.toNat_sub _ _
theorem tn_shr (x c : Int32) (k : Nat) (h : ((c.toUInt32 &&& Int32.toUInt32 31).toBitVec % 32#32).toNat = k) : tn ((x.toUInt32 >>> (c.toUInt32 &&& Int32.toUInt32 31)).toInt32) = tn x >>> k := by
  show (x.toBitVec >>> ((c.toUInt32 &&& Int32.toUInt32 31).toBitVec % 32#32)).toNat = _
  rw [BitVec.ushiftRight_eq', BitVec.toNat_ushiftRight, h]; rfl
def b1 (a : Nat) : Nat := a - (a >>> 1 &&& 1431655765)
def b2 (a : Nat) : Nat := (a &&& 858993459) + (a >>> 2 &&& 858993459)
def b3 (a : Nat) : Nat := (a + a >>> 4) &&& 252645135
def b4 (a : Nat) : Nat := a + a >>> 8
def b5 (a : Nat) : Nat := a + a >>> 16
theorem and_split {w x m y n : Nat} (hx : x < 2 ^ w) (hm : m < 2 ^ w) : (2 ^ w * y + x) &&& (2 ^ w * n + m) = 2 ^ w * (y &&& n) + (x &&& m) := by
  apply Nat.eq_of_testBit_eq
  intro i
  rw [Nat.testBit_and, Nat.testBit_two_pow_mul_add _ hx, Nat.testBit_two_pow_mul_add _ hm, Nat.testBit_two_pow_mul_add _ (and_lt hx)]
  by_cases c : i < w
  · simp [c]
  · simp [c]
theorem sp3 {x y z m : Nat} (hx : x < 256) (hy : y < 256) (hm : m < 256) : (256 * (256 * z + y) + x) &&& (256 * (256 * (256 * m + m) + m) + m) = 256 * (256 * (z &&& (256 * m + m)) + (y &&& m)) + (x &&& m) := by
  have h1 := and_split (w := 8) (x := x) (m := m) (y := 256 * z + y) (n := 256 * (256 * m + m) + m) hx hm
  have h2 := and_split (w := 8) (x := y) (m := m) (y := z) (n := 256 * m + m) hy hm
  simp only [show (2 : Nat) ^ 8 = 256 from rfl] at h1 h2
  rw [h1, h2]
def c1 (x : Nat) : Nat := x - (x / 2 &&& 85)
def c2 (x : Nat) : Nat := (x &&& 51) + (x / 4 &&& 51)
def c3 (x : Nat) : Nat := (x + x / 16) &&& 15
def c8 (x : Nat) : Nat := c3 (c2 (c1 x))
theorem c1_k : ∀ x, x < 256 → ∀ e, e < 2 → (x / 2 + 128 * e) &&& 85 = x / 2 &&& 85 := by decide +kernel
theorem c1_h : ∀ x, x < 256 → x / 2 &&& 21845 = x / 2 &&& 85 := by decide +kernel
theorem c1_l : ∀ x, x < 256 → (x / 2 &&& 85) ≤ x := by decide +kernel
theorem c2_k : ∀ x, x < 256 → ∀ e, e < 4 → (x / 4 + 64 * e) &&& 51 = x / 4 &&& 51 := by decide +kernel
theorem c2_h : ∀ x, x < 256 → x / 4 &&& 13107 = x / 4 &&& 51 := by decide +kernel
theorem c2_i : ∀ x, x < 256 → x &&& 13107 = x &&& 51 := by decide +kernel
theorem c2_l : ∀ x, x < 256 → c2 (c1 x) ≤ 68 ∧ c2 (c1 x) % 16 ≤ 4 := by decide +kernel
theorem c3_k : ∀ x, x ≤ 68 → ∀ e, e < 5 → (x + x / 16 + 16 * e) &&& 15 = (x + x / 16) &&& 15 := by decide +kernel
theorem c3_h : ∀ x, x ≤ 68 → (x + x / 16) &&& 3855 = (x + x / 16) &&& 15 := by decide +kernel
theorem c8_b : ∀ x, x < 256 → c8 x ≤ 8 ∧ c8 x = x % 2 + x / 2 % 2 + x / 4 % 2 + x / 8 % 2 + x / 16 % 2 + x / 32 % 2 + x / 64 % 2 + x / 128 % 2 := by decide +kernel
theorem b1_s {x y z : Nat} (hx : x < 256) (hy : y < 256) (hz : z < 256) : b1 (256 * (256 * z + y) + x) = 256 * (256 * c1 z + c1 y) + c1 x := by
  unfold b1
  have e : (256 * (256 * z + y) + x) >>> 1 = 256 * (256 * (z / 2) + (y / 2 + 128 * (z % 2))) + (x / 2 + 128 * (y % 2)) := by
    rw [Nat.shiftRight_eq_div_pow]; omega
  have s := sp3 (x := x / 2 + 128 * (y % 2)) (y := y / 2 + 128 * (z % 2)) (z := z / 2) (m := 85) (by omega) (by omega) (by decide)
  simp only [show 256 * (256 * (256 * 85 + 85) + 85) + 85 = 1431655765 from rfl, show 256 * 85 + 85 = 21845 from rfl] at s
  rw [e, s, c1_k x hx _ (by omega), c1_k y hy _ (by omega), c1_h z hz]
  have l1 := c1_l x hx
  have l2 := c1_l y hy
  have l3 := c1_l z hz
  unfold c1
  omega
theorem b2_s {x y z : Nat} (hx : x < 256) (hy : y < 256) (hz : z < 256) : b2 (256 * (256 * z + y) + x) = 256 * (256 * c2 z + c2 y) + c2 x := by
  unfold b2
  have e : (256 * (256 * z + y) + x) >>> 2 = 256 * (256 * (z / 4) + (y / 4 + 64 * (z % 4))) + (x / 4 + 64 * (y % 4)) := by
    rw [Nat.shiftRight_eq_div_pow]; omega
  have s := sp3 (x := x / 4 + 64 * (y % 4)) (y := y / 4 + 64 * (z % 4)) (z := z / 4) (m := 51) (by omega) (by omega) (by decide)
  have s2 := sp3 (x := x) (y := y) (z := z) (m := 51) hx hy (by decide)
  simp only [show 256 * (256 * (256 * 51 + 51) + 51) + 51 = 858993459 from rfl, show 256 * 51 + 51 = 13107 from rfl] at s s2
  rw [e, s, s2, c2_k x hx _ (by omega), c2_k y hy _ (by omega), c2_h z hz, c2_i z hz]
  unfold c2
  omega
theorem b3_s {x y z : Nat} (hx : x ≤ 68) (hy : y ≤ 68) (hz : z ≤ 68) (hy2 : y % 16 ≤ 4) (hz2 : z % 16 ≤ 4) : b3 (256 * (256 * z + y) + x) = 256 * (256 * c3 z + c3 y) + c3 x := by
  unfold b3
  have e : (256 * (256 * z + y) + x) >>> 4 = 256 * (256 * (z / 16) + (y / 16 + 16 * (z % 16))) + (x / 16 + 16 * (y % 16)) := by
    rw [Nat.shiftRight_eq_div_pow]; omega
  have e2 : 256 * (256 * z + y) + x + (256 * (256 * (z / 16) + (y / 16 + 16 * (z % 16))) + (x / 16 + 16 * (y % 16))) = 256 * (256 * (z + z / 16) + (y + y / 16 + 16 * (z % 16))) + (x + x / 16 + 16 * (y % 16)) := by omega
  have s := sp3 (x := x + x / 16 + 16 * (y % 16)) (y := y + y / 16 + 16 * (z % 16)) (z := z + z / 16) (m := 15) (by omega) (by omega) (by decide)
  simp only [show 256 * (256 * (256 * 15 + 15) + 15) + 15 = 252645135 from rfl, show 256 * 15 + 15 = 3855 from rfl] at s
  rw [e, e2, s, c3_k x hx _ (by omega), c3_k y hy _ (by omega), c3_h z hz]
  unfold c3
  omega
theorem c1_b : ∀ x, x < 256 → c1 x < 256 := by decide +kernel
theorem pop3 {x y z : Nat} (hx : x < 256) (hy : y < 256) (hz : z < 256) : b5 (b4 (b3 (b2 (b1 (256 * (256 * z + y) + x))))) &&& 63 = c8 x + c8 y + c8 z ∧ b1 (256 * (256 * z + y) + x) < 16777216 ∧ b2 (b1 (256 * (256 * z + y) + x)) < 16777216 ∧ b3 (b2 (b1 (256 * (256 * z + y) + x))) < 16777216 ∧ b4 (b3 (b2 (b1 (256 * (256 * z + y) + x)))) < 33554432 ∧ (256 * (256 * z + y) + x) >>> 1 &&& 1431655765 ≤ 256 * (256 * z + y) + x := by
  have l1 := c2_l x hx
  have l2 := c2_l y hy
  have l3 := c2_l z hz
  have k1 := c1_b x hx
  have k2 := c1_b y hy
  have k3 := c1_b z hz
  have m1 := (c8_b x hx).1
  have m2 := (c8_b y hy).1
  have m3 := (c8_b z hz).1
  have hl : (256 * (256 * z + y) + x) >>> 1 &&& 1431655765 ≤ 256 * (256 * z + y) + x := Nat.le_trans Nat.and_le_left (Nat.shiftRight_le _ _)
  rw [b1_s hx hy hz, b2_s k1 k2 k3, b3_s l1.1 l2.1 l3.1 l2.2 l3.2]
  have q1 : c3 (c2 (c1 x)) = c8 x := rfl
  have q2 : c3 (c2 (c1 y)) = c8 y := rfl
  have q3 : c3 (c2 (c1 z)) = c8 z := rfl
  rw [q1, q2, q3]
  refine ⟨?_, by omega, by omega, by omega, ?_, hl⟩
  · unfold b5 b4
    rw [show (63 : Nat) = 2 ^ 6 - 1 from rfl, Nat.and_two_pow_sub_one_eq_mod, Nat.shiftRight_eq_div_pow, Nat.shiftRight_eq_div_pow]
    generalize c8 x = p at *
    generalize c8 y = q at *
    generalize c8 z = r at *
    clear l1 l2 l3 k1 k2 k3 hl
    have e1 : (256 * (256 * r + q) + p) / 2 ^ 8 = 256 * r + q := by omega
    rw [e1]
    have e2 : (256 * (256 * r + q) + p + (256 * r + q)) / 2 ^ 16 = r := by omega
    rw [e2]
    omega
  · unfold b4
    rw [Nat.shiftRight_eq_div_pow]
    omega
theorem zbc_n {x y z : Nat} (hx : x < 256) (hy : y < 256) (hz : z < 256) : zbc ((256 * (256 * z + y) + x : Nat) : Int) = ((c8 x + c8 y + c8 z : Nat) : Int) := by
  obtain ⟨p1, p2, p3, p4, p5, p6⟩ := pop3 hx hy hz
  have ha : 256 * (256 * z + y) + x < 16777216 := by omega
  generalize 256 * (256 * z + y) + x = a at *
  unfold zbc f_J6_bitCount_0f7a4
  apply i32n
  · have e0 : tn (mJ a) = a := mJn (by omega)
    have d1 : tn (mJ a - (((mJ a).toUInt32 >>> ((1 : Int32).toUInt32 &&& Int32.toUInt32 31)).toInt32 &&& 1431655765)) = b1 a := by
      rw [tn_sub, tn_and, tn_shr _ _ 1 (by decide), e0, show tn 1431655765 = 1431655765 from by decide]
      unfold b1 at *; omega
    generalize mJ a - (((mJ a).toUInt32 >>> ((1 : Int32).toUInt32 &&& Int32.toUInt32 31)).toInt32 &&& 1431655765) = v1 at *
    have d2 : tn ((v1 &&& 858993459) + ((v1.toUInt32 >>> ((2 : Int32).toUInt32 &&& Int32.toUInt32 31)).toInt32 &&& 858993459)) = b2 (b1 a) := by
      rw [tn_add, tn_and, tn_and, tn_shr _ _ 2 (by decide), d1, show tn 858993459 = 858993459 from by decide]
      unfold b2 at *; omega
    generalize (v1 &&& 858993459) + ((v1.toUInt32 >>> ((2 : Int32).toUInt32 &&& Int32.toUInt32 31)).toInt32 &&& 858993459) = v2 at *
    have d3 : tn ((v2 + (v2.toUInt32 >>> ((4 : Int32).toUInt32 &&& Int32.toUInt32 31)).toInt32) &&& 252645135) = b3 (b2 (b1 a)) := by
      rw [tn_and, tn_add, tn_shr _ _ 4 (by decide), d2, show tn 252645135 = 252645135 from by decide]
      have : (b2 (b1 a) + b2 (b1 a) >>> 4) % 4294967296 = b2 (b1 a) + b2 (b1 a) >>> 4 := by
        have := Nat.shiftRight_le (b2 (b1 a)) 4
        omega
      rw [this]; rfl
    generalize (v2 + (v2.toUInt32 >>> ((4 : Int32).toUInt32 &&& Int32.toUInt32 31)).toInt32) &&& 252645135 = v3 at *
    have d4 : tn (v3 + (v3.toUInt32 >>> ((8 : Int32).toUInt32 &&& Int32.toUInt32 31)).toInt32) = b4 (b3 (b2 (b1 a))) := by
      rw [tn_add, tn_shr _ _ 8 (by decide), d3]
      unfold b4 at *; omega
    generalize v3 + (v3.toUInt32 >>> ((8 : Int32).toUInt32 &&& Int32.toUInt32 31)).toInt32 = v4 at *
    show tn ((v4 + (v4.toUInt32 >>> ((16 : Int32).toUInt32 &&& Int32.toUInt32 31)).toInt32) &&& 63) = _
    rw [tn_and, tn_add, tn_shr _ _ 16 (by decide), d4, show tn 63 = 63 from by decide, ← p1]
    have : (b4 (b3 (b2 (b1 a))) + b4 (b3 (b2 (b1 a))) >>> 16) % 4294967296 = b5 (b4 (b3 (b2 (b1 a)))) := by
      have := Nat.shiftRight_le (b4 (b3 (b2 (b1 a)))) 16
      unfold b5
      omega
    rw [this]
  · have m1 := (c8_b x hx).1
    have m2 := (c8_b y hy).1
    have m3 := (c8_b z hz).1
    omega
/-- how many below n -/
def bc (p : Nat → Bool) : Nat → Nat
  | 0 => 0
  | n + 1 => bc p n + (if p n then 1 else 0)
theorem bc_congr {p q : Nat → Bool} {n : Nat} (h : ∀ i, i < n → p i = q i) : bc p n = bc q n := by
  induction n with
  | zero => rfl
  | succ n ih =>
    unfold bc
    rw [ih (fun i hi => h i (by omega)), h n (by omega)]
theorem bc_le (p : Nat → Bool) (n : Nat) : bc p n ≤ n := by
  induction n with
  | zero => exact Nat.le_refl 0
  | succ n ih => unfold bc; split <;> omega
theorem bc_24 (p : Nat → Bool) {n m : Nat} (h : n ≤ m) : bc (fun i => decide (i < n) && p i) m = bc p n := by
  induction m with
  | zero =>
    have : n = 0 := by omega
    subst this; rfl
  | succ m ih =>
    by_cases c : n = m + 1
    · subst c
      exact bc_congr (fun i hi => by simp [hi])
    · show bc (fun i => decide (i < n) && p i) m + (if (decide (m < n) && p m) = true then 1 else 0) = _
      rw [ih (by omega)]
      simp [show ¬ m < n by omega]
theorem tb_mod (a i : Nat) : a / 2 ^ i % 2 = if a.testBit i = true then 1 else 0 := by
  rw [Nat.testBit_eq_decide_div_mod_eq]
  by_cases c : a / 2 ^ i % 2 = 1
  · simp [c]
  · simp [c]; omega
theorem mm0 (a : Nat) : a % 256 % 2 = a / 2 ^ 0 % 2 := by omega
theorem mm1 (a : Nat) : a % 256 / 2 % 2 = a / 2 ^ 1 % 2 := by omega
theorem mm2 (a : Nat) : a % 256 / 4 % 2 = a / 2 ^ 2 % 2 := by omega
theorem mm3 (a : Nat) : a % 256 / 8 % 2 = a / 2 ^ 3 % 2 := by omega
theorem mm4 (a : Nat) : a % 256 / 16 % 2 = a / 2 ^ 4 % 2 := by omega
theorem mm5 (a : Nat) : a % 256 / 32 % 2 = a / 2 ^ 5 % 2 := by omega
theorem mm6 (a : Nat) : a % 256 / 64 % 2 = a / 2 ^ 6 % 2 := by omega
theorem mm7 (a : Nat) : a % 256 / 128 % 2 = a / 2 ^ 7 % 2 := by omega
theorem mm8 (a : Nat) : a / 256 % 256 % 2 = a / 2 ^ 8 % 2 := by omega
theorem mm9 (a : Nat) : a / 256 % 256 / 2 % 2 = a / 2 ^ 9 % 2 := by omega
theorem mm10 (a : Nat) : a / 256 % 256 / 4 % 2 = a / 2 ^ 10 % 2 := by omega
theorem mm11 (a : Nat) : a / 256 % 256 / 8 % 2 = a / 2 ^ 11 % 2 := by omega
theorem mm12 (a : Nat) : a / 256 % 256 / 16 % 2 = a / 2 ^ 12 % 2 := by omega
theorem mm13 (a : Nat) : a / 256 % 256 / 32 % 2 = a / 2 ^ 13 % 2 := by omega
theorem mm14 (a : Nat) : a / 256 % 256 / 64 % 2 = a / 2 ^ 14 % 2 := by omega
theorem mm15 (a : Nat) : a / 256 % 256 / 128 % 2 = a / 2 ^ 15 % 2 := by omega
theorem mm16 (a : Nat) : a / 65536 % 2 = a / 2 ^ 16 % 2 := by omega
theorem mm17 (a : Nat) : a / 65536 / 2 % 2 = a / 2 ^ 17 % 2 := by omega
theorem mm18 (a : Nat) : a / 65536 / 4 % 2 = a / 2 ^ 18 % 2 := by omega
theorem mm19 (a : Nat) : a / 65536 / 8 % 2 = a / 2 ^ 19 % 2 := by omega
theorem mm20 (a : Nat) : a / 65536 / 16 % 2 = a / 2 ^ 20 % 2 := by omega
theorem mm21 (a : Nat) : a / 65536 / 32 % 2 = a / 2 ^ 21 % 2 := by omega
theorem mm22 (a : Nat) : a / 65536 / 64 % 2 = a / 2 ^ 22 % 2 := by omega
theorem mm23 (a : Nat) : a / 65536 / 128 % 2 = a / 2 ^ 23 % 2 := by omega
theorem zbc_msk (p : Nat → Bool) {n : Nat} (hn : n ≤ 24) : zbc ((msk p n : Nat) : Int) = ((bc p n : Nat) : Int) := by
  have hl : msk p n < 16777216 := Nat.lt_of_lt_of_le (msk_lt p n) (Nat.pow_le_pow_right (n := 2) (j := 24) (by decide) hn)
  have e : msk p n = 256 * (256 * (msk p n / 65536) + msk p n / 256 % 256) + msk p n % 256 := by omega
  rw [e, zbc_n (by omega) (by omega) (by omega)]
  clear e
  congr 1
  rw [(c8_b (msk p n % 256) (by omega)).2, (c8_b (msk p n / 256 % 256) (by omega)).2, (c8_b (msk p n / 65536) (by omega)).2, ← bc_24 p hn]
  have t : ∀ i, msk p n / 2 ^ i % 2 = if (decide (i < n) && p i) = true then 1 else 0 := fun i => by rw [tb_mod, msk_tb]
  have t0 := t 0
  have t1 := t 1
  have t2 := t 2
  have t3 := t 3
  have t4 := t 4
  have t5 := t 5
  have t6 := t 6
  have t7 := t 7
  have t8 := t 8
  have t9 := t 9
  have t10 := t 10
  have t11 := t 11
  have t12 := t 12
  have t13 := t 13
  have t14 := t 14
  have t15 := t 15
  have t16 := t 16
  have t17 := t 17
  have t18 := t 18
  have t19 := t 19
  have t20 := t 20
  have t21 := t 21
  have t22 := t 22
  have t23 := t 23
  simp only [bc, ← t0, ← t1, ← t2, ← t3, ← t4, ← t5, ← t6, ← t7, ← t8, ← t9, ← t10, ← t11, ← t12, ← t13, ← t14, ← t15, ← t16, ← t17, ← t18, ← t19, ← t20, ← t21, ← t22, ← t23]
  generalize msk p n = a
  clear t t0 t1 t2 t3 t4 t5 t6 t7 t8 t9 t10 t11 t12 t13 t14 t15 t16 t17 t18 t19 t20 t21 t22 t23
  rw [mm0, mm1, mm2, mm3, mm4, mm5, mm6, mm7, mm8, mm9, mm10, mm11, mm12, mm13, mm14, mm15, mm16, mm17, mm18, mm19, mm20, mm21, mm22, mm23]
  simp only [Nat.zero_add, Nat.add_assoc]
theorem bc_one {p : Nat → Bool} {n i : Nat} (hi : i < n) (h : p i = true) : 1 ≤ bc p n := by
  induction n with
  | zero => omega
  | succ n ih =>
    unfold bc
    by_cases c : i = n
    · subst c; rw [if_pos h]; omega
    · have := ih (by omega); omega
theorem bc_two {p : Nat → Bool} {n i j : Nat} (hi : i < n) (hj : j < n) (hne : i ≠ j) (h : p i = true) (g : p j = true) : 2 ≤ bc p n := by
  induction n with
  | zero => omega
  | succ n ih =>
    unfold bc
    by_cases c : i = n
    · subst c; rw [if_pos h]; have := bc_one (n := i) (by omega : j < i) g; omega
    · by_cases e : j = n
      · subst e; rw [if_pos g]; have := bc_one (n := j) (by omega : i < j) h; omega
      · have := ih (by omega) (by omega); omega
