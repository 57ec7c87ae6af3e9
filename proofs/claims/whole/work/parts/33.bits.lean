/-! sets as whole numbers -/
theorem i32n {x : Int32} {n : Nat} (h : x.toBitVec.toNat = n) (hn : n < 2147483648) : x.toInt = (n : Int) := by
  show x.toBitVec.toInt = _
  rw [BitVec.toInt_eq_toNat_of_lt (by rw [h]; omega), h]
theorem mJn {a : Nat} (h : a < 4294967296) : (mJ (a : Int)).toBitVec.toNat = a := by
  unfold mJ
  show (BitVec.ofInt 32 (a : Int)).toNat = a
  rw [BitVec.ofInt_natCast, BitVec.toNat_ofNat]
  omega
theorem and_lt {a b : Nat} {n : Nat} (h : a < n) : a &&& b < n := Nat.lt_of_le_of_lt Nat.and_le_left h
theorem zand_n {a b : Nat} (ha : a < 2147483648) (hb : b < 2147483648) : zand a b = ((a &&& b : Nat) : Int) := by
  apply i32n
  · show ((mJ a).toBitVec &&& (mJ b).toBitVec).toNat = _
    rw [BitVec.toNat_and, mJn (by omega), mJn (by omega)]
  · exact and_lt ha
theorem zor_n {a b : Nat} (ha : a < 2147483648) (hb : b < 2147483648) : zor a b = ((a ||| b : Nat) : Int) := by
  apply i32n
  · show ((mJ a).toBitVec ||| (mJ b).toBitVec).toNat = _
    rw [BitVec.toNat_or, mJn (by omega), mJn (by omega)]
  · exact Nat.or_lt_two_pow (n := 31) ha hb
theorem zshl_n {t : Nat} (h : t < 31) : zshl 1 t = ((2 ^ t : Nat) : Int) := by
  have : ∀ t, t < 31 → zshl 1 (t : Nat) = ((2 ^ t : Nat) : Int) := by decide +kernel
  exact this t h
def clr (a b : Nat) : Nat := a ^^^ (a &&& b)
theorem clr_tb (a b i : Nat) : (clr a b).testBit i = (a.testBit i && !b.testBit i) := by
  unfold clr
  rw [Nat.testBit_xor, Nat.testBit_and]
  cases a.testBit i <;> cases b.testBit i <;> rfl
theorem clr_lt {a b n : Nat} (h : a < 2 ^ n) : clr a b < 2 ^ n := Nat.xor_lt_two_pow h (and_lt h)
theorem zclr_n {a b : Nat} (ha : a < 2147483648) (hb : b < 2147483648) : zand a (zxor b (-1)) = ((clr a b : Nat) : Int) := by
  apply i32n
  · show ((mJ a).toBitVec &&& (mJ (zxor b (-1))).toBitVec).toNat = _
    have e : mJ (zxor b (-1)) = mJ b ^^^ mJ (-1) := Int32.ofInt_toInt _
    rw [e]
    have e2 : (mJ b ^^^ mJ (-1)).toBitVec = ~~~(mJ b).toBitVec := by
      show (mJ b).toBitVec ^^^ (mJ (-1)).toBitVec = _
      have : (mJ (-1)).toBitVec = BitVec.allOnes 32 := by decide
      rw [this, BitVec.xor_allOnes]
    rw [e2]
    apply Nat.eq_of_testBit_eq
    intro i
    rw [clr_tb, BitVec.testBit_toNat, BitVec.getLsbD_and, BitVec.getLsbD_not, ← BitVec.testBit_toNat, ← BitVec.testBit_toNat, mJn (by omega), mJn (by omega)]
    by_cases c : i < 32
    · simp [c]
    · have : a.testBit i = false := Nat.testBit_lt_two_pow (Nat.lt_of_lt_of_le ha (by
        have := Nat.pow_le_pow_right (n := 2) (by decide) (show 31 ≤ i by omega)
        omega))
      simp [this]
  · exact clr_lt (n := 31) ha
theorem zshr_n {a t : Nat} (ha : a < 2147483648) (h : t < 31) : zshr a t = ((a >>> t : Nat) : Int) := by
  have e : ∀ t, t < 31 → (((mJ (t : Nat)) &&& 31).toBitVec.smod 32).toNat = t := by decide +kernel
  apply i32n
  · show ((mJ a).toBitVec.sshiftRight (((mJ (t : Nat)) &&& 31).toBitVec.smod 32).toNat).toNat = _
    rw [e t h, BitVec.sshiftRight_eq_of_msb_false, BitVec.toNat_ushiftRight, mJn (by omega)]
    rw [BitVec.msb_eq_decide, mJn (by omega)]
    simp; omega
  · exact Nat.lt_of_le_of_lt (Nat.shiftRight_le a t) ha
/-- the bits below n at which p holds -/
def msk (p : Nat → Bool) : Nat → Nat
  | 0 => 0
  | n + 1 => msk p n + (if p n then 2 ^ n else 0)
theorem msk_lt (p : Nat → Bool) (n : Nat) : msk p n < 2 ^ n := by
  induction n with
  | zero => exact Nat.one_pos
  | succ n ih =>
    unfold msk
    rw [Nat.pow_succ]
    split <;> omega
theorem msk_tb (p : Nat → Bool) (n i : Nat) : (msk p n).testBit i = (decide (i < n) && p i) := by
  induction n with
  | zero => simp [msk]
  | succ n ih =>
    have hl := msk_lt p n
    unfold msk
    by_cases c : p n = true
    · rw [if_pos c, Nat.add_comm]
      by_cases e : i = n
      · subst e
        rw [Nat.testBit_two_pow_add_eq, Nat.testBit_lt_two_pow hl]
        simp [c]
      · rcases Nat.lt_or_gt_of_ne e with q | q
        · rw [Nat.testBit_two_pow_add_gt q, ih]
          simp [q, Nat.lt_succ_of_lt q]
        · rw [Nat.testBit_lt_two_pow (Nat.lt_of_lt_of_le (show 2 ^ n + msk p n < 2 ^ (n + 1) by rw [Nat.pow_succ]; omega) (Nat.pow_le_pow_right (by decide) q))]
          simp [show ¬ i < n + 1 by omega]
    · rw [if_neg c, Nat.add_zero, ih]
      by_cases e : i = n
      · subst e
        simp at c
        simp [c]
      · by_cases q : i < n
        · simp [q, Nat.lt_succ_of_lt q]
        · simp [q, show ¬ i < n + 1 by omega]
theorem msk_of {a n : Nat} {p : Nat → Bool} (ha : a < 2 ^ n) (h : ∀ i, i < n → a.testBit i = p i) : a = msk p n := by
  apply Nat.eq_of_testBit_eq
  intro i
  rw [msk_tb]
  by_cases c : i < n
  · simp [c, h i c]
  · simp [c]
    exact Nat.testBit_lt_two_pow (Nat.lt_of_lt_of_le ha (Nat.pow_le_pow_right (by decide) (by omega)))
theorem msk_congr {p q : Nat → Bool} {n : Nat} (h : ∀ i, i < n → p i = q i) : msk p n = msk q n := msk_of (msk_lt p n) (fun i hi => by rw [msk_tb]; simp [hi, h i hi])
theorem msk_inj {p q : Nat → Bool} {n : Nat} (h : msk p n = msk q n) {i : Nat} (hi : i < n) : p i = q i := by
  have := congrArg (fun a => Nat.testBit a i) h
  simpa [msk_tb, hi] using this
theorem msk_31 (p : Nat → Bool) {n : Nat} (h : n ≤ 31) : msk p n < 2147483648 := Nat.lt_of_lt_of_le (msk_lt p n) (Nat.pow_le_pow_right (n := 2) (by decide) h)
theorem two_31 {t : Nat} (h : t < 31) : 2 ^ t < 2147483648 := Nat.pow_lt_pow_right (a := 2) (by decide) h
/-- a member put in, taken out, asked for -/
theorem z_in (p : Nat → Bool) {n t : Nat} (hn : n ≤ 31) (ht : t < n) : zor (msk p n) (zshl 1 t) = ((msk (fun i => p i || decide (i = t)) n : Nat) : Int) := by
  rw [zshl_n (by omega), zor_n (msk_31 p hn) (two_31 (by omega))]
  congr 1
  apply msk_of (Nat.or_lt_two_pow (msk_lt p n) (Nat.pow_lt_pow_right (by decide) ht))
  intro i hi
  rw [Nat.testBit_or, msk_tb, Nat.testBit_two_pow]
  simp [hi, eq_comm]
theorem z_out (p : Nat → Bool) {n t : Nat} (hn : n ≤ 31) (ht : t < n) : zand (msk p n) (zxor (zshl 1 t) (-1)) = ((msk (fun i => p i && !decide (i = t)) n : Nat) : Int) := by
  rw [zshl_n (by omega), zclr_n (msk_31 p hn) (two_31 (by omega))]
  congr 1
  apply msk_of (clr_lt (msk_lt p n))
  intro i hi
  rw [clr_tb, msk_tb, Nat.testBit_two_pow]
  simp [hi, eq_comm]
theorem z_and (p q : Nat → Bool) {n : Nat} (hn : n ≤ 31) : zand (msk p n) (msk q n) = ((msk (fun i => p i && q i) n : Nat) : Int) := by
  rw [zand_n (msk_31 p hn) (msk_31 q hn)]
  congr 1
  apply msk_of (and_lt (msk_lt p n))
  intro i hi
  rw [Nat.testBit_and, msk_tb, msk_tb]
  simp [hi]
theorem z_or (p q : Nat → Bool) {n : Nat} (hn : n ≤ 31) : zor (msk p n) (msk q n) = ((msk (fun i => p i || q i) n : Nat) : Int) := by
  rw [zor_n (msk_31 p hn) (msk_31 q hn)]
  congr 1
  apply msk_of (Nat.or_lt_two_pow (msk_lt p n) (msk_lt q n))
  intro i hi
  rw [Nat.testBit_or, msk_tb, msk_tb]
  simp [hi]
theorem z_andn (p q : Nat → Bool) {n : Nat} (hn : n ≤ 31) : zand (msk p n) (zxor (msk q n) (-1)) = ((msk (fun i => p i && !q i) n : Nat) : Int) := by
  rw [zclr_n (msk_31 p hn) (msk_31 q hn)]
  congr 1
  apply msk_of (clr_lt (msk_lt p n))
  intro i hi
  rw [clr_tb, msk_tb, msk_tb]
  simp [hi]
theorem z_bit (p : Nat → Bool) {n t : Nat} (hn : n ≤ 31) (ht : t < n) : zand (msk p n) (zshl 1 t) = if p t = true then ((2 ^ t : Nat) : Int) else 0 := by
  rw [zshl_n (by omega), zand_n (msk_31 p hn) (two_31 (by omega))]
  have : msk p n &&& 2 ^ t = if p t = true then 2 ^ t else 0 := by
    apply Nat.eq_of_testBit_eq
    intro i
    rw [Nat.testBit_and, msk_tb, Nat.testBit_two_pow]
    by_cases c : p t = true
    · rw [if_pos c, Nat.testBit_two_pow]
      by_cases e : t = i
      · subst e; simp [c, ht]
      · simp [e]
    · rw [if_neg c, Nat.zero_testBit]
      by_cases e : t = i
      · subst e; simp at c; simp [c]
      · simp [e]
  rw [this]
  split <;> rfl
theorem z_bit0 (p : Nat → Bool) {n t : Nat} (hn : n ≤ 31) (ht : t < n) : zand (msk p n) (zshl 1 t) = 0 ↔ p t = false := by
  rw [z_bit p hn ht]
  have : 0 < 2 ^ t := Nat.two_pow_pos t
  by_cases c : p t = true
  · rw [if_pos c, c]
    constructor
    · intro h
      have := Int.natCast_eq_zero.mp h
      omega
    · intro h; cases h
  · rw [if_neg c]; simp at c; simp [c]
theorem z_sh (p : Nat → Bool) {n t : Nat} (hn : n ≤ 31) (ht : t < n) : zand (zshr (msk p n) t) 1 = if p t = true then 1 else 0 := by
  rw [zshr_n (msk_31 p hn) (by omega)]
  have h1 : msk p n >>> t < 2147483648 := Nat.lt_of_le_of_lt (Nat.shiftRight_le _ t) (msk_31 p hn)
  have := zand_n (a := msk p n >>> t) (b := 1) h1 (by decide)
  have e : ((1 : Nat) : Int) = 1 := rfl
  rw [e] at this
  rw [this]
  have k := msk_tb p n t
  rw [Nat.testBit_eq_decide_div_mod_eq] at k
  rw [Nat.shiftRight_eq_div_pow, Nat.and_one_is_mod]
  by_cases c : p t = true
  · rw [if_pos c]
    have : msk p n / 2 ^ t % 2 = 1 := by
      apply of_decide_eq_true
      rw [k]; simp [ht, c]
    rw [this]; rfl
  · rw [if_neg c]
    simp at c
    have : ¬ msk p n / 2 ^ t % 2 = 1 := by
      apply of_decide_eq_false
      rw [k]; simp [c]
    have : msk p n / 2 ^ t % 2 = 0 := by omega
    rw [this]; rfl
theorem msk_0 (p : Nat → Bool) {n : Nat} (h : ∀ i, i < n → p i = false) : msk p n = 0 := by
  have := msk_congr (p := p) (q := fun _ => false) (n := n) h
  rw [this]
  clear this h
  induction n with
  | zero => rfl
  | succ n ih => unfold msk; rw [ih]; rfl
theorem msk_ne {p : Nat → Bool} {n : Nat} (h : msk p n ≠ 0) : ∃ i, i < n ∧ p i = true := by
  apply Classical.byContradiction
  intro c
  exact h (msk_0 p (fun i hi => by
    cases e : p i with
    | false => rfl
    | true => exact absurd ⟨i, hi, e⟩ c))
theorem msk_none {p : Nat → Bool} {n : Nat} : msk p n = 0 ↔ ∀ i, i < n → p i = false := by
  constructor
  · intro h i hi
    have := msk_tb p n i
    rw [h] at this
    simpa [hi] using this.symm
  · exact msk_0 p
