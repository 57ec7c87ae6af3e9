/-! whole numbers in place of machine numbers: state of whole numbers, rows that tie a step over them to a step of the functions f_ -/
def mJ (a : Int) : Int32 := Int32.ofInt a
def mL (a : Int) : Int64 := Int64.ofInt a
abbrev ZS : Type := (Nat → Nat → Int) × (Nat → Nat → Int) × (Nat → Nat → Option Nat)
def zI (ζ : ZS) (a k : Nat) (v : Int) : ZS := (u2 ζ.1 a k v, ζ.2.1, ζ.2.2)
def zJ (ζ : ZS) (a k : Nat) (v : Int) : ZS := (ζ.1, u2 ζ.2.1 a k v, ζ.2.2)
def zR (ζ : ZS) (a k : Nat) (v : Option Nat) : ZS := (ζ.1, ζ.2.1, u2 ζ.2.2 a k v)
/-- the references that stay -/
def ptL (c : Nat) : List (Nat × Nat) := match c with
  | 0 => [(1, 1), (4, 2), (5, 3), (6, 4), (9, 5), (10, 6), (11, 7), (12, 8), (13, 9), (14, 10), (15, 11), (16, 12), (17, 13), (18, 14), (19, 15), (21, 16), (22, 17), (25, 18), (27, 19), (28, 20), (29, 21), (30, 22), (31, 23), (35, 24)]
  | 26 => [(0, 27), (1, 29), (2, 30), (3, 50), (4, 125), (5, 141), (6, 142), (7, 144), (8, 145), (9, 146), (10, 147), (11, 148), (12, 149)]
  | 27 => [(0, 28)]
  | 29 => [(0, 27)]
  | 30 => [(0, 31), (1, 40), (2, 49)]
  | 50 => [(0, 51), (1, 64), (2, 68), (3, 72)]
  | 125 => [(0, 30), (1, 50), (2, 126), (3, 135), (4, 136), (5, 137), (6, 138), (7, 139), (8, 140)]
  | 141 => [(0, 72)]
  | 142 => [(0, 50), (1, 125), (2, 143)]
  | _ => []
def pt (c k : Nat) : Option Nat :=
  if kd c = 1 then (if k < 3 then some (c + 1 + k) else none)
  else if kd c = 0 then (if k < 9 then some (c + 1 + k) else none)
  else if kd c = 18 then (if k < ln c then some (c + 1 + k) else none)
  else if kd c = 17 then (if k < 13 then some (73 + 4 * k) else none)
  else (ptL c).lookup k
def Sh (ρ : Nat → Nat → Option Nat) : Prop := ∀ c k b, pt c k = some b → ρ c k = some b
def Rp (ζ : ZS) (σ : HS) : Prop := (∀ c k, σ.1 c k = mJ (ζ.1 c k)) ∧ (∀ c k, σ.2.1 c k = mL (ζ.2.1 c k)) ∧ σ.2.2 = ζ.2.2 ∧ Sh ζ.2.2
theorem kd_all (P : Nat → Prop) (n : Nat) (hn : n ≠ 99) (h : ∀ a, a < 170 → kd a = n → P a) : ∀ a, kd a = n → P a := by
  intro a ha
  by_cases c : a < 170
  · exact h a c ha
  · exfalso
    apply hn
    rw [← ha]
    have h0 : kdT.length = 170 := by decide +kernel
    unfold kd
    rw [List.getD_eq_getElem?_getD, List.getElem?_eq_none (by omega)]
    rfl
theorem kd_c1 : ∀ a, kd a = 1 → kd (a + 1) = 15 ∧ kd (a + 2) = 14 ∧ kd (a + 3) = 15 ∧ ln (a + 1) = 176 ∧ ln (a + 2) = 44 ∧ ln (a + 3) = 44 := kd_all _ 1 (by decide) (by decide +kernel)
theorem kd_c0 : ∀ a, kd a = 0 → ((∀ k, k < 9 → kd (a + 1 + k) = 14) ∧ (∀ k, k < 3 → ln (a + 1 + k) = 4) ∧ ∀ k, k < 9 → 3 ≤ k → ln (a + 1 + k) = 12) ∧ (a = 150 ∨ a = 160) := kd_all _ 0 (by decide) (by decide +kernel)
theorem kd_c18 : ∀ a, kd a = 18 → (∀ k, k < ln a → kd (a + 1 + k) = 14 ∧ ln (a + 1 + k) = 4) ∧ ln a < 13 ∧ (a = 31 ∨ a = 40 ∨ a = 51 ∨ a = 126) := kd_all _ 18 (by decide) (by decide +kernel)
theorem kd_c17 : ∀ k, k < 13 → kd (73 + 4 * k) = 1 := by decide +kernel
theorem ln_le : ∀ a, ln a ≤ 3456 := by
  intro a
  by_cases c : a < 170
  · revert a; decide +kernel
  · have h0 : kdT.length = 170 := by decide +kernel
    unfold ln
    rw [List.getD_eq_getElem?_getD, List.getElem?_eq_none (by omega)]
    decide
theorem pt1 {ρ : Nat → Nat → Option Nat} (h : Sh ρ) {c k : Nat} (hc : kd c = 1) (hk : k < 3) : ρ c k = some (c + 1 + k) := h c k _ (by unfold pt; rw [if_pos hc, if_pos hk])
theorem pt0 {ρ : Nat → Nat → Option Nat} (h : Sh ρ) {c k : Nat} (hc : kd c = 0) (hk : k < 9) : ρ c k = some (c + 1 + k) := h c k _ (by unfold pt; rw [if_neg (by rw [hc]; decide), if_pos hc, if_pos hk])
theorem pt18 {ρ : Nat → Nat → Option Nat} (h : Sh ρ) {c k : Nat} (hc : kd c = 18) (hk : k < ln c) : ρ c k = some (c + 1 + k) := h c k _ (by unfold pt; rw [if_neg (by rw [hc]; decide), if_neg (by rw [hc]; decide), if_pos hc, if_pos hk])
theorem pt17 {ρ : Nat → Nat → Option Nat} (h : Sh ρ) {k : Nat} (hk : k < 13) : ρ 72 k = some (73 + 4 * k) := h 72 k _ (by unfold pt; rw [if_neg (by decide), if_neg (by decide), if_neg (by decide), if_pos (by decide), if_pos hk])
theorem pts {ρ : Nat → Nat → Option Nat} (h : Sh ρ) (c k b : Nat) (e : pt c k = some b) : ρ c k = some b := h c k b e
/-- what the step over whole numbers gives, the function gives too -/
def Sm {α β : Type} (R : α → β → Prop) (X : Option α) (Y : Option β) : Prop := ∀ x, X = some x → ∃ y, Y = some y ∧ R x y
def QI (p : Int × ZS) (q : Int32 × HS) : Prop := q.1 = mJ p.1 ∧ Rp p.2 q.2
def QJ (p : Int × ZS) (q : Int64 × HS) : Prop := q.1 = mL p.1 ∧ Rp p.2 q.2
def QR (p : Nat × ZS) (q : Nat × HS) : Prop := q.1 = p.1 ∧ Rp p.2 q.2
def QV (p : ZS) (q : HS) : Prop := Rp p q
abbrev i32 (a : Int) : Prop := -2147483648 ≤ a ∧ a < 2147483648
abbrev i64 (a : Int) : Prop := -9223372036854775808 ≤ a ∧ a < 9223372036854775808
def gI {α : Type} (a b : Int) (c : Prop) [Decidable c] (X Y : Option α) : Option α := if i32 a ∧ i32 b then (if c then X else Y) else none
def gJ {α : Type} (a b : Int) (c : Prop) [Decidable c] (X Y : Option α) : Option α := if i64 a ∧ i64 b then (if c then X else Y) else none
def gk {α : Type} (i : Int) (n : Nat) (X : Option α) : Option α := if 0 ≤ i ∧ i < n then X else none
def gd {α : Type} (a b : Int) (X : Option α) : Option α := if i32 a ∧ i32 b ∧ 0 < b then X else none
def gdJ {α : Type} (a b : Int) (X : Option α) : Option α := if i64 a ∧ i64 b ∧ 0 < b then X else none
def gw {α : Type} (a : Int) (X : Option α) : Option α := if i32 a then X else none
def gz {α : Type} (a : Int) (X : Option α) : Option α := if a = 0 ∨ a = 1 then X else none
def zand (a b : Int) : Int := (mJ a &&& mJ b).toInt
def zor (a b : Int) : Int := (mJ a ||| mJ b).toInt
def zxor (a b : Int) : Int := (mJ a ^^^ mJ b).toInt
def zlxor (a b : Int) : Int := (mL a ^^^ mL b).toInt
def zshl (a b : Int) : Int := (mJ a <<< (mJ b &&& 31)).toInt
def zshr (a b : Int) : Int := (mJ a >>> (mJ b &&& 31)).toInt
def zlsr (a b : Int) : Int := (mL a >>> ((mJ b).toInt64 &&& 63)).toInt
def zlur (a b : Int) : Int := (((mL a).toUInt64 >>> ((mJ b).toInt64.toUInt64 &&& Int64.toUInt64 63)).toInt64).toInt
def zi2b (a : Int) : Int := ((mJ a).toInt8.toInt32).toInt
def zbyt (a : Int) : Int := (vp_nar .byte (mJ a)).toInt
theorem mJ_t {a : Int} (h : i32 a) : (mJ a).toInt = a := Int32.toInt_ofInt_of_le (by have := h.1; omega) (by have := h.2; omega)
theorem mL_t {a : Int} (h : i64 a) : (mL a).toInt = a := Int64.toInt_ofInt_of_le (by have := h.1; omega) (by have := h.2; omega)
theorem pa {x y : Int32} {a b : Int} (p : x = mJ a) (q : y = mJ b) : x + y = mJ (a + b) := by rw [p, q]; exact (Int32.ofInt_add a b).symm
theorem ps {x y : Int32} {a b : Int} (p : x = mJ a) (q : y = mJ b) : x - y = mJ (a - b) := by rw [p, q]; exact (Int32.ofInt_sub a b).symm
theorem pm {x y : Int32} {a b : Int} (p : x = mJ a) (q : y = mJ b) : x * y = mJ (a * b) := by rw [p, q]; exact (Int32.ofInt_mul a b).symm
theorem pn {x : Int32} {a : Int} (p : x = mJ a) : -x = mJ (-a) := by rw [p]; exact (Int32.ofInt_neg a).symm
theorem paJ {x y : Int64} {a b : Int} (p : x = mL a) (q : y = mL b) : x + y = mL (a + b) := by rw [p, q]; exact (Int64.ofInt_add a b).symm
theorem psJ {x y : Int64} {a b : Int} (p : x = mL a) (q : y = mL b) : x - y = mL (a - b) := by rw [p, q]; exact (Int64.ofInt_sub a b).symm
theorem pmJ {x y : Int64} {a b : Int} (p : x = mL a) (q : y = mL b) : x * y = mL (a * b) := by rw [p, q]; exact (Int64.ofInt_mul a b).symm
theorem pnJ {x : Int64} {a : Int} (p : x = mL a) : -x = mL (-a) := by rw [p]; exact (Int64.ofInt_neg a).symm
theorem pand {x y : Int32} {a b : Int} (p : x = mJ a) (q : y = mJ b) : x &&& y = mJ (zand a b) := by rw [p, q]; exact (Int32.ofInt_toInt _).symm
theorem por {x y : Int32} {a b : Int} (p : x = mJ a) (q : y = mJ b) : x ||| y = mJ (zor a b) := by rw [p, q]; exact (Int32.ofInt_toInt _).symm
theorem pxor {x y : Int32} {a b : Int} (p : x = mJ a) (q : y = mJ b) : x ^^^ y = mJ (zxor a b) := by rw [p, q]; exact (Int32.ofInt_toInt _).symm
theorem plxor {x y : Int64} {a b : Int} (p : x = mL a) (q : y = mL b) : x ^^^ y = mL (zlxor a b) := by rw [p, q]; exact (Int64.ofInt_toInt _).symm
theorem pshl {x y : Int32} {a b : Int} (p : x = mJ a) (q : y = mJ b) : x <<< (y &&& 31) = mJ (zshl a b) := by rw [p, q]; exact (Int32.ofInt_toInt _).symm
theorem pshr {x y : Int32} {a b : Int} (p : x = mJ a) (q : y = mJ b) : x >>> (y &&& 31) = mJ (zshr a b) := by rw [p, q]; exact (Int32.ofInt_toInt _).symm
theorem plsr {x : Int64} {y : Int32} {a b : Int} (p : x = mL a) (q : y = mJ b) : x >>> (y.toInt64 &&& 63) = mL (zlsr a b) := by rw [p, q]; exact (Int64.ofInt_toInt _).symm
theorem plur {x : Int64} {y : Int32} {a b : Int} (p : x = mL a) (q : y = mJ b) : (x.toUInt64 >>> (y.toInt64.toUInt64 &&& Int64.toUInt64 63)).toInt64 = mL (zlur a b) := by rw [p, q]; exact (Int64.ofInt_toInt _).symm
theorem pi2b {x : Int32} {a : Int} (p : x = mJ a) : x.toInt8.toInt32 = mJ (zi2b a) := by rw [p]; exact (Int32.ofInt_toInt _).symm
theorem pbyt {x : Int32} {a : Int} (p : x = mJ a) : vp_nar .byte x = mJ (zbyt a) := by rw [p]; exact (Int32.ofInt_toInt _).symm
theorem pl2i {x : Int64} {a : Int} (p : x = mL a) : x.toInt32 = mJ a := by rw [p]; exact Int64.toInt32_ofInt
theorem pi2l {x : Int32} {a : Int} (p : x = mJ a) (h : i32 a) : x.toInt64 = mL a := by
  rw [p]
  apply Int64.toInt_inj.mp
  rw [Int32.toInt_toInt64, mJ_t h, mL_t ⟨by have := h.1; omega, by have := h.2; omega⟩]
theorem plen (n : Nat) : Int32.ofNat n = mJ n := Int32.ofInt_eq_ofNat.symm
theorem tdiv_le {a b : Int} (hb : 0 < b) (lo hi : Int) (h1 : lo ≤ a) (h2 : a ≤ hi) (hl : lo ≤ 0) (hh : 0 ≤ hi) : lo ≤ a.tdiv b ∧ a.tdiv b ≤ hi := by
  rcases Int.le_total 0 a with h | h
  · rw [Int.tdiv_eq_ediv_of_nonneg h]
    have q1 : 0 ≤ a / b := Int.ediv_nonneg h (by omega)
    have q2 : a / b ≤ a := Int.ediv_le_self b h
    omega
  · have e : a.tdiv b = -((-a) / b) := by
      rw [← Int.tdiv_eq_ediv_of_nonneg (by omega : 0 ≤ -a), Int.neg_tdiv, Int.neg_neg]
    have q1 : 0 ≤ (-a) / b := Int.ediv_nonneg (by omega) (by omega)
    have q2 : (-a) / b ≤ -a := Int.ediv_le_self b (by omega)
    omega
theorem pdiv {x y : Int32} {a b : Int} (p : x = mJ a) (q : y = mJ b) (h : i32 a ∧ i32 b ∧ 0 < b) : x / y = mJ (a.tdiv b) := by
  rw [p, q]
  apply Int32.toInt_inj.mp
  have hr := tdiv_le h.2.2 (-2147483648) 2147483647 h.1.1 (by have := h.1.2; omega) (by decide) (by decide)
  rw [mJ_t (a := a.tdiv b) ⟨hr.1, by omega⟩, Int32.toInt_div_of_ne_right, mJ_t h.1, mJ_t h.2.1]
  intro e
  have := congrArg Int32.toInt e
  rw [mJ_t h.2.1] at this
  have e2 : (-1 : Int32).toInt = -1 := by decide
  rw [e2] at this
  omega
theorem pdivJ {x y : Int64} {a b : Int} (p : x = mL a) (q : y = mL b) (h : i64 a ∧ i64 b ∧ 0 < b) : x / y = mL (a.tdiv b) := by
  rw [p, q]
  apply Int64.toInt_inj.mp
  have hr := tdiv_le h.2.2 (-9223372036854775808) 9223372036854775807 h.1.1 (by have := h.1.2; omega) (by decide) (by decide)
  rw [mL_t (a := a.tdiv b) ⟨hr.1, by omega⟩, Int64.toInt_div_of_ne_right, mL_t h.1, mL_t h.2.1]
  intro e
  have := congrArg Int64.toInt e
  rw [mL_t h.2.1] at this
  have e2 : (-1 : Int64).toInt = -1 := by decide
  rw [e2] at this
  omega
theorem prem {x y : Int32} {a b : Int} (p : x = mJ a) (q : y = mJ b) (h : i32 a ∧ i32 b ∧ 0 < b) : x - x / y * y = mJ (a.tmod b) := by
  have e : a.tmod b = a - a.tdiv b * b := by rw [Int.tmod_def, Int.mul_comm]
  rw [e]
  exact ps p (pm (pdiv p q h) q)
theorem premJ {x y : Int64} {a b : Int} (p : x = mL a) (q : y = mL b) (h : i64 a ∧ i64 b ∧ 0 < b) : x - x / y * y = mL (a.tmod b) := by
  have e : a.tmod b = a - a.tdiv b * b := by rw [Int.tmod_def, Int.mul_comm]
  rw [e]
  exact psJ p (pmJ (pdivJ p q h) q)
theorem pix {i : Int32} {z : Int} {n : Nat} (p : i = mJ z) (h : 0 ≤ z ∧ z < (n : Int)) (hn : n ≤ 3456) : i.toNatClampNeg = z.toNat := by
  rw [p, ← Int32.toNat_toInt, mJ_t ⟨by omega, by omega⟩]
theorem rdI {ζ : ZS} {σ : HS} (hr : Rp ζ σ) {a : Nat} {i : Int32} {z : Int} {n : Nat} (p : i = mJ z) (h : 0 ≤ z ∧ z < (n : Int)) (hn : n ≤ 3456) : σ.1 a i.toNatClampNeg = mJ (ζ.1 a z.toNat) := by
  rw [pix p h hn]; exact hr.1 _ _
theorem rdJ {ζ : ZS} {σ : HS} (hr : Rp ζ σ) {a : Nat} {i : Int32} {z : Int} {n : Nat} (p : i = mJ z) (h : 0 ≤ z ∧ z < (n : Int)) (hn : n ≤ 3456) : σ.2.1 a i.toNatClampNeg = mL (ζ.2.1 a z.toNat) := by
  rw [pix p h hn]; exact hr.2.1 _ _
theorem rwI {ζ : ZS} {σ : HS} (hr : Rp ζ σ) {a k : Nat} {v : Int32} {w : Int} (p : v = mJ w) : Rp (zI ζ a k w) (sI σ a k v) :=
  ⟨fun c q => by unfold sI zI; simp only [u2_e]; split; exact p; exact hr.1 c q, hr.2.1, hr.2.2.1, hr.2.2.2⟩
theorem rwJ {ζ : ZS} {σ : HS} (hr : Rp ζ σ) {a k : Nat} {v : Int64} {w : Int} (p : v = mL w) : Rp (zJ ζ a k w) (sJ σ a k v) :=
  ⟨hr.1, fun c q => by unfold sJ zJ; simp only [u2_e]; split; exact p; exact hr.2.1 c q, hr.2.2.1, hr.2.2.2⟩
theorem raI {ζ : ZS} {σ : HS} (hr : Rp ζ σ) {a : Nat} {i : Int32} {z : Int} {n : Nat} (q : i = mJ z) (h : 0 ≤ z ∧ z < (n : Int)) (hn : n ≤ 3456) {v : Int32} {w : Int} (p : v = mJ w) : Rp (zI ζ a z.toNat w) (sI σ a i.toNatClampNeg v) := by
  rw [pix q h hn]; exact rwI hr p
theorem raJ {ζ : ZS} {σ : HS} (hr : Rp ζ σ) {a : Nat} {i : Int32} {z : Int} {n : Nat} (q : i = mJ z) (h : 0 ≤ z ∧ z < (n : Int)) (hn : n ≤ 3456) {v : Int64} {w : Int} (p : v = mL w) : Rp (zJ ζ a z.toNat w) (sJ σ a i.toNatClampNeg v) := by
  rw [pix q h hn]; exact rwJ hr p
theorem rwR {ζ : ZS} {σ : HS} (hr : Rp ζ σ) {a k : Nat} {v : Option Nat} (h : pt a k = none) : Rp (zR ζ a k v) (sR σ a k v) :=
  ⟨hr.1, hr.2.1, by show u2 _ _ _ _ = u2 _ _ _ _; rw [hr.2.2.1], fun c q b e => by
    show u2 ζ.2.2 a k v c q = some b
    rw [u2_e, if_neg (fun ⟨h1, h2⟩ => by rw [h1, h2, h] at e; cases e)]
    exact hr.2.2.2 c q b e⟩
section
variable {α β : Type} {R : α → β → Prop}
theorem sm_none {Y : Option β} : Sm R none Y := fun _ h => by cases h
theorem sm_ieq {x y : Int32} {a b : Int} {X1 X2 : Option α} {Y1 Y2 : Option β} (p : x = mJ a) (q : y = mJ b) (h1 : Sm R X1 Y1) (h2 : Sm R X2 Y2) : Sm R (gI a b (a = b) X1 X2) (if x = y then Y1 else Y2) := by
  unfold gI
  by_cases g : i32 a ∧ i32 b
  · rw [if_pos g]
    by_cases c : a = b
    · rw [if_pos c, if_pos (by rw [p, q, c])]; exact h1
    · rw [if_neg c, if_neg (fun e => c (by rw [p, q] at e; have := congrArg Int32.toInt e; rwa [mJ_t g.1, mJ_t g.2] at this))]; exact h2
  · rw [if_neg g]; exact sm_none
theorem sm_ilt {x y : Int32} {a b : Int} {X1 X2 : Option α} {Y1 Y2 : Option β} (p : x = mJ a) (q : y = mJ b) (h1 : Sm R X1 Y1) (h2 : Sm R X2 Y2) : Sm R (gI a b (a < b) X1 X2) (if x < y then Y1 else Y2) := by
  unfold gI
  by_cases g : i32 a ∧ i32 b
  · have e : x < y ↔ a < b := by rw [p, q, Int32.lt_iff_toInt_lt, mJ_t g.1, mJ_t g.2]
    rw [if_pos g]
    by_cases c : a < b
    · rw [if_pos c, if_pos (e.mpr c)]; exact h1
    · rw [if_neg c, if_neg (fun k => c (e.mp k))]; exact h2
  · rw [if_neg g]; exact sm_none
theorem sm_ile {x y : Int32} {a b : Int} {X1 X2 : Option α} {Y1 Y2 : Option β} (p : x = mJ a) (q : y = mJ b) (h1 : Sm R X1 Y1) (h2 : Sm R X2 Y2) : Sm R (gI a b (a ≤ b) X1 X2) (if x ≤ y then Y1 else Y2) := by
  unfold gI
  by_cases g : i32 a ∧ i32 b
  · have e : x ≤ y ↔ a ≤ b := by rw [p, q, Int32.le_iff_toInt_le, mJ_t g.1, mJ_t g.2]
    rw [if_pos g]
    by_cases c : a ≤ b
    · rw [if_pos c, if_pos (e.mpr c)]; exact h1
    · rw [if_neg c, if_neg (fun k => c (e.mp k))]; exact h2
  · rw [if_neg g]; exact sm_none
theorem sm_jeq {x y : Int64} {a b : Int} {X1 X2 : Option α} {Y1 Y2 : Option β} (p : x = mL a) (q : y = mL b) (h1 : Sm R X1 Y1) (h2 : Sm R X2 Y2) : Sm R (gJ a b (a = b) X1 X2) (if x = y then Y1 else Y2) := by
  unfold gJ
  by_cases g : i64 a ∧ i64 b
  · rw [if_pos g]
    by_cases c : a = b
    · rw [if_pos c, if_pos (by rw [p, q, c])]; exact h1
    · rw [if_neg c, if_neg (fun e => c (by rw [p, q] at e; have := congrArg Int64.toInt e; rwa [mL_t g.1, mL_t g.2] at this))]; exact h2
  · rw [if_neg g]; exact sm_none
theorem sm_jlt {x y : Int64} {a b : Int} {X1 X2 : Option α} {Y1 Y2 : Option β} (p : x = mL a) (q : y = mL b) (h1 : Sm R X1 Y1) (h2 : Sm R X2 Y2) : Sm R (gJ a b (a < b) X1 X2) (if x < y then Y1 else Y2) := by
  unfold gJ
  by_cases g : i64 a ∧ i64 b
  · have e : x < y ↔ a < b := by rw [p, q, Int64.lt_iff_toInt_lt, mL_t g.1, mL_t g.2]
    rw [if_pos g]
    by_cases c : a < b
    · rw [if_pos c, if_pos (e.mpr c)]; exact h1
    · rw [if_neg c, if_neg (fun k => c (e.mp k))]; exact h2
  · rw [if_neg g]; exact sm_none
theorem sm_jle {x y : Int64} {a b : Int} {X1 X2 : Option α} {Y1 Y2 : Option β} (p : x = mL a) (q : y = mL b) (h1 : Sm R X1 Y1) (h2 : Sm R X2 Y2) : Sm R (gJ a b (a ≤ b) X1 X2) (if x ≤ y then Y1 else Y2) := by
  unfold gJ
  by_cases g : i64 a ∧ i64 b
  · have e : x ≤ y ↔ a ≤ b := by rw [p, q, Int64.le_iff_toInt_le, mL_t g.1, mL_t g.2]
    rw [if_pos g]
    by_cases c : a ≤ b
    · rw [if_pos c, if_pos (e.mpr c)]; exact h1
    · rw [if_neg c, if_neg (fun k => c (e.mp k))]; exact h2
  · rw [if_neg g]; exact sm_none
theorem sm_rk {r : Option Nat} {a ci : Nat} {X : Option α} {Y : Nat → Option β} (h : r = some a) (hk : kd a = ci) (hs : Sm R X (Y a)) : Sm R X (rk r ci Y) := by
  unfold rk; rw [h]; show Sm R X (if kd a = ci then Y a else none); rw [if_pos hk]; exact hs
theorem sm_rkd {r s : Option Nat} {ci : Nat} {X : Nat → Option α} {Y : Nat → Option β} (h : r = s) (hs : ∀ a, kd a = ci → Sm R (X a) (Y a)) : Sm R (rk s ci X) (rk r ci Y) := by
  rw [h]; unfold rk
  cases s with
  | none => exact sm_none
  | some a =>
    show Sm R (if kd a = ci then X a else none) (if kd a = ci then Y a else none)
    by_cases c : kd a = ci
    · rw [if_pos c, if_pos c]; exact hs a c
    · rw [if_neg c]; exact sm_none
theorem sm_ck {i : Int32} {z : Int} {a n : Nat} {X : Option α} {Y : Option β} (p : i = mJ z) (hl : ln a = n) (k : 0 ≤ z ∧ z < (n : Int) → Sm R X Y) : Sm R (gk z n X) (ck i (ln a) Y) := by
  unfold gk ck
  by_cases c : 0 ≤ z ∧ z < (n : Int)
  · have hn := ln_le a
    rw [if_pos c, if_pos (by rw [p, mJ_t ⟨by omega, by omega⟩, hl]; exact c)]; exact k c
  · rw [if_neg c]; exact sm_none
theorem sm_nz {y : Int32} {a b : Int} {X : Option α} {Y : Option β} (q : y = mJ b) (k : i32 a ∧ i32 b ∧ 0 < b → Sm R X Y) : Sm R (gd a b X) (nz (y = 0) Y) := by
  unfold gd nz
  by_cases c : i32 a ∧ i32 b ∧ 0 < b
  · rw [if_pos c, if_neg (fun e => by
      rw [q] at e
      have := congrArg Int32.toInt e
      rw [mJ_t c.2.1] at this
      have e2 : (0 : Int32).toInt = 0 := by decide
      rw [e2] at this; omega)]; exact k c
  · rw [if_neg c]; exact sm_none
theorem sm_nzJ {y : Int64} {a b : Int} {X : Option α} {Y : Option β} (q : y = mL b) (k : i64 a ∧ i64 b ∧ 0 < b → Sm R X Y) : Sm R (gdJ a b X) (nz (y = 0) Y) := by
  unfold gdJ nz
  by_cases c : i64 a ∧ i64 b ∧ 0 < b
  · rw [if_pos c, if_neg (fun e => by
      rw [q] at e
      have := congrArg Int64.toInt e
      rw [mL_t c.2.1] at this
      have e2 : (0 : Int64).toInt = 0 := by decide
      rw [e2] at this; omega)]; exact k c
  · rw [if_neg c]; exact sm_none
theorem sm_gd {a b : Int} {X : Option α} {Y : Option β} (k : i32 a ∧ i32 b ∧ 0 < b → Sm R X Y) : Sm R (gd a b X) Y := by
  unfold gd
  by_cases c : i32 a ∧ i32 b ∧ 0 < b
  · rw [if_pos c]; exact k c
  · rw [if_neg c]; exact sm_none
theorem sm_gdJ {a b : Int} {X : Option α} {Y : Option β} (k : i64 a ∧ i64 b ∧ 0 < b → Sm R X Y) : Sm R (gdJ a b X) Y := by
  unfold gdJ
  by_cases c : i64 a ∧ i64 b ∧ 0 < b
  · rw [if_pos c]; exact k c
  · rw [if_neg c]; exact sm_none
theorem sm_gw {a : Int} {X : Option α} {Y : Option β} (k : i32 a → Sm R X Y) : Sm R (gw a X) Y := by
  unfold gw
  by_cases c : i32 a
  · rw [if_pos c]; exact k c
  · rw [if_neg c]; exact sm_none
theorem sm_bind {α' β' : Type} {R' : α' → β' → Prop} {A : Option α'} {B : Option β'} {X : α' → Option α} {Y : β' → Option β} (h : Sm R' A B) (k : ∀ p q, R' p q → Sm R (X p) (Y q)) : Sm R (A.bind X) (B.bind Y) := by
  intro x hx
  cases hA : A with
  | none => rw [hA] at hx; cases hx
  | some a =>
    rw [hA] at hx
    obtain ⟨b, hb, hR⟩ := h a hA
    rw [hb]
    exact k a b hR x hx
end
theorem sm_zc {α β : Type} {R : α → β → Prop} {x : Int32} {a : Int} {X : Option α} {Y : Option β} (p : x = mJ a) (h : Sm R X Y) : Sm R (gz a X) (zc x Y) := by
  unfold gz zc
  by_cases c : a = 0 ∨ a = 1
  · rw [if_pos c, if_pos (by rw [p]; rcases c with rfl | rfl <;> decide)]; exact h
  · rw [if_neg c]; exact sm_none
theorem sm_zr {ζ : ZS} {σ : HS} {x : Int32} {a : Int} (p : x = mJ a) (hr : Rp ζ σ) : Sm QI (gz a (some (a, ζ))) (zr x σ) := by
  unfold gz zr
  by_cases c : a = 0 ∨ a = 1
  · rw [if_pos c, if_pos (by rw [p]; rcases c with rfl | rfl <;> decide)]
    intro x h; cases h; exact ⟨_, rfl, p, hr⟩
  · rw [if_neg c]; exact sm_none
theorem sm_ri {ζ : ZS} {σ : HS} {x : Int32} {a : Int} (p : x = mJ a) (hr : Rp ζ σ) : Sm QI (some (a, ζ)) (some (x, σ)) := fun _ h => by cases h; exact ⟨_, rfl, p, hr⟩
theorem sm_rj {ζ : ZS} {σ : HS} {x : Int64} {a : Int} (p : x = mL a) (hr : Rp ζ σ) : Sm QJ (some (a, ζ)) (some (x, σ)) := fun _ h => by cases h; exact ⟨_, rfl, p, hr⟩
theorem sm_rr {ζ : ZS} {σ : HS} {x : Nat} (hr : Rp ζ σ) : Sm QR (some (x, ζ)) (some (x, σ)) := fun _ h => by cases h; exact ⟨_, rfl, rfl, hr⟩
theorem sm_rv {ζ : ZS} {σ : HS} (hr : Rp ζ σ) : Sm QV (some ζ) (some σ) := fun _ h => by cases h; exact ⟨_, rfl, hr⟩
theorem rp_s {ζ : ZS} {σ : HS} (hr : Rp ζ σ) : Sh σ.2.2 := by rw [hr.2.2.1]; exact hr.2.2.2
theorem rp_r {ζ : ZS} {σ : HS} (hr : Rp ζ σ) (c k : Nat) : σ.2.2 c k = ζ.2.2 c k := by rw [hr.2.2.1]
theorem pt1_0 {ρ : Nat → Nat → Option Nat} (h : Sh ρ) {c : Nat} (hc : kd c = 1) : ρ c 0 = some (c + 1) := pt1 h hc (by decide)
theorem pt1_1 {ρ : Nat → Nat → Option Nat} (h : Sh ρ) {c : Nat} (hc : kd c = 1) : ρ c 1 = some (c + 2) := pt1 h hc (by decide)
theorem pt1_2 {ρ : Nat → Nat → Option Nat} (h : Sh ρ) {c : Nat} (hc : kd c = 1) : ρ c 2 = some (c + 3) := pt1 h hc (by decide)
theorem k1_0 {c : Nat} (hc : kd c = 1) : kd (c + 1) = 15 := (kd_c1 c hc).1
theorem k1_1 {c : Nat} (hc : kd c = 1) : kd (c + 2) = 14 := (kd_c1 c hc).2.1
theorem k1_2 {c : Nat} (hc : kd c = 1) : kd (c + 3) = 15 := (kd_c1 c hc).2.2.1
theorem l1_0 {c : Nat} (hc : kd c = 1) : ln (c + 1) = 176 := (kd_c1 c hc).2.2.2.1
theorem l1_1 {c : Nat} (hc : kd c = 1) : ln (c + 2) = 44 := (kd_c1 c hc).2.2.2.2.1
theorem l1_2 {c : Nat} (hc : kd c = 1) : ln (c + 3) = 44 := (kd_c1 c hc).2.2.2.2.2
theorem pt0_k {ρ : Nat → Nat → Option Nat} (h : Sh ρ) {c : Nat} (hc : kd c = 0) (k j : Nat) (hk : k < 9) (hj : j = k + 1) : ρ c k = some (c + j) := by
  rw [pt0 h hc hk, hj, Nat.add_comm k 1, ← Nat.add_assoc]
theorem k0_k {c : Nat} (hc : kd c = 0) (j : Nat) (h1 : 1 ≤ j) (h2 : j < 10) : kd (c + j) = 14 := by
  have := (kd_c0 c hc).1.1 (j - 1) (by omega)
  rwa [show c + 1 + (j - 1) = c + j by omega] at this
theorem l0_k {c : Nat} (hc : kd c = 0) (j : Nat) (h1 : 1 ≤ j) (h2 : j < 4) : ln (c + j) = 4 := by
  have := (kd_c0 c hc).1.2.1 (j - 1) (by omega)
  rwa [show c + 1 + (j - 1) = c + j by omega] at this
theorem l0_q {c : Nat} (hc : kd c = 0) (j : Nat) (h1 : 4 ≤ j) (h2 : j < 10) : ln (c + j) = 12 := by
  have := (kd_c0 c hc).1.2.2 (j - 1) (by omega) (by omega)
  rwa [show c + 1 + (j - 1) = c + j by omega] at this
theorem aa18 {ζ : ZS} {σ : HS} (hr : Rp ζ σ) {r n : Nat} {i : Int32} {z : Int} (hk : kd r = 18) (hl : ln r = n) (p : i = mJ z) (hb : 0 ≤ z ∧ z < (n : Int)) : σ.2.2 r i.toNatClampNeg = some (r + 1 + z.toNat) := by
  rw [pix p hb (by rw [← hl]; exact ln_le r)]
  exact pt18 (rp_s hr) hk (by rw [hl]; omega)
theorem ak18 {r n : Nat} {z : Int} (hk : kd r = 18) (hl : ln r = n) (hb : 0 ≤ z ∧ z < (n : Int)) : kd (r + 1 + z.toNat) = 14 := ((kd_c18 r hk).1 z.toNat (by rw [hl]; omega)).1
theorem al18 {r n : Nat} {z : Int} (hk : kd r = 18) (hl : ln r = n) (hb : 0 ≤ z ∧ z < (n : Int)) : ln (r + 1 + z.toNat) = 4 := ((kd_c18 r hk).1 z.toNat (by rw [hl]; omega)).2
theorem aa17 {ζ : ZS} {σ : HS} (hr : Rp ζ σ) {i : Int32} {z : Int} (p : i = mJ z) (hb : 0 ≤ z ∧ z < ((13 : Nat) : Int)) : σ.2.2 72 i.toNatClampNeg = some (73 + 4 * z.toNat) := by
  rw [pix p hb (by decide)]
  exact pt17 (rp_s hr) (by omega)
theorem ak17 {z : Int} (hb : 0 ≤ z ∧ z < ((13 : Nat) : Int)) : kd (73 + 4 * z.toNat) = 1 := kd_c17 _ (by omega)
/-- how many bits: the JDK's own text -/
def zbc (a : Int) : Int := match f_J6_bitCount_0f7a4 (mJ a) (fun _ _ => 0, fun _ _ => 0, fun _ _ => none) with
  | some p => p.1.toInt
  | none => 0
def g_J6_bitCount_0f7a4 (a : Int) (ζ : ZS) : Option (Int × ZS) := some (zbc a, ζ)
theorem q_J6_bitCount_0f7a4 (x : Int32) (z : Int) (p : x = mJ z) (ζ : ZS) (σ : HS) (hr : Rp ζ σ) : Sm QI (g_J6_bitCount_0f7a4 z ζ) (f_J6_bitCount_0f7a4 x σ) := by
  rw [p]
  exact sm_ri (Int32.ofInt_toInt _).symm hr
