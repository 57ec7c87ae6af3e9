/-! vectors of four whole numbers, their products, cross products of three -/
abbrev V4 : Type := Nat → Int
def dt (a w : V4) : Int := a 0 * w 0 + a 1 * w 1 + a 2 * w 2 + a 3 * w 3
def m2 (a b : V4) (i j : Nat) : Int := a i * b j - a j * b i
def d3 (r s t : V4) (a b c : Nat) : Int := r a * (s b * t c - s c * t b) - r b * (s a * t c - s c * t a) + r c * (s a * t b - s b * t a)
def xp (r s t : V4) : V4 := fun i => if i = 0 then d3 r s t 1 2 3 else if i = 1 then -d3 r s t 0 2 3 else if i = 2 then d3 r s t 0 1 3 else -d3 r s t 0 1 2
theorem xp_0 (r s t : V4) : xp r s t 0 = d3 r s t 1 2 3 := rfl
theorem xp_1 (r s t : V4) : xp r s t 1 = -d3 r s t 0 2 3 := rfl
theorem xp_2 (r s t : V4) : xp r s t 2 = d3 r s t 0 1 3 := rfl
theorem xp_3 (r s t : V4) : xp r s t 3 = -d3 r s t 0 1 2 := rfl
theorem xp_r (r s t : V4) : dt r (xp r s t) = 0 := by
  simp only [dt, xp_0, xp_1, xp_2, xp_3, d3]; grind
theorem xp_s (r s t : V4) : dt s (xp r s t) = 0 := by
  simp only [dt, xp_0, xp_1, xp_2, xp_3, d3]; grind
theorem xp_t (r s t : V4) : dt t (xp r s t) = 0 := by
  simp only [dt, xp_0, xp_1, xp_2, xp_3, d3]; grind
theorem xp_01 (r s t a : V4) : xp r s t 0 * a 1 - xp r s t 1 * a 0 = dt t a * m2 r s 2 3 - dt s a * m2 r t 2 3 + dt r a * m2 s t 2 3 := by
  simp only [dt, xp_0, xp_1, d3, m2]; grind
theorem xp_02 (r s t a : V4) : xp r s t 0 * a 2 - xp r s t 2 * a 0 = -(dt t a * m2 r s 1 3 - dt s a * m2 r t 1 3 + dt r a * m2 s t 1 3) := by
  simp only [dt, xp_0, xp_2, d3, m2]; grind
theorem xp_03 (r s t a : V4) : xp r s t 0 * a 3 - xp r s t 3 * a 0 = dt t a * m2 r s 1 2 - dt s a * m2 r t 1 2 + dt r a * m2 s t 1 2 := by
  simp only [dt, xp_0, xp_3, d3, m2]; grind
theorem xp_12 (r s t a : V4) : xp r s t 1 * a 2 - xp r s t 2 * a 1 = dt t a * m2 r s 0 3 - dt s a * m2 r t 0 3 + dt r a * m2 s t 0 3 := by
  simp only [dt, xp_1, xp_2, d3, m2]; grind
theorem xp_13 (r s t a : V4) : xp r s t 1 * a 3 - xp r s t 3 * a 1 = -(dt t a * m2 r s 0 2 - dt s a * m2 r t 0 2 + dt r a * m2 s t 0 2) := by
  simp only [dt, xp_1, xp_3, d3, m2]; grind
theorem xp_23 (r s t a : V4) : xp r s t 2 * a 3 - xp r s t 3 * a 2 = dt t a * m2 r s 0 1 - dt s a * m2 r t 0 1 + dt r a * m2 s t 0 1 := by
  simp only [dt, xp_2, xp_3, d3, m2]; grind
/-- parallel -/
def par (v w : V4) : Prop := ∀ i, i < 4 → ∀ j, j < 4 → v i * w j = v j * w i
/-- what is orthogonal to three vectors is parallel to their cross product -/
theorem xp_par {r s t a : V4} (hr : dt r a = 0) (hs : dt s a = 0) (ht : dt t a = 0) : par (xp r s t) a := by
  have h01 := xp_01 r s t a
  have h02 := xp_02 r s t a
  have h03 := xp_03 r s t a
  have h12 := xp_12 r s t a
  have h13 := xp_13 r s t a
  have h23 := xp_23 r s t a
  rw [hr, hs, ht] at h01 h02 h03 h12 h13 h23
  simp only [Int.zero_mul, Int.sub_self, Int.add_zero, Int.neg_zero] at h01 h02 h03 h12 h13 h23
  intro i hi j hj
  rcases (show i = 0 ∨ i = 1 ∨ i = 2 ∨ i = 3 by omega) with rfl | rfl | rfl | rfl <;> rcases (show j = 0 ∨ j = 1 ∨ j = 2 ∨ j = 3 by omega) with rfl | rfl | rfl | rfl <;> omega
/-- sums of multiples -/
def sv : List (Int × V4) → V4
  | [] => fun _ => 0
  | q :: l => fun i => q.1 * q.2 i + sv l i
theorem sv_app (l k : List (Int × V4)) (i : Nat) : sv (l ++ k) i = sv l i + sv k i := by
  induction l with
  | nil => simp [sv]
  | cons q l ih => simp only [List.cons_append, sv, ih]; omega
theorem dt_sv (r : V4) (q : Int × V4) (l : List (Int × V4)) : dt r (sv (q :: l)) = q.1 * dt r q.2 + dt r (sv l) := by
  simp only [dt, sv]; grind
theorem dt_add (r a b c : V4) (h : ∀ i, i < 4 → c i = a i + b i) : dt r c = dt r a + dt r b := by
  simp only [dt, h 0 (by decide), h 1 (by decide), h 2 (by decide), h 3 (by decide)]; grind
theorem dt_mul (r a c : V4) (n : Int) (h : ∀ i, i < 4 → c i = n * a i) : dt r c = n * dt r a := by
  simp only [dt, h 0 (by decide), h 1 (by decide), h 2 (by decide), h 3 (by decide)]; grind
/-- scaled -/
def sc (n : Int) (l : List (Int × V4)) : List (Int × V4) := l.map (fun q => (n * q.1, q.2))
theorem sv_sc (n : Int) (l : List (Int × V4)) (i : Nat) : sv (sc n l) i = n * sv l i := by
  induction l with
  | nil => simp [sc, sv]
  | cons q l ih =>
    have e : sc n (q :: l) = (n * q.1, q.2) :: sc n l := rfl
    rw [e]
    simp only [sv, ih]
    grind
/-- w is a sum of multiples (0 or more) of vectors of P, but for a factor -/
def Co (P : V4 → Prop) (w : V4) : Prop := ∃ (N : Int) (l : List (Int × V4)), 0 < N ∧ (∀ q ∈ l, 0 ≤ q.1 ∧ P q.2) ∧ ∀ i, i < 4 → N * w i = sv l i
/-- the vector of a pair on either side of a row -/
def pr (r c d : V4) : V4 := fun i => -(dt r d) * c i + dt r c * d i
/-- what of P keeps a row, and all pairs' vectors -/
def Pn (P : V4 → Prop) (r : V4) (v : V4) : Prop := (P v ∧ 0 ≤ dt r v) ∨ ∃ c d, P c ∧ P d ∧ 0 < dt r c ∧ dt r d < 0 ∧ v = pr r c d
theorem pr_dt (r c d : V4) : dt r (pr r c d) = 0 := by
  simp only [dt, pr]; grind
/-- the pairs of one vector behind the row with those ahead of it -/
def prs (r d : V4) (l : List (Int × V4)) : List (Int × V4) := l.map (fun q => (q.1, pr r q.2 d))
theorem sv_prs (r d : V4) (l : List (Int × V4)) (i : Nat) : sv (prs r d l) i = -(dt r d) * sv l i + dt r (sv l) * d i := by
  induction l with
  | nil => simp [prs, sv, dt]
  | cons q l ih =>
    have e : prs r d (q :: l) = (q.1, pr r q.2 d) :: prs r d l := rfl
    rw [e, dt_sv]
    simp only [sv, ih, pr]
    grind
