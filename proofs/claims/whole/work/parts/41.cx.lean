/-! the reference's cross products find all corners -/
theorem xq_12 (a b c : V4) {j : Nat} (hj : j < 4) : xp a b c j = -1 * xp b a c j := by
  rcases (show j = 0 ∨ j = 1 ∨ j = 2 ∨ j = 3 by omega) with rfl | rfl | rfl | rfl <;> simp only [xp_0, xp_1, xp_2, xp_3, d3] <;> grind
theorem xq_23 (a b c : V4) {j : Nat} (hj : j < 4) : xp a b c j = -1 * xp a c b j := by
  rcases (show j = 0 ∨ j = 1 ∨ j = 2 ∨ j = 3 by omega) with rfl | rfl | rfl | rfl <;> simp only [xp_0, xp_1, xp_2, xp_3, d3] <;> grind
theorem nx12 {a b c : V4} (h : nv (xp a b c)) : nv (xp b a c) := nv_sc (fun _ hj => xq_12 a b c hj) h
theorem nx23 {a b c : V4} (h : nv (xp a b c)) : nv (xp a c b) := nv_sc (fun _ hj => xq_23 a b c hj) h
def CX (k : Nat) (a b c : V4) : V4 := if k = 1 then xp (un 1) (un 2) (un 3) else if k = 2 then xp a (un 2) (un 3) else if k = 3 then xp a b (un 3) else xp a b c
def VS (k R r s t : Nat) : Prop := r < R ∧ (if 3 ≤ k then r < s ∧ s < R else s = r) ∧ (if 4 ≤ k then s < t ∧ t < R else t = s)
theorem cx_zero {k : Nat} (hk : k ≤ 4) (h1 : 1 ≤ k) (a b c : V4) : ∀ m, k ≤ m → m < 4 → CX k a b c m = 0 := by
  intro m hm h4
  unfold CX
  rcases (show k = 1 ∨ k = 2 ∨ k = 3 ∨ k = 4 by omega) with rfl | rfl | rfl | rfl
  · rcases (show m = 1 ∨ m = 2 ∨ m = 3 by omega) with rfl | rfl | rfl <;> simp [xp_1, xp_2, xp_3, d3, un]
  · rcases (show m = 2 ∨ m = 3 by omega) with rfl | rfl <;> simp [xp_2, xp_3, d3, un]
  · rw [show m = 3 by omega]; simp [xp_3, d3, un]
  · omega
/-- the index of a row that isn't a unit that there is not -/
theorem rq_lt {k R : Nat} {ρ : Nat → V4} (hr : Rk k R ρ) {i : Nat} (hi : i < R + (4 - k)) : (i < R ∧ rq k R ρ i = ρ i) ∨ ∃ m, k ≤ m ∧ m < 4 ∧ rq k R ρ i = un m := by
  by_cases c : i < R
  · exact Or.inl ⟨c, by unfold rq; rw [if_pos c]⟩
  · exact Or.inr ⟨k + (i - R), by omega, by have := hr.2.1; omega, by unfold rq; rw [if_neg c]⟩
theorem cx_par {k R : Nat} {ρ : Nat → V4} (hr : Rk k R ρ) {v a b c : V4} (hv : Ex (Ak k R ρ) v) (ha : 2 ≤ k → dt a v = 0) (hb : 3 ≤ k → dt b v = 0) (hc : 4 ≤ k → dt c v = 0) : par (CX k a b c) v := by
  have hz : ∀ m, k ≤ m → m < 4 → dt (un m) v = 0 := fun m h1 h2 => by rw [dt_un h2]; exact Ak_zero hv.1 m h2 h1
  have h1 := hr.1
  have h4 := hr.2.1
  unfold CX
  rcases (show k = 1 ∨ k = 2 ∨ k = 3 ∨ k = 4 by omega) with rfl | rfl | rfl | rfl
  · exact xp_par (hz 1 (by decide) (by decide)) (hz 2 (by decide) (by decide)) (hz 3 (by decide) (by decide))
  · exact xp_par (ha (by decide)) (hz 2 (by decide) (by decide)) (hz 3 (by decide) (by decide))
  · exact xp_par (ha (by decide)) (hb (by decide)) (hz 3 (by decide) (by decide))
  · exact xp_par (ha (by decide)) (hb (by decide)) (hc (by decide))
/-- what else lies on v: given the units that there are not, and some rows more -/
theorem cx_one {k R : Nat} {ρ : Nat → V4} (hr : Rk k R ρ) {v a b : V4} (hv : Ex (Ak k R ρ) v) (ha : dt a v = 0) (hb : dt b v = 0) (hab : ∃ i j, i < 4 ∧ j < 4 ∧ m2 a b i j ≠ 0) : ∃ i, i < R + (4 - k) ∧ dt (rq k R ρ i) v = 0 ∧ nv (xp a b (rq k R ρ i)) := by
  obtain ⟨t, ht, h0, hn⟩ := ex_ext3 hv ha hb hab
  obtain ⟨i, σ, hi, he, hz⟩ := rq_of hr ht h0
  exact ⟨i, hi, hz, nv_sc (fun j hj => xp_s3 he hj) hn⟩
theorem m2_sc {a s s' : V4} {σ : Int} (he : ∀ x, x < 4 → s x = σ * s' x) {i j : Nat} (hi : i < 4) (hj : j < 4) (h : m2 a s i j ≠ 0) : m2 a s' i j ≠ 0 := by
  intro z
  apply h
  unfold m2 at *
  rw [he i hi, he j hj]
  have e : a i * (σ * s' j) - a j * (σ * s' i) = σ * (a i * s' j - a j * s' i) := by grind
  rw [e, z, Int.mul_zero]
theorem m2_self (a : V4) (i j : Nat) : m2 a a i j = 0 := by unfold m2; rw [Int.mul_comm]; omega
theorem un_nv {m : Nat} (h : m < 4) : nv (un m) := ⟨m, h, by unfold un; rw [if_pos rfl]; decide⟩
theorem cx_two {k R : Nat} {ρ : Nat → V4} (hr : Rk k R ρ) {v a : V4} (hv : Ex (Ak k R ρ) v) (ha : dt a v = 0) (hn : nv a) : ∃ i j, i < R + (4 - k) ∧ j < R + (4 - k) ∧ dt (rq k R ρ i) v = 0 ∧ dt (rq k R ρ j) v = 0 ∧ nv (xp a (rq k R ρ i) (rq k R ρ j)) := by
  obtain ⟨s, hs, h0, x, y, hx, hy, hm⟩ := ex_ext2 hv hn
  obtain ⟨i, σ, hi, he, hz⟩ := rq_of hr hs h0
  obtain ⟨j, hj, hz2, hn2⟩ := cx_one hr hv ha hz ⟨x, y, hx, hy, m2_sc he hx hy hm⟩
  exact ⟨i, j, hi, hj, hz, hz2, hn2⟩
theorem cx_all {k R : Nat} {ρ : Nat → V4} (hr : Rk k R ρ) {v : V4} (hv : Ex (Ak k R ρ) v) : ∃ r s t, VS k R r s t ∧ nv (CX k (ρ r) (ρ s) (ρ t)) ∧ par (CX k (ρ r) (ρ s) (ρ t)) v := by
  have h1 := hr.1
  have h4 := hr.2.1
  have hR := hr.2.2.1
  have hz : ∀ m, k ≤ m → m < 4 → dt (un m) v = 0 := fun m h1 h2 => by rw [dt_un h2]; exact Ak_zero hv.1 m h2 h1
  have u23 : ∃ i j, i < 4 ∧ j < 4 ∧ m2 (un 2) (un 3) i j ≠ 0 := ⟨2, 3, by decide, by decide, by decide⟩
  rcases (show k = 1 ∨ k = 2 ∨ k = 3 ∨ k = 4 by omega) with rfl | rfl | rfl | rfl
  · refine ⟨0, 0, 0, ⟨by omega, by simp, by simp⟩, ?_, cx_par hr hv (fun h => by omega) (fun h => by omega) (fun h => by omega)⟩
    exact ⟨0, by decide, show xp (un 1) (un 2) (un 3) 0 ≠ 0 by decide⟩
  · obtain ⟨i, hi, h0, hn⟩ := cx_one hr hv (hz 2 (by decide) (by decide)) (hz 3 (by decide) (by decide)) u23
    rcases rq_lt hr hi with ⟨q, e⟩ | ⟨m, q1, q2, e⟩
    · rw [e] at h0 hn
      exact ⟨i, i, i, ⟨q, by simp, by simp⟩, nx12 (nx23 hn), cx_par hr hv (fun _ => h0) (fun h => by omega) (fun h => by omega)⟩
    · rw [e] at hn
      rcases (show m = 2 ∨ m = 3 by omega) with rfl | rfl
      · exact absurd hn (xp_same2 _ _)
      · exact absurd hn (xp_same3 _ _)
  · obtain ⟨i, j, hi, hj, g1, g2, hn⟩ := cx_two hr hv (hz 3 (by decide) (by decide)) (un_nv (by decide))
    rcases rq_lt hr hi with ⟨q, e⟩ | ⟨m, q1, q2, e⟩
    · rcases rq_lt hr hj with ⟨q', e'⟩ | ⟨m, q1, q2, e'⟩
      · rw [e] at hn g1
        rw [e'] at hn g2
        have hne : i ≠ j := fun z => by rw [z] at hn; exact xp_same3 _ _ hn
        rcases Nat.lt_or_gt_of_ne hne with hl | hl
        · exact ⟨i, j, j, ⟨q, by simp; omega, by simp⟩, nx23 (nx12 hn), cx_par hr hv (fun _ => g1) (fun _ => g2) (fun h => by omega)⟩
        · exact ⟨j, i, i, ⟨q', by simp; omega, by simp⟩, nx12 (nx23 (nx12 hn)), cx_par hr hv (fun _ => g2) (fun _ => g1) (fun h => by omega)⟩
      · rw [e', show m = 3 by omega] at hn; exact absurd hn (xp_same2 _ _)
    · rw [e, show m = 3 by omega] at hn; exact absurd hn (xp_same1 _ _)
  · obtain ⟨r, s, t, hr', hs, ht, g1, g2, g3, hn⟩ := ex_rows hv
    obtain ⟨i1, σ1, a1, a2, a3⟩ := rq_of hr hr' g1
    obtain ⟨i2, σ2, b1, b2, b3⟩ := rq_of hr hs g2
    obtain ⟨i3, σ3, c1, c2, c3⟩ := rq_of hr ht g3
    have hn2 := nv_sc (fun i hi => xp_s3 c2 hi) (nv_sc (fun i hi => xp_s2 b2 hi) (nv_sc (fun i hi => xp_s1 a2 hi) hn))
    have ri : ∀ i, i < R + (4 - 4) → rq 4 R ρ i = ρ i := fun i hi => by unfold rq; rw [if_pos (by omega)]
    rw [ri i1 a1] at hn2 a3
    rw [ri i2 b1] at hn2 b3
    rw [ri i3 c1] at hn2 c3
    have d12 : i1 ≠ i2 := fun e => xp_same1 _ _ (by rw [e] at hn2; exact hn2)
    have d13 : i1 ≠ i3 := fun e => xp_same2 _ _ (by rw [e] at hn2; exact hn2)
    have d23 : i2 ≠ i3 := fun e => xp_same3 _ _ (by rw [e] at hn2; exact hn2)
    have mk : ∀ x y z, x < y → y < z → z < R → dt (ρ x) v = 0 → dt (ρ y) v = 0 → dt (ρ z) v = 0 → nv (xp (ρ x) (ρ y) (ρ z)) → ∃ r s t, VS 4 R r s t ∧ nv (CX 4 (ρ r) (ρ s) (ρ t)) ∧ par (CX 4 (ρ r) (ρ s) (ρ t)) v := fun x y z h1 h2 h3 k1 k2 k3 hn => ⟨x, y, z, ⟨by omega, by simp; omega, by simp; omega⟩, hn, cx_par hr hv (fun _ => k1) (fun _ => k2) (fun _ => k3)⟩
    rcases (show (i1 < i2 ∧ i2 < i3) ∨ (i1 < i3 ∧ i3 < i2) ∨ (i2 < i1 ∧ i1 < i3) ∨ (i2 < i3 ∧ i3 < i1) ∨ (i3 < i1 ∧ i1 < i2) ∨ (i3 < i2 ∧ i2 < i1) by omega) with ⟨p, q⟩ | ⟨p, q⟩ | ⟨p, q⟩ | ⟨p, q⟩ | ⟨p, q⟩ | ⟨p, q⟩
    · exact mk i1 i2 i3 p q (by omega) a3 b3 c3 hn2
    · exact mk i1 i3 i2 p q (by omega) a3 c3 b3 (nx23 hn2)
    · exact mk i2 i1 i3 p q (by omega) b3 a3 c3 (nx12 hn2)
    · exact mk i2 i3 i1 p q (by omega) b3 c3 a3 (nx23 (nx12 hn2))
    · exact mk i3 i1 i2 p q (by omega) c3 a3 b3 (nx12 (nx23 hn2))
    · exact mk i3 i2 i1 p q (by omega) c3 b3 a3 (nx12 (nx23 (nx12 hn2)))
/-- the crosses of findMore: the last row with the others -/
def VM (k R r s : Nat) : Prop := r < R ∧ (if 4 ≤ k then r < s ∧ s < R else s = r)
def CM (k : Nat) (l a b : V4) : V4 := if k = 2 then CX 2 l l l else if k = 3 then CX 3 l a a else CX k l a b
theorem cx_more {k R : Nat} {ρ : Nat → V4} (hr : Rk k (R + 1) ρ) (hR : k ≤ R) (hk : 2 ≤ k) {v : V4} (hv : Ex (Ak k (R + 1) ρ) v) (hn : ∃ m, m < k ∧ ρ R m ≠ 0) (h0 : dt (ρ R) v = 0) : ∃ r s, VM k R r s ∧ nv (CM k (ρ R) (ρ r) (ρ s)) ∧ par (CM k (ρ R) (ρ r) (ρ s)) v := by
  have h4 := hr.2.1
  have hz : ∀ m, k ≤ m → m < 4 → dt (un m) v = 0 := fun m h1 h2 => by rw [dt_un h2]; exact Ak_zero hv.1 m h2 h1
  obtain ⟨x, hx, hxn⟩ := hn
  unfold CM
  rcases (show k = 2 ∨ k = 3 ∨ k = 4 by omega) with rfl | rfl | rfl
  · refine ⟨0, 0, ⟨by omega, by simp⟩, ?_, cx_par hr hv (fun _ => h0) (fun h => by omega) (fun h => by omega)⟩
    show nv (xp (ρ R) (un 2) (un 3))
    rcases (show x = 0 ∨ x = 1 by omega) with rfl | rfl
    · exact ⟨1, by decide, by simp [xp_1, d3, un]; omega⟩
    · exact ⟨0, by decide, by simp [xp_0, d3, un]; omega⟩
  · obtain ⟨i, hi, g1, hn2⟩ := cx_one hr hv h0 (hz 3 (by decide) (by decide)) ⟨x, 3, by omega, by decide, by
      have e3 : un 3 x = 0 := by unfold un; rw [if_neg (by omega)]
      have e4 : un 3 3 = 1 := by decide
      unfold m2; rw [e3, e4]; omega⟩
    rcases rq_lt hr hi with ⟨q, e⟩ | ⟨m, q1, q2, e⟩
    · rw [e] at hn2 g1
      have : i ≠ R := fun z => by rw [z] at hn2; exact xp_same2 _ _ hn2
      exact ⟨i, i, ⟨by omega, by simp⟩, nx23 hn2, cx_par hr hv (fun _ => h0) (fun _ => g1) (fun h => by omega)⟩
    · rw [e, show m = 3 by omega] at hn2; exact absurd hn2 (xp_same3 _ _)
  · obtain ⟨i, j, hi, hj, g1, g2, hn2⟩ := cx_two hr hv h0 ⟨x, by omega, hxn⟩
    rcases rq_lt hr hi with ⟨q, e⟩ | ⟨m, q1, q2, e⟩
    · rcases rq_lt hr hj with ⟨q', e'⟩ | ⟨m, q1, q2, e'⟩
      · rw [e] at hn2 g1
        rw [e'] at hn2 g2
        have n1 : i ≠ R := fun z => by rw [z] at hn2; exact xp_same1 _ _ hn2
        have n2 : j ≠ R := fun z => by rw [z] at hn2; exact xp_same2 _ _ hn2
        have n3 : i ≠ j := fun z => by rw [z] at hn2; exact xp_same3 _ _ hn2
        rcases Nat.lt_or_gt_of_ne n3 with hl | hl
        · exact ⟨i, j, ⟨by omega, by simp; omega⟩, hn2, cx_par hr hv (fun _ => h0) (fun _ => g1) (fun _ => g2)⟩
        · exact ⟨j, i, ⟨by omega, by simp; omega⟩, nx23 hn2, cx_par hr hv (fun _ => h0) (fun _ => g2) (fun _ => g1)⟩
      · omega
    · omega
