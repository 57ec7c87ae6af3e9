/-! an extreme ray lies on three rows whose cross product isn't 0 -/
theorem ex_null {A : List V4} {v y : V4} (hv : Ex A v) (h : ∀ a ∈ A, dt a v = 0 → dt a y = 0) : par y v := by
  obtain ⟨N, hN, h1⟩ := big_n A v y
  obtain ⟨M, hM, h2⟩ := big_n A v (fun i => -y i)
  have en : ∀ a, dt a (fun i => -y i) = -(dt a y) := fun a => by simp only [dt]; grind
  have e1 : ∀ a, dt a (fun i => (N + M) * v i + y i) = (N + M) * dt a v + dt a y := fun a => by simp only [dt]; grind
  have e2 : ∀ a, dt a (fun i => (N + M) * v i - y i) = (N + M) * dt a v - dt a y := fun a => by simp only [dt]; grind
  have both : ∀ a ∈ A, 0 ≤ (N + M) * dt a v + dt a y ∧ 0 ≤ (N + M) * dt a v - dt a y := by
    intro a ha
    have h0 := hv.1 a ha
    by_cases c : dt a v = 0
    · rw [c, h a ha c]; simp
    · have c' : 0 < dt a v := by omega
      have g1 := h1 a ha c'
      have g2 := h2 a ha c'
      rw [en] at g2
      have e : (N + M) * dt a v = N * dt a v + M * dt a v := Int.add_mul _ _ _
      have p1 := Int.mul_pos hN c'
      have p2 := Int.mul_pos hM c'
      omega
  have hp := hv.2.2 (fun i => (N + M) * v i + y i) (fun i => (N + M) * v i - y i) (2 * (N + M)) (fun a ha => by rw [e1 a]; exact (both a ha).1) (fun a ha => by rw [e2 a]; exact (both a ha).2) (by omega) (fun i _ => by
    generalize N + M = K
    have : 2 * K * v i = 2 * (K * v i) := Int.mul_assoc _ _ _
    omega)
  intro i hi j hj
  have := hp i hi j hj
  generalize N + M = K at *
  have k1 : (K * v i + y i) * v j = K * (v i * v j) + y i * v j := by grind
  have k2 : (K * v j + y j) * v i = K * (v i * v j) + y j * v i := by grind
  rw [k1, k2] at this
  omega
def un (l : Nat) : V4 := fun i => if i = l then 1 else 0
theorem dt_xpu (r s t : V4) {l : Nat} (hl : l < 4) : dt t (xp r s (un l)) = -(xp r s t l) := by
  rcases (show l = 0 ∨ l = 1 ∨ l = 2 ∨ l = 3 by omega) with rfl | rfl | rfl | rfl <;> simp [dt, xp_0, xp_1, xp_2, xp_3, d3, un] <;> grind
theorem xpu_anti (r s : V4) {l j : Nat} (hl : l < 4) (hj : j < 4) : xp r s (un l) j = -(xp r s (un j) l) := by
  rcases (show l = 0 ∨ l = 1 ∨ l = 2 ∨ l = 3 by omega) with rfl | rfl | rfl | rfl <;> rcases (show j = 0 ∨ j = 1 ∨ j = 2 ∨ j = 3 by omega) with rfl | rfl | rfl | rfl <;> simp [xp_0, xp_1, xp_2, xp_3, d3, un] <;> grind
/-- from here on: all minors of two rows out of the unit cross products -/
theorem m2_of_xpu {r s : V4} (h : ∀ l, l < 4 → ∀ j, j < 4 → xp r s (un l) j = 0) : ∀ i, i < 4 → ∀ j, j < 4 → m2 r s i j = 0 := by
  have h01 := h 0 (by decide) 1 (by decide)
  have h02 := h 0 (by decide) 2 (by decide)
  have h03 := h 0 (by decide) 3 (by decide)
  have h12 := h 1 (by decide) 2 (by decide)
  have h13 := h 1 (by decide) 3 (by decide)
  have h23 := h 2 (by decide) 3 (by decide)
  simp [xp_1, xp_2, xp_3, d3, un] at h01 h02 h03 h12 h13 h23
  intro i hi j hj
  rcases (show i = 0 ∨ i = 1 ∨ i = 2 ∨ i = 3 by omega) with rfl | rfl | rfl | rfl <;> rcases (show j = 0 ∨ j = 1 ∨ j = 2 ∨ j = 3 by omega) with rfl | rfl | rfl | rfl <;> simp only [m2] <;> grind
theorem ex_rows {A : List V4} {v : V4} (hv : Ex A v) : ∃ r s t, r ∈ A ∧ s ∈ A ∧ t ∈ A ∧ dt r v = 0 ∧ dt s v = 0 ∧ dt t v = 0 ∧ nv (xp r s t) := by
  apply Classical.byContradiction
  intro hno
  obtain ⟨p, hp, hpn⟩ := hv.2.1
  have hz : ∀ r s t, r ∈ A → s ∈ A → t ∈ A → dt r v = 0 → dt s v = 0 → dt t v = 0 → ∀ i, i < 4 → xp r s t i = 0 := fun r s t h1 h2 h3 g1 g2 g3 i hi => Classical.byContradiction fun hne => hno ⟨r, s, t, h1, h2, h3, g1, g2, g3, i, hi, hne⟩
  -- all minors of two
  have hm : ∀ r s, r ∈ A → s ∈ A → dt r v = 0 → dt s v = 0 → ∀ i, i < 4 → ∀ j, j < 4 → m2 r s i j = 0 := by
    intro r s h1 h2 g1 g2
    apply m2_of_xpu
    have hpar : ∀ l, l < 4 → par (xp r s (un l)) v := fun l hl => ex_null hv (fun t ht h0 => by rw [dt_xpu r s t hl, hz r s t h1 h2 ht g1 g2 h0 l hl]; rfl)
    have hpp : ∀ j, j < 4 → xp r s (un p) j = 0 := by
      intro j hj
      have a := hpar p hp j hj p hp
      have b := xpu_anti r s hp hp
      have c : xp r s (un p) p = 0 := by omega
      rw [c, Int.zero_mul] at a
      exact (Int.mul_eq_zero.mp a).resolve_right hpn
    intro l hl j hj
    have a := hpar l hl j hj p hp
    have b := xpu_anti r s hl hp
    rw [hpp l hl] at b
    rw [b] at a
    simp only [Int.neg_zero, Int.zero_mul] at a
    exact (Int.mul_eq_zero.mp a).resolve_right hpn
  -- all rows
  have hr0 : ∀ r, r ∈ A → dt r v = 0 → ∀ i, i < 4 → r i = 0 := by
    intro r h1 g1 i hi
    apply Classical.byContradiction
    intro hne
    have hpar : ∀ j, j < 4 → j ≠ i → par (fun x => if x = i then r j else if x = j then -(r i) else 0) v := by
      intro j hj hji
      refine ex_null hv (fun t ht h0 => ?_)
      have hmt := hm r t h1 ht g1 h0 i hi j hj
      have e : dt t (fun x => if x = i then r j else if x = j then -(r i) else 0) = -(m2 r t i j) := by
        rcases (show i = 0 ∨ i = 1 ∨ i = 2 ∨ i = 3 by omega) with rfl | rfl | rfl | rfl <;> rcases (show j = 0 ∨ j = 1 ∨ j = 2 ∨ j = 3 by omega) with rfl | rfl | rfl | rfl <;> first | exact absurd rfl hji | (simp [dt, m2]; grind)
      rw [e, hmt]; rfl
    have hvk : ∀ k, k < 4 → k ≠ i → v k = 0 := by
      intro k hk hki
      obtain ⟨j, hj, hji, hjk⟩ : ∃ j, j < 4 ∧ j ≠ i ∧ j ≠ k := by
        rcases (show (0 ≠ i ∧ 0 ≠ k) ∨ (1 ≠ i ∧ 1 ≠ k) ∨ (2 ≠ i ∧ 2 ≠ k) by omega) with h | h | h
        · exact ⟨0, by decide, h⟩
        · exact ⟨1, by decide, h⟩
        · exact ⟨2, by decide, h⟩
      have a := hpar j hj hji j hj k hk
      simp only [if_neg hji, if_neg hki, if_neg (Ne.symm hjk), if_pos, Int.zero_mul] at a
      have a : -(r i) * v k = 0 := by simpa using a
      exact (Int.mul_eq_zero.mp a).resolve_left (by omega)
    have hvi : v i = 0 := by
      obtain ⟨j, hj, hji⟩ : ∃ j, j < 4 ∧ j ≠ i := by
        rcases (show 0 ≠ i ∨ 1 ≠ i by omega) with h | h
        · exact ⟨0, by decide, h⟩
        · exact ⟨1, by decide, h⟩
      have a := hpar j hj hji j hj i hi
      rw [hvk j hj hji] at a
      have a : -(r i) * v i = 0 := by simpa [if_neg hji] using a
      exact (Int.mul_eq_zero.mp a).resolve_left (by omega)
    by_cases c : p = i
    · exact hpn (by rw [c]; exact hvi)
    · exact hpn (hvk p hp c)
  obtain ⟨j, hj, hjp⟩ : ∃ j, j < 4 ∧ j ≠ p := by
    rcases (show 0 ≠ p ∨ 1 ≠ p by omega) with h | h
    · exact ⟨0, by decide, h⟩
    · exact ⟨1, by decide, h⟩
  have hu := ex_null (y := un j) hv (fun a ha h0 => by
    have z := hr0 a ha h0
    simp [dt, z 0 (by decide), z 1 (by decide), z 2 (by decide), z 3 (by decide)])
  have a := hu j hj p hp
  have b : (1 : Int) * v p = 0 * v j := by simpa [un, Ne.symm hjp] using a
  apply hpn
  omega
