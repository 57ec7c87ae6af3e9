/-! three rows of an extreme ray when some of its rows are given; how large, how many -/
theorem ex_ext3 {A : List V4} {v r s : V4} (hv : Ex A v) (g1 : dt r v = 0) (g2 : dt s v = 0) (hm : ∃ i j, i < 4 ∧ j < 4 ∧ m2 r s i j ≠ 0) : ∃ t, t ∈ A ∧ dt t v = 0 ∧ nv (xp r s t) := by
  apply Classical.byContradiction
  intro hno
  obtain ⟨p, hp, hpn⟩ := hv.2.1
  have hz : ∀ t, t ∈ A → dt t v = 0 → ∀ i, i < 4 → xp r s t i = 0 := fun t h3 g3 i hi => Classical.byContradiction fun hne => hno ⟨t, h3, g3, i, hi, hne⟩
  obtain ⟨i0, j0, hi0, hj0, hne0⟩ := hm
  apply hne0
  refine m2_of_xpu ?_ i0 hi0 j0 hj0
  have hpar : ∀ l, l < 4 → par (xp r s (un l)) v := fun l hl => ex_null hv (fun t ht h0 => by rw [dt_xpu r s t hl, hz t ht h0 l hl]; rfl)
  have hpp : ∀ j, j < 4 → xp r s (un p) j = 0 := by
    intro j hj
    have a := hpar p hp j hj p hp
    have b := xpu_anti r s hp hp
    have c : xp r s (un p) p = 0 := by omega
    rw [c, Int.zero_mul] at a
    exact (Int.mul_eq_zero.mp a).resolve_right hpn
  intro l hl j hj
  have a := hpar l hl j hj p hp
  have b := xpu_anti r s hl hp
  rw [hpp l hl] at b
  rw [b] at a
  simp only [Int.neg_zero, Int.zero_mul] at a
  exact (Int.mul_eq_zero.mp a).resolve_right hpn
theorem ex_ext2 {A : List V4} {v r : V4} (hv : Ex A v) (hr : nv r) : ∃ s, s ∈ A ∧ dt s v = 0 ∧ ∃ i j, i < 4 ∧ j < 4 ∧ m2 r s i j ≠ 0 := by
  apply Classical.byContradiction
  intro hno
  obtain ⟨p, hp, hpn⟩ := hv.2.1
  have hm : ∀ t, t ∈ A → dt t v = 0 → ∀ i, i < 4 → ∀ j, j < 4 → m2 r t i j = 0 := fun t ht h0 i hi j hj => Classical.byContradiction fun hne => hno ⟨t, ht, h0, i, j, hi, hj, hne⟩
  obtain ⟨i, hi, hne⟩ := hr
  have hpar : ∀ j, j < 4 → j ≠ i → par (fun x => if x = i then r j else if x = j then -(r i) else 0) v := by
    intro j hj hji
    refine ex_null hv (fun t ht h0 => ?_)
    have hmt := hm t ht h0 i hi j hj
    have e : dt t (fun x => if x = i then r j else if x = j then -(r i) else 0) = -(m2 r t i j) := by
      rcases (show i = 0 ∨ i = 1 ∨ i = 2 ∨ i = 3 by omega) with rfl | rfl | rfl | rfl <;> rcases (show j = 0 ∨ j = 1 ∨ j = 2 ∨ j = 3 by omega) with rfl | rfl | rfl | rfl <;> first | exact absurd rfl hji | (simp [dt, m2]; grind)
    rw [e, hmt]; rfl
  have hvk : ∀ k, k < 4 → k ≠ i → v k = 0 := by
    intro k hk hki
    obtain ⟨j, hj, hji, hjk⟩ : ∃ j, j < 4 ∧ j ≠ i ∧ j ≠ k := by
      rcases (show (0 ≠ i ∧ 0 ≠ k) ∨ (1 ≠ i ∧ 1 ≠ k) ∨ (2 ≠ i ∧ 2 ≠ k) by omega) with h | h | h
      · exact ⟨0, by decide, h⟩
      · exact ⟨1, by decide, h⟩
      · exact ⟨2, by decide, h⟩
    have a := hpar j hj hji j hj k hk
    simp only [if_neg hji, if_neg hki, if_neg (Ne.symm hjk), if_pos, Int.zero_mul] at a
    have a : -(r i) * v k = 0 := by simpa using a
    exact (Int.mul_eq_zero.mp a).resolve_left (by omega)
  have hvi : v i = 0 := by
    obtain ⟨j, hj, hji⟩ : ∃ j, j < 4 ∧ j ≠ i := by
      rcases (show 0 ≠ i ∨ 1 ≠ i by omega) with h | h
      · exact ⟨0, by decide, h⟩
      · exact ⟨1, by decide, h⟩
    have a := hpar j hj hji j hj i hi
    rw [hvk j hj hji] at a
    have a : -(r i) * v i = 0 := by simpa [if_neg hji] using a
    exact (Int.mul_eq_zero.mp a).resolve_left (by omega)
  by_cases c : p = i
  · exact hpn (by rw [c]; exact hvi)
  · exact hpn (hvk p hp c)
theorem prm_mul {v x : V4} (hv : prm v) (pv : ∀ i, i < 4 → 0 ≤ v i) (h : par v x) : ∃ m : Int, ∀ i, i < 4 → x i = m * v i := by
  have hnv : nv v := by
    apply Classical.byContradiction
    intro hn
    have z : ∀ i, i < 4 → v i = 0 := fun i hi => Classical.byContradiction fun hne => hn ⟨i, hi, hne⟩
    have := hv 2 (fun i hi => by rw [z i hi]; exact ⟨0, rfl⟩)
    omega
  obtain ⟨p, hp, hne⟩ := hnv
  have hd : (v p).natAbs ∣ (x p).natAbs := by
    have e : ∀ j, j < 4 → (v p).natAbs * (x j).natAbs = (x p).natAbs * (v j).natAbs := fun j hj => by
      rw [← Int.natAbs_mul, ← Int.natAbs_mul, h p hp j hj, Int.mul_comm]
    have ha : 0 < (v p).natAbs := by omega
    generalize (v p).natAbs = a at e ha
    generalize (x p).natAbs = b at e
    have hg : 0 < Nat.gcd a b := Nat.gcd_pos_of_pos_left b ha
    obtain ⟨a', ea⟩ := Nat.gcd_dvd_left a b
    obtain ⟨b', eb⟩ := Nat.gcd_dvd_right a b
    have hco : Nat.Coprime a' b' := by
      have h1 : Nat.gcd a b * Nat.gcd a' b' = Nat.gcd a b * 1 := by
        rw [← Nat.gcd_mul_left, ← ea, ← eb, Nat.mul_one]
      exact Nat.eq_of_mul_eq_mul_left hg h1
    have e2 : ∀ j, j < 4 → a' * (x j).natAbs = b' * (v j).natAbs := fun j hj => by
      have := e j hj
      generalize Nat.gcd a b = g at ea eb hg
      rw [ea, eb] at this
      rw [Nat.mul_assoc, Nat.mul_assoc] at this
      exact Nat.eq_of_mul_eq_mul_left hg this
    have a1 : a' = 1 := hv a' (fun j hj => by
      have := hco.dvd_of_dvd_mul_left ⟨(x j).natAbs, (e2 j hj).symm⟩
      have q := pv j hj
      rwa [show (v j).toNat = (v j).natAbs by omega])
    rw [a1, Nat.mul_one] at ea
    rw [ea]; exact Nat.gcd_dvd_right a b
  obtain ⟨m, hm⟩ := Int.natAbs_dvd_natAbs.mp hd
  refine ⟨m, fun j hj => ?_⟩
  have := h p hp j hj
  rw [hm] at this
  have e : v p * x j = v p * (m * v j) := by rw [this]; grind
  exact Int.eq_of_mul_eq_mul_left hne e
theorem mb {a b A B : Int} (h1 : -A ≤ a) (h2 : a ≤ A) (h3 : -B ≤ b) (h4 : b ≤ B) : -(A * B) ≤ a * b ∧ a * b ≤ A * B := by
  have hA : 0 ≤ A := by omega
  have hB : 0 ≤ B := by omega
  have p1 := Int.mul_nonneg (show 0 ≤ A - a by omega) (show 0 ≤ B - b by omega)
  have p2 := Int.mul_nonneg (show 0 ≤ A + a by omega) (show 0 ≤ B + b by omega)
  have p3 := Int.mul_nonneg (show 0 ≤ A - a by omega) (show 0 ≤ B + b by omega)
  have p4 := Int.mul_nonneg (show 0 ≤ A + a by omega) (show 0 ≤ B - b by omega)
  have e1 : (A - a) * (B - b) = A * B - A * b - a * B + a * b := by grind
  have e2 : (A + a) * (B + b) = A * B + A * b + a * B + a * b := by grind
  have e3 : (A - a) * (B + b) = A * B + A * b - a * B - a * b := by grind
  have e4 : (A + a) * (B - b) = A * B - A * b + a * B - a * b := by grind
  rw [e1] at p1
  rw [e2] at p2
  rw [e3] at p3
  rw [e4] at p4
  generalize A * B = x at *
  generalize A * b = y at *
  generalize a * B = z at *
  generalize a * b = w at *
  omega
/-- a row's numbers are within 100 -/
def bd (a : V4) : Prop := ∀ i, i < 4 → -100 ≤ a i ∧ a i ≤ 100
theorem d3_bd {r s t : V4} (hr : bd r) (hs : bd s) (ht : bd t) {a b c : Nat} (ha : a < 4) (hb : b < 4) (hc : c < 4) : -6000000 ≤ d3 r s t a b c ∧ d3 r s t a b c ≤ 6000000 := by
  have k : ∀ i j, i < 4 → j < 4 → -10000 ≤ s i * t j ∧ s i * t j ≤ 10000 := fun i j hi hj => mb (A := 100) (B := 100) (hs i hi).1 (hs i hi).2 (ht j hj).1 (ht j hj).2
  have e : ∀ i j l, i < 4 → j < 4 → l < 4 → -2000000 ≤ r i * (s j * t l - s l * t j) ∧ r i * (s j * t l - s l * t j) ≤ 2000000 := fun i j l hi hj hl =>
    mb (A := 100) (B := 20000) (hr i hi).1 (hr i hi).2 (by have := k j l hj hl; have := k l j hl hj; omega) (by have := k j l hj hl; have := k l j hl hj; omega)
  have e1 := e a b c ha hb hc
  have e2 := e b a c hb ha hc
  have e3 := e c a b hc ha hb
  unfold d3
  omega
theorem xp_bd {r s t : V4} (hr : bd r) (hs : bd s) (ht : bd t) {i : Nat} (hi : i < 4) : -6000000 ≤ xp r s t i ∧ xp r s t i ≤ 6000000 := by
  have h0 := d3_bd hr hs ht (a := 1) (b := 2) (c := 3) (by decide) (by decide) (by decide)
  have h1 := d3_bd hr hs ht (a := 0) (b := 2) (c := 3) (by decide) (by decide) (by decide)
  have h2 := d3_bd hr hs ht (a := 0) (b := 1) (c := 3) (by decide) (by decide) (by decide)
  have h3 := d3_bd hr hs ht (a := 0) (b := 1) (c := 2) (by decide) (by decide) (by decide)
  rcases (show i = 0 ∨ i = 1 ∨ i = 2 ∨ i = 3 by omega) with rfl | rfl | rfl | rfl
  · rw [xp_0]; omega
  · rw [xp_1]; omega
  · rw [xp_2]; omega
  · rw [xp_3]; omega
theorem ex_bd {A : List V4} (hpos : ∀ w, InC A w → ∀ i, i < 4 → 0 ≤ w i) (hA : ∀ a ∈ A, bd a) {v : V4} (hv : Ex A v) (hp : prm v) : ∀ i, i < 4 → 0 ≤ v i ∧ v i ≤ 6000000 := by
  intro i hi
  have h0 := hpos v hv.1 i hi
  obtain ⟨r, s, t, hr, hs, ht, g1, g2, g3, hn⟩ := ex_rows hv
  obtain ⟨m, hm⟩ := prm_mul hp (hpos v hv.1) (par_symm (xp_par g1 g2 g3))
  have hb := xp_bd (hA r hr) (hA s hs) (hA t ht) hi
  have hm0 : m ≠ 0 := by
    intro z
    obtain ⟨j, hj, hne⟩ := hn
    rw [hm j hj, z, Int.zero_mul] at hne
    exact hne rfl
  refine ⟨h0, ?_⟩
  rw [hm i hi] at hb
  rcases Int.lt_or_lt_of_ne hm0 with h | h
  · have := Int.mul_nonneg (show 0 ≤ -1 - m by omega) h0
    have e : (-1 - m) * v i = -(v i) - m * v i := by grind
    rw [e] at this
    omega
  · have := Int.mul_nonneg (show 0 ≤ m - 1 by omega) h0
    have e : (m - 1) * v i = m * v i - v i := by grind
    rw [e] at this
    omega
theorem dt_bd {r v : V4} (hr : bd r) (hv : ∀ i, i < 4 → 0 ≤ v i ∧ v i ≤ 6000000) : -2400000000 ≤ dt r v ∧ dt r v ≤ 2400000000 := by
  have k : ∀ i, i < 4 → -600000000 ≤ r i * v i ∧ r i * v i ≤ 600000000 := fun i hi => mb (A := 100) (B := 6000000) (hr i hi).1 (hr i hi).2 (by have := (hv i hi).1; omega) (hv i hi).2
  have k0 := k 0 (by decide)
  have k1 := k 1 (by decide)
  have k2 := k 2 (by decide)
  have k3 := k 3 (by decide)
  unfold dt
  omega
/-- Cramer -/
theorem cramer (a b c g N : V4) {m : Nat} (hm : m < 4) : dt a (xp b c N) * g m = dt g (xp b c N) * a m + dt a (xp g c N) * b m + dt a (xp b g N) * c m + dt a (xp b c g) * N m := by
  rcases (show m = 0 ∨ m = 1 ∨ m = 2 ∨ m = 3 by omega) with rfl | rfl | rfl | rfl <;> simp only [dt, xp_0, xp_1, xp_2, xp_3, d3] <;> grind
theorem det_cyc (a b c g : V4) : dt a (xp b c g) = -(dt g (xp a b c)) := by
  simp only [dt, xp_0, xp_1, xp_2, xp_3, d3]; grind
theorem sq_pos {v : V4} (h : nv v) : 0 < dt v v := by
  obtain ⟨i, hi, hne⟩ := h
  have k : ∀ j, 0 ≤ v j * v j := fun j => by
    rcases Int.le_total 0 (v j) with q | q
    · exact Int.mul_nonneg q q
    · have := Int.mul_nonneg (show 0 ≤ -(v j) by omega) (show 0 ≤ -(v j) by omega)
      rwa [Int.neg_mul_neg] at this
  have k0 := k 0
  have k1 := k 1
  have k2 := k 2
  have k3 := k 3
  have ki : v i * v i ≠ 0 := fun e => by rcases Int.mul_eq_zero.mp e with q | q <;> exact hne q
  have kk := k i
  unfold dt
  rcases (show i = 0 ∨ i = 1 ∨ i = 2 ∨ i = 3 by omega) with rfl | rfl | rfl | rfl <;> omega
/-- what vanishes on v is made of three rows of v -/
theorem comb3 {a b c g v : V4} (ha : dt a v = 0) (hb : dt b v = 0) (hc : dt c v = 0) (hn : nv (xp a b c)) (hv : nv v) (hg : dt g v = 0) : ∃ D al be ga : Int, 0 < D ∧ ∀ x, D * dt g x = al * dt a x + be * dt b x + ga * dt c x := by
  have hN : dt g (xp a b c) = 0 := dt_par0 (par_symm (xp_par ha hb hc)) hv hg
  have hD := sq_pos hn
  refine ⟨dt (xp a b c) (xp a b c), -(dt g (xp b c (xp a b c))), -(dt a (xp g c (xp a b c))), -(dt a (xp b g (xp a b c))), hD, fun x => ?_⟩
  have e1 := det_cyc a b c (xp a b c)
  have e2 := det_cyc a b c g
  rw [hN] at e2
  have cm : ∀ m, m < 4 → dt (xp a b c) (xp a b c) * g m = -(dt g (xp b c (xp a b c))) * a m + -(dt a (xp g c (xp a b c))) * b m + -(dt a (xp b g (xp a b c))) * c m := by
    intro m hm
    have := cramer a b c g (xp a b c) hm
    rw [e1, e2] at this
    generalize dt (xp a b c) (xp a b c) = D at *
    generalize dt g (xp b c (xp a b c)) = p at *
    generalize dt a (xp g c (xp a b c)) = q at *
    generalize dt a (xp b g (xp a b c)) = r at *
    simp only [Int.neg_zero, Int.zero_mul, Int.add_zero, Int.neg_mul] at this ⊢
    omega
  generalize dt (xp a b c) (xp a b c) = D at *
  generalize -(dt g (xp b c (xp a b c))) = p at *
  generalize -(dt a (xp g c (xp a b c))) = q at *
  generalize -(dt a (xp b g (xp a b c))) = r at *
  have c0 := cm 0 (by decide)
  have c1 := cm 1 (by decide)
  have c2 := cm 2 (by decide)
  have c3 := cm 3 (by decide)
  have x0 : D * (g 0 * x 0) = p * (a 0 * x 0) + q * (b 0 * x 0) + r * (c 0 * x 0) := by rw [← Int.mul_assoc, c0]; grind
  have x1 : D * (g 1 * x 1) = p * (a 1 * x 1) + q * (b 1 * x 1) + r * (c 1 * x 1) := by rw [← Int.mul_assoc, c1]; grind
  have x2 : D * (g 2 * x 2) = p * (a 2 * x 2) + q * (b 2 * x 2) + r * (c 2 * x 2) := by rw [← Int.mul_assoc, c2]; grind
  have x3 : D * (g 3 * x 3) = p * (a 3 * x 3) + q * (b 3 * x 3) + r * (c 3 * x 3) := by rw [← Int.mul_assoc, c3]; grind
  simp only [dt, Int.mul_add]
  rw [x0, x1, x2, x3]
  grind
