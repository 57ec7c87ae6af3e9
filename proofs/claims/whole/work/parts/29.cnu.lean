/-! how many corners at most: each is the least or the greatest of a row's face by a general measure -/
def pG : V4 := fun i => if i = 0 then 1 else if i = 1 then 1000000000000000 else if i = 2 then 1000000000000000000000000000000 else 1000000000000000000000000000000000000000000000
def sG : V4 := fun _ => 1
theorem gen_z {D : V4} (hb : ∀ i, i < 4 → -300000000000000 ≤ D i ∧ D i ≤ 300000000000000) (h : dt pG D = 0) : ∀ i, i < 4 → D i = 0 := by
  have e : D 0 + 1000000000000000 * D 1 + 1000000000000000000000000000000 * D 2 + 1000000000000000000000000000000000000000000000 * D 3 = 0 := by
    rw [← h]; simp [dt, pG]
  have h0 := hb 0 (by decide)
  have h1 := hb 1 (by decide)
  have h2 := hb 2 (by decide)
  have h3 := hb 3 (by decide)
  have z0 : D 0 = 0 := by omega
  have z1 : D 1 = 0 := by omega
  have z2 : D 2 = 0 := by omega
  have z3 : D 3 = 0 := by omega
  intro i hi
  rcases (show i = 0 ∨ i = 1 ∨ i = 2 ∨ i = 3 by omega) with rfl | rfl | rfl | rfl <;> assumption
theorem sG_dt (v : V4) : dt sG v = v 0 + v 1 + v 2 + v 3 := by simp [dt, sG]
theorem sG_pos {v : V4} (h : pos4 v) : 0 < dt sG v := by
  rw [sG_dt]
  obtain ⟨i, hi, hne⟩ := h.2
  have h0 := h.1 0 (by decide)
  have h1 := h.1 1 (by decide)
  have h2 := h.1 2 (by decide)
  have h3 := h.1 3 (by decide)
  rcases (show i = 0 ∨ i = 1 ∨ i = 2 ∨ i = 3 by omega) with rfl | rfl | rfl | rfl <;> omega
/-- the measure seen from v -/
def gv (v : V4) : V4 := fun m => dt sG v * pG m - dt pG v * sG m
theorem dt_gv (v x : V4) : dt (gv v) x = dt sG v * dt pG x - dt pG v * dt sG x := by
  show dt (fun m => dt sG v * pG m - dt pG v * sG m) x = _
  generalize dt sG v = a
  generalize dt pG v = b
  simp only [dt]
  grind
theorem gv_self (v : V4) : dt (gv v) v = 0 := by rw [dt_gv, Int.mul_comm (dt sG v), Int.sub_self]
theorem gv_anti (v w : V4) : dt (gv v) w = -(dt (gv w) v) := by rw [dt_gv, dt_gv]; grind
theorem gv_trans {a b c : V4} (ha : pos4 a) (hb : pos4 b) (hc : pos4 c) (h1 : 0 ≤ dt (gv a) b) (h2 : 0 ≤ dt (gv b) c) : 0 ≤ dt (gv a) c := by
  rw [dt_gv] at *
  have sa := sG_pos ha
  have sb := sG_pos hb
  have sc := sG_pos hc
  generalize dt sG a = x at *
  generalize dt sG b = y at *
  generalize dt sG c = z at *
  generalize dt pG a = p at *
  generalize dt pG b = q at *
  generalize dt pG c = r at *
  have k1 := Int.mul_nonneg (Int.le_of_lt sc) h1
  have k2 := Int.mul_nonneg (Int.le_of_lt sa) h2
  have e : z * (x * q - p * y) + x * (y * r - q * z) = y * (x * r - p * z) := by grind
  have k3 : 0 ≤ y * (x * r - p * z) := by rw [← e]; omega
  exact (sg_mul sb Int.one_pos (show y * (x * r - p * z) = 1 * (y * (x * r - p * z)) by omega)).1.mpr k3
theorem gv_zero {v w : V4} (hv : pos4 v) (hw : pos4 w) (bv : ∀ i, i < 4 → v i ≤ 6000000) (bw : ∀ i, i < 4 → w i ≤ 6000000) (h : dt (gv v) w = 0) : par v w := by
  have z := gen_z (D := fun i => dt sG v * w i - dt sG w * v i) (by
    intro i hi
    have sv : 0 ≤ dt sG v ∧ dt sG v ≤ 24000000 := by
      rw [sG_dt]
      have := hv.1 0 (by decide); have := hv.1 1 (by decide); have := hv.1 2 (by decide); have := hv.1 3 (by decide)
      have := bv 0 (by decide); have := bv 1 (by decide); have := bv 2 (by decide); have := bv 3 (by decide)
      omega
    have sw : 0 ≤ dt sG w ∧ dt sG w ≤ 24000000 := by
      rw [sG_dt]
      have := hw.1 0 (by decide); have := hw.1 1 (by decide); have := hw.1 2 (by decide); have := hw.1 3 (by decide)
      have := bw 0 (by decide); have := bw 1 (by decide); have := bw 2 (by decide); have := bw 3 (by decide)
      omega
    have m1 := mb (a := dt sG v) (b := w i) (A := 24000000) (B := 6000000) (by omega) sv.2 (by have := hw.1 i hi; omega) (bw i hi)
    have m2 := mb (a := dt sG w) (b := v i) (A := 24000000) (B := 6000000) (by omega) sw.2 (by have := hv.1 i hi; omega) (bv i hi)
    show -300000000000000 ≤ dt sG v * w i - dt sG w * v i ∧ dt sG v * w i - dt sG w * v i ≤ 300000000000000
    omega) (by
    have e : dt pG (fun i => dt sG v * w i - dt sG w * v i) = dt sG v * dt pG w - dt sG w * dt pG v := by
      generalize dt sG v = a
      generalize dt sG w = b
      simp only [dt]
      grind
    rw [e]
    rw [dt_gv] at h
    rw [← h, Int.mul_comm (dt sG w)])
  have sv := sG_pos hv
  intro i hi j hj
  have zi : dt sG v * w i - dt sG w * v i = 0 := z i hi
  have zj : dt sG v * w j - dt sG w * v j = 0 := z j hj
  generalize dt sG v = a at *
  generalize dt sG w = b at *
  apply Int.eq_of_mul_eq_mul_left (show a ≠ 0 by omega)
  have e1 : a * w i = b * v i := by omega
  have e2 : a * w j = b * v j := by omega
  have q1 : a * (v i * w j) = v i * (a * w j) := by grind
  have q2 : a * (v j * w i) = v j * (a * w i) := by grind
  rw [q1, q2, e1, e2]
  grind
/-- f j is the least (e even) or the greatest (e odd) on the face of row e / 2 -/
def Sv (V : Nat) (b f : Nat → V4) (j e : Nat) : Prop := dt (b (e / 2)) (f j) = 0 ∧ ∀ l, l < V → dt (b (e / 2)) (f l) = 0 → (e % 2 = 0 → 0 ≤ dt (gv (f j)) (f l)) ∧ (e % 2 = 1 → dt (gv (f j)) (f l) ≤ 0)
theorem Sv_uniq {V : Nat} {b f : Nat → V4} (hf : ∀ j, j < V → pos4 (f j)) (hbd : ∀ j, j < V → ∀ i, i < 4 → f j i ≤ 6000000) (hnp : ∀ i j, i < V → j < V → par (f i) (f j) → i = j) {j l e : Nat} (hj : j < V) (hl : l < V) (h1 : Sv V b f j e) (h2 : Sv V b f l e) : j = l := by
  apply hnp j l hj hl
  apply gv_zero (hf j hj) (hf l hl) (hbd j hj) (hbd l hl)
  have a := h1.2 l hl h2.1
  have c := h2.2 j hj h1.1
  rw [gv_anti (f l)] at c
  rcases (show e % 2 = 0 ∨ e % 2 = 1 by omega) with p | p
  · have := a.1 p; have := c.1 p; omega
  · have := a.2 p; have := c.2 p; omega
theorem xp_same1 (a c : V4) : ¬ nv (xp a a c) := by
  rintro ⟨i, hi, hne⟩
  apply hne
  rcases (show i = 0 ∨ i = 1 ∨ i = 2 ∨ i = 3 by omega) with rfl | rfl | rfl | rfl <;> simp only [xp_0, xp_1, xp_2, xp_3, d3] <;> grind
theorem xp_same2 (a c : V4) : ¬ nv (xp a c a) := by
  rintro ⟨i, hi, hne⟩
  apply hne
  rcases (show i = 0 ∨ i = 1 ∨ i = 2 ∨ i = 3 by omega) with rfl | rfl | rfl | rfl <;> simp only [xp_0, xp_1, xp_2, xp_3, d3] <;> grind
theorem xp_same3 (a c : V4) : ¬ nv (xp c a a) := by
  rintro ⟨i, hi, hne⟩
  apply hne
  rcases (show i = 0 ∨ i = 1 ∨ i = 2 ∨ i = 3 by omega) with rfl | rfl | rfl | rfl <;> simp only [xp_0, xp_1, xp_2, xp_3, d3] <;> grind
theorem least_gv {f : Nat → V4} : ∀ (V : Nat), 0 < V → (∀ j, j < V → pos4 (f j)) → ∃ m, m < V ∧ ∀ l, l < V → 0 ≤ dt (gv (f m)) (f l) := by
  intro V
  induction V with
  | zero => intro h; omega
  | succ V ih =>
    intro _ hf
    by_cases c : V = 0
    · subst c
      exact ⟨0, by omega, fun l hl => by rw [show l = 0 by omega, gv_self]; omega⟩
    · obtain ⟨m, hm, h⟩ := ih (by omega) (fun j hj => hf j (by omega))
      by_cases g : 0 ≤ dt (gv (f m)) (f V)
      · exact ⟨m, by omega, fun l hl => by
          rcases Nat.lt_succ_iff_lt_or_eq.mp hl with q | q
          · exact h l q
          · rw [q]; exact g⟩
      · have g2 : 0 ≤ dt (gv (f V)) (f m) := by rw [gv_anti]; omega
        exact ⟨V, by omega, fun l hl => by
          rcases Nat.lt_succ_iff_lt_or_eq.mp hl with q | q
          · exact gv_trans (hf V (by omega)) (hf m (by omega)) (hf l hl) g2 (h l q)
          · rw [q, gv_self]; omega⟩
theorem most_gv {f : Nat → V4} : ∀ (V : Nat), 0 < V → (∀ j, j < V → pos4 (f j)) → ∃ m, m < V ∧ ∀ l, l < V → dt (gv (f m)) (f l) ≤ 0 := by
  intro V
  induction V with
  | zero => intro h; omega
  | succ V ih =>
    intro _ hf
    by_cases c : V = 0
    · subst c
      exact ⟨0, by omega, fun l hl => by rw [show l = 0 by omega, gv_self]; omega⟩
    · obtain ⟨m, hm, h⟩ := ih (by omega) (fun j hj => hf j (by omega))
      by_cases g : dt (gv (f m)) (f V) ≤ 0
      · exact ⟨m, by omega, fun l hl => by
          rcases Nat.lt_succ_iff_lt_or_eq.mp hl with q | q
          · exact h l q
          · rw [q]; exact g⟩
      · exact ⟨V, by omega, fun l hl => by
          rcases Nat.lt_succ_iff_lt_or_eq.mp hl with q | q
          · have k := gv_trans (hf l hl) (hf m (by omega)) (hf V (by omega)) (by rw [gv_anti]; have := h l q; omega) (by omega)
            rw [gv_anti]; omega
          · rw [q, gv_self]; omega⟩
def Tr (n : Nat) (b : Nat → V4) (v : V4) : Prop := ∃ i j k, i < n ∧ j < n ∧ k < n ∧ dt (b i) v = 0 ∧ dt (b j) v = 0 ∧ dt (b k) v = 0 ∧ nv (xp (b i) (b j) (b k))
theorem sv_ex {n V : Nat} {b f : Nat → V4} (hf : ∀ j, j < V → pos4 (f j)) (hin : ∀ j, j < V → ∀ i, i < n → 0 ≤ dt (b i) (f j)) {j : Nat} (hj : j < V) (ht : Tr n b (f j)) : ∃ e, e < 2 * n ∧ Sv V b f j e := by
  obtain ⟨i1, i2, i3, h1, h2, h3, g1, g2, g3, hn⟩ := ht
  obtain ⟨D, al, be, ga, hD, hc⟩ := comb3 g1 g2 g3 hn (hf j hj).2 (gv_self (f j))
  have mk : ∀ i, i < n → dt (b i) (f j) = 0 → ((∀ l, l < V → dt (b i) (f l) = 0 → 0 ≤ D * dt (gv (f j)) (f l)) ∨ (∀ l, l < V → dt (b i) (f l) = 0 → D * dt (gv (f j)) (f l) ≤ 0)) → ∃ e, e < 2 * n ∧ Sv V b f j e := by
    intro i hi hz h
    rcases h with h | h
    · refine ⟨2 * i, by omega, by rw [show 2 * i / 2 = i by omega]; exact hz, fun l hl h0 => ?_⟩
      rw [show 2 * i / 2 = i by omega] at h0
      exact ⟨fun _ => (sg_mul hD Int.one_pos (show D * dt (gv (f j)) (f l) = 1 * (D * dt (gv (f j)) (f l)) by omega)).1.mpr (h l hl h0), fun q => by omega⟩
    · refine ⟨2 * i + 1, by omega, by rw [show (2 * i + 1) / 2 = i by omega]; exact hz, fun l hl h0 => ?_⟩
      rw [show (2 * i + 1) / 2 = i by omega] at h0
      refine ⟨fun q => by omega, fun _ => ?_⟩
      have := h l hl h0
      apply Classical.byContradiction
      intro q
      have := Int.mul_pos hD (show 0 < dt (gv (f j)) (f l) by omega)
      omega
  have mn : ∀ {a x : Int}, a ≤ 0 → 0 ≤ x → a * x ≤ 0 := fun {a x} ha hx => by
    have := Int.mul_nonneg (show 0 ≤ -a by omega) hx
    rw [Int.neg_mul] at this
    omega
  rcases (show (0 ≤ al ∧ 0 ≤ be) ∨ (al ≤ 0 ∧ be ≤ 0) ∨ (0 ≤ al ∧ 0 ≤ ga) ∨ (al ≤ 0 ∧ ga ≤ 0) ∨ (0 ≤ be ∧ 0 ≤ ga) ∨ (be ≤ 0 ∧ ga ≤ 0) by omega) with ⟨p, q⟩ | ⟨p, q⟩ | ⟨p, q⟩ | ⟨p, q⟩ | ⟨p, q⟩ | ⟨p, q⟩
  · exact mk i3 h3 g3 (Or.inl fun l hl h0 => by rw [hc, h0, Int.mul_zero]; have := Int.mul_nonneg p (hin l hl i1 h1); have := Int.mul_nonneg q (hin l hl i2 h2); omega)
  · exact mk i3 h3 g3 (Or.inr fun l hl h0 => by rw [hc, h0, Int.mul_zero]; have := mn p (hin l hl i1 h1); have := mn q (hin l hl i2 h2); omega)
  · exact mk i2 h2 g2 (Or.inl fun l hl h0 => by rw [hc, h0, Int.mul_zero]; have := Int.mul_nonneg p (hin l hl i1 h1); have := Int.mul_nonneg q (hin l hl i3 h3); omega)
  · exact mk i2 h2 g2 (Or.inr fun l hl h0 => by rw [hc, h0, Int.mul_zero]; have := mn p (hin l hl i1 h1); have := mn q (hin l hl i3 h3); omega)
  · exact mk i1 h1 g1 (Or.inl fun l hl h0 => by rw [hc, h0, Int.mul_zero]; have := Int.mul_nonneg p (hin l hl i2 h2); have := Int.mul_nonneg q (hin l hl i3 h3); omega)
  · exact mk i1 h1 g1 (Or.inr fun l hl h0 => by rw [hc, h0, Int.mul_zero]; have := mn p (hin l hl i2 h2); have := mn q (hin l hl i3 h3); omega)
set_option maxHeartbeats 4000000 in
theorem cnt {n V : Nat} {b f : Nat → V4} (hf : ∀ j, j < V → pos4 (f j)) (hin : ∀ j, j < V → ∀ i, i < n → 0 ≤ dt (b i) (f j)) (htr : ∀ j, j < V → Tr n b (f j)) (hnp : ∀ i j, i < V → j < V → par (f i) (f j) → i = j) (hbd : ∀ j, j < V → ∀ i, i < 4 → f j i ≤ 6000000) (hV : 2 ≤ V) : V + 4 ≤ 2 * n := by
  have uq : ∀ {j l e : Nat}, j < V → l < V → Sv V b f j e → Sv V b f l e → j = l := fun hj hl h1 h2 => Sv_uniq hf hbd hnp hj hl h1 h2
  obtain ⟨mn, hmn, mnh⟩ := least_gv V (by omega) hf
  obtain ⟨mx, hmx, mxh⟩ := most_gv V (by omega) hf
  have hne : mn ≠ mx := by
    intro e
    have z : ∀ l, l < V → mn = l := fun l hl => hnp mn l hmn hl (gv_zero (hf mn hmn) (hf l hl) (hbd mn hmn) (hbd l hl) (by have := mnh l hl; have h2 := mxh l hl; rw [← e] at h2; omega))
    have := z 0 (by omega)
    have := z 1 (by omega)
    omega
  obtain ⟨i1, i2, i3, h1, h2, h3, g1, g2, g3, hn⟩ := htr mn hmn
  obtain ⟨k1, k2, k3, h1', h2', h3', g1', g2', g3', hn'⟩ := htr mx hmx
  have d12 : i1 ≠ i2 := fun e => xp_same1 _ _ (by rw [e] at hn; exact hn)
  have d13 : i1 ≠ i3 := fun e => xp_same2 _ _ (by rw [e] at hn; exact hn)
  have d23 : i2 ≠ i3 := fun e => xp_same3 _ _ (by rw [e] at hn; exact hn)
  have e12 : k1 ≠ k2 := fun e => xp_same1 _ _ (by rw [e] at hn'; exact hn')
  have e13 : k1 ≠ k3 := fun e => xp_same2 _ _ (by rw [e] at hn'; exact hn')
  have e23 : k2 ≠ k3 := fun e => xp_same3 _ _ (by rw [e] at hn'; exact hn')
  have sm : ∀ i, dt (b i) (f mn) = 0 → Sv V b f mn (2 * i) := fun i hi => ⟨by rw [show 2 * i / 2 = i by omega]; exact hi, fun l hl _ => ⟨fun _ => mnh l hl, fun q => by omega⟩⟩
  have sx : ∀ i, dt (b i) (f mx) = 0 → Sv V b f mx (2 * i + 1) := fun i hi => ⟨by rw [show (2 * i + 1) / 2 = i by omega]; exact hi, fun l hl _ => ⟨fun q => by omega, fun _ => mxh l hl⟩⟩
  have H : ∀ j, ∃ e, j < V → e < 2 * n ∧ Sv V b f j e := fun j => by
    by_cases c : j < V
    · obtain ⟨e, he⟩ := sv_ex hf hin c (htr j c); exact ⟨e, fun _ => he⟩
    · exact ⟨0, fun q => absurd q c⟩
  have HF : ∀ j, ∃ e o, j < V + 4 → e < 2 * n ∧ o < V ∧ Sv V b f o e ∧ ((j < V ∧ o = j ∧ j ≠ mn ∧ j ≠ mx) ∨ (j = mn ∧ o = mn ∧ e = 2 * i1) ∨ (j = mx ∧ o = mx ∧ e = 2 * k1 + 1) ∨ (j = V ∧ o = mn ∧ e = 2 * i2) ∨ (j = V + 1 ∧ o = mn ∧ e = 2 * i3) ∨ (j = V + 2 ∧ o = mx ∧ e = 2 * k2 + 1) ∨ (j = V + 3 ∧ o = mx ∧ e = 2 * k3 + 1)) := by
    intro j
    by_cases c1 : j = mn
    · exact ⟨2 * i1, mn, fun _ => ⟨by omega, hmn, sm i1 g1, Or.inr (Or.inl ⟨c1, rfl, rfl⟩)⟩⟩
    by_cases c2 : j = mx
    · exact ⟨2 * k1 + 1, mx, fun _ => ⟨by omega, hmx, sx k1 g1', Or.inr (Or.inr (Or.inl ⟨c2, rfl, rfl⟩))⟩⟩
    by_cases c3 : j = V
    · exact ⟨2 * i2, mn, fun _ => ⟨by omega, hmn, sm i2 g2, Or.inr (Or.inr (Or.inr (Or.inl ⟨c3, rfl, rfl⟩)))⟩⟩
    by_cases c4 : j = V + 1
    · exact ⟨2 * i3, mn, fun _ => ⟨by omega, hmn, sm i3 g3, Or.inr (Or.inr (Or.inr (Or.inr (Or.inl ⟨c4, rfl, rfl⟩))))⟩⟩
    by_cases c5 : j = V + 2
    · exact ⟨2 * k2 + 1, mx, fun _ => ⟨by omega, hmx, sx k2 g2', Or.inr (Or.inr (Or.inr (Or.inr (Or.inr (Or.inl ⟨c5, rfl, rfl⟩)))))⟩⟩
    by_cases c6 : j = V + 3
    · exact ⟨2 * k3 + 1, mx, fun _ => ⟨by omega, hmx, sx k3 g3', Or.inr (Or.inr (Or.inr (Or.inr (Or.inr (Or.inr ⟨c6, rfl, rfl⟩)))))⟩⟩
    · obtain ⟨e, he⟩ := H j
      exact ⟨e, j, fun q => ⟨(he (by omega)).1, by omega, (he (by omega)).2, Or.inl ⟨by omega, rfl, c1, c2⟩⟩⟩
  refine inj_le (V + 4) (2 * n) (fun j => (HF j).choose) (fun j hj => ((HF j).choose_spec.choose_spec hj).1) (fun i j hi hj he0 => ?_)
  have a := (HF i).choose_spec.choose_spec hi
  have c := (HF j).choose_spec.choose_spec hj
  generalize (HF i).choose_spec.choose = o at a
  generalize (HF j).choose_spec.choose = o' at c
  have he : (HF i).choose = (HF j).choose := he0
  rw [he] at a
  generalize (HF j).choose = e at a c
  have oo := uq a.2.1 c.2.1 a.2.2.1 c.2.2.1
  have aa := a.2.2.2
  have cc := c.2.2.2
  clear a c he he0 HF H sm sx mnh mxh hn hn' g1 g2 g3 g1' g2' g3' uq htr hin hf hnp hbd
  rcases aa with ⟨a1, a2, a3, a4⟩ | ⟨a1, a2, a3⟩ | ⟨a1, a2, a3⟩ | ⟨a1, a2, a3⟩ | ⟨a1, a2, a3⟩ | ⟨a1, a2, a3⟩ | ⟨a1, a2, a3⟩ <;> rcases cc with ⟨c1, c2, c3, c4⟩ | ⟨c1, c2, c3⟩ | ⟨c1, c2, c3⟩ | ⟨c1, c2, c3⟩ | ⟨c1, c2, c3⟩ | ⟨c1, c2, c3⟩ | ⟨c1, c2, c3⟩ <;> omega
