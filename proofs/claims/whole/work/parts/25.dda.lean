/-! every extreme ray behind the cut is one of those kept or of an edge -/
theorem big_n (A : List V4) (u x : V4) : ∃ N : Int, 0 < N ∧ ∀ a ∈ A, 0 < dt a u → dt a x ≤ N * dt a u := by
  induction A with
  | nil => exact ⟨1, by decide, fun a ha => by simp at ha⟩
  | cons b A ih =>
    obtain ⟨N, hN, h⟩ := ih
    refine ⟨N + ((dt b x).natAbs : Int), by omega, fun a ha hu => ?_⟩
    rcases List.mem_cons.mp ha with rfl | ha
    · have e : (N + ((dt a x).natAbs : Int)) * dt a u = N * dt a u + ((dt a x).natAbs : Int) * dt a u := Int.add_mul _ _ _
      have h1 : 0 < N * dt a u := Int.mul_pos hN hu
      have h2 : ((dt a x).natAbs : Int) * 1 ≤ ((dt a x).natAbs : Int) * dt a u := Int.mul_le_mul_of_nonneg_left (by omega) (by omega)
      rw [e]
      omega
    · have h3 := h a ha hu
      have e : (N + ((dt b x).natAbs : Int)) * dt a u = N * dt a u + ((dt b x).natAbs : Int) * dt a u := Int.add_mul _ _ _
      have h4 : 0 ≤ ((dt b x).natAbs : Int) * dt a u := Int.mul_nonneg (by omega) (Int.le_of_lt hu)
      rw [e]
      omega
theorem ex_face {A : List V4} {u x : V4} (hu : Ex A u) (hx : InC A x) (ht : ∀ a ∈ A, dt a u = 0 → dt a x = 0) : par x u := by
  obtain ⟨N, hN, h⟩ := big_n A u x
  have e : ∀ a, dt a (fun i => N * u i - x i) = N * dt a u - dt a x := fun a => by simp only [dt]; grind
  refine hu.2.2 x (fun i => N * u i - x i) N hx (fun a ha => ?_) hN (fun i _ => by omega)
  rw [e a]
  have h0 := hu.1 a ha
  by_cases c : dt a u = 0
  · rw [c, ht a ha c]; simp
  · have := h a ha (by omega)
    omega
theorem ex_two {A : List V4} {v a b : V4} {n al be : Int} (hv : Ex A v) (hn : 0 < n) (h1 : 0 ≤ al) (h1n : al ≠ 0) (h2 : 0 ≤ be) (ha : InC A a) (hb : InC A b) (he : ∀ i, i < 4 → n * v i = al * a i + be * b i) : par a v :=
  par_mul h1n (hv.2.2 (fun i => al * a i) (fun i => be * b i) n (InC_mul h1 ha) (InC_mul h2 hb) hn he)
theorem dd_all {A L : List V4} {r v : V4} (hpos : ∀ w, InC A w → ∀ i, i < 4 → 0 ≤ w i) (hL : ∀ v ∈ L, Ex A v) (hg : ∀ w, InC A w → Co (fun v => v ∈ L) w) (hv : Ex (r :: A) v) : (∃ p, p ∈ L ∧ 0 ≤ dt r p ∧ par p v) ∨ ∃ c d, c ∈ L ∧ d ∈ L ∧ 0 < dt r c ∧ dt r d < 0 ∧ Adj A L c d ∧ par (pr r c d) v := by
  have hPn : ∀ w, Pn (fun v => v ∈ L) r w → InC (r :: A) w := by
    intro w hw
    rcases hw with ⟨h1, h2⟩ | ⟨c, d, h1, h2, h3, h4, rfl⟩
    · intro a ha
      rcases List.mem_cons.mp ha with rfl | ha
      · exact h2
      · exact (hL w h1).1 a ha
    · exact pr_in (hL c h1).1 (hL d h2).1 h3 h4
  obtain ⟨p, hp, hpn, hpp⟩ := ex_gen hPn hv (gen_step (hg v (InC_tail hv.1)) (hv.1 r (by simp)))
  rcases hp with ⟨h1, h2⟩ | ⟨c, d, hc, hd, h1, h2, rfl⟩
  · exact Or.inl ⟨p, h1, h2, hpp⟩
  · refine Or.inr ⟨c, d, hc, hd, h1, h2, ?_, hpp⟩
    have hc0 := hL c hc
    have hd0 := hL d hd
    intro e he htight
    apply Classical.byContradiction
    intro hno
    have hec : ¬ par e c := fun h => hno (Or.inl h)
    have hed : ¬ par e d := fun h => hno (Or.inr h)
    have he0 := hL e he
    -- what v's rows are
    have vt : ∀ a, a ∈ A → dt a v = 0 → dt a c = 0 ∧ dt a d = 0 ∧ dt a e = 0 := by
      intro a ha h0
      have hu0 : dt a (pr r c d) = 0 := dt_par0 (par_symm hpp) hv.2.1 h0
      rw [dt_pr] at hu0
      have g1 := Int.mul_nonneg (show 0 ≤ -(dt r d) by omega) (hc0.1 a ha)
      have g2 := Int.mul_nonneg (Int.le_of_lt h1) (hd0.1 a ha)
      have k1 : dt a c = 0 := (Int.mul_eq_zero.mp (show -(dt r d) * dt a c = 0 by omega)).resolve_left (by omega)
      have k2 : dt a d = 0 := (Int.mul_eq_zero.mp (show dt r c * dt a d = 0 by omega)).resolve_left (by omega)
      exact ⟨k1, k2, htight a ha k1 k2⟩
    have hun := hpn
    -- a vector on the same face, behind the cut, is parallel to the pair's
    have face : ∀ x, InC (r :: A) x → dt r x = 0 → (∀ a ∈ A, dt a v = 0 → dt a x = 0) → par x (pr r c d) := by
      intro x hx hx0 hxt
      have := ex_face hv hx (fun a ha h0 => by
        rcases List.mem_cons.mp ha with rfl | ha
        · exact hx0
        · exact hxt a ha h0)
      exact par_trans (par_symm this) (par_symm hpp) hv.2.1
    obtain ⟨i, hi, hui⟩ := hun
    have hupos : 0 < pr r c d i := by
      have := hpos _ (InC_tail (pr_in hc0.1 hd0.1 h1 h2)) i hi
      omega
    have upr : ∀ j, pr r c d j = -(dt r d) * c j + dt r c * d j := fun j => rfl
    rcases Int.lt_trichotomy (dt r e) 0 with hr | hr | hr
    · -- e behind the cut
      have hx := pr_in (r := r) hc0.1 he0.1 h1 hr
      have hp := face (pr r c e) hx (pr_dt r c e) (fun a ha h0 => by rw [dt_pr, (vt a ha h0).1, (vt a ha h0).2.2]; simp)
      have xpos := hpos _ (InC_tail hx) i hi
      have eqn : ∀ j, j < 4 → pr r c d i * pr r c e j = pr r c e i * pr r c d j := fun j hj => par_scale hi hp j hj
      have xne : pr r c e i ≠ 0 := by
        intro z
        have hxn : nv (pr r c e) := by
          obtain ⟨m, hm, hne⟩ := hc0.2.1
          have p1 := hpos c hc0.1 m hm
          have p2 := hpos e he0.1 m hm
          refine ⟨m, hm, ?_⟩
          have q1 : 0 < -(dt r e) * c m := Int.mul_pos (by omega) (by omega)
          have q2 : 0 ≤ dt r c * e m := Int.mul_nonneg (by omega) p2
          show -(dt r e) * c m + dt r c * e m ≠ 0
          omega
        obtain ⟨m, hm, hne⟩ := hxn
        have := eqn m hm
        rw [z, Int.zero_mul] at this
        exact hne ((Int.mul_eq_zero.mp this).resolve_left hui)
      have xpos : 0 < pr r c e i := by omega
      have upe : ∀ j, pr r c e j = -(dt r e) * c j + dt r c * e j := fun j => rfl
      generalize hU : pr r c d i = U at *
      generalize hX : pr r c e i = X at *
      rcases Int.lt_or_le (X * -(dt r d)) (U * -(dt r e)) with g | g
      · refine hed (ex_two (v := d) (a := e) (b := c) (n := X * dt r c) (al := U * dt r c) (be := U * -(dt r e) - X * -(dt r d)) hd0 (Int.mul_pos xpos h1) (Int.le_of_lt (Int.mul_pos hupos h1)) (by have := Int.mul_pos hupos h1; omega) (by omega) he0.1 hc0.1 (fun j hj => ?_))
        have := eqn j hj
        rw [upr, upe] at this
        grind
      · refine hed (par_symm (ex_two (v := e) (a := d) (b := c) (n := U * dt r c) (al := X * dt r c) (be := X * -(dt r d) - U * -(dt r e)) he0 (Int.mul_pos hupos h1) (Int.le_of_lt (Int.mul_pos xpos h1)) (by have := Int.mul_pos xpos h1; omega) (by omega) hd0.1 hc0.1 (fun j hj => ?_)))
        have := eqn j hj
        rw [upr, upe] at this
        grind
    · -- e on the cut
      have hx : InC (r :: A) e := fun a ha => by
        rcases List.mem_cons.mp ha with rfl | ha
        · omega
        · exact he0.1 a ha
      have hp := face e hx hr (fun a ha h0 => (vt a ha h0).2.2)
      have eqn : ∀ j, j < 4 → pr r c d i * e j = e i * pr r c d j := fun j hj => par_scale hi hp j hj
      have ene : e i ≠ 0 := by
        intro z
        obtain ⟨m, hm, hne⟩ := he0.2.1
        have := eqn m hm
        rw [z, Int.zero_mul] at this
        exact hne ((Int.mul_eq_zero.mp this).resolve_left hui)
      have epos : 0 < e i := by have := hpos e he0.1 i hi; omega
      refine hec (par_symm (ex_two (v := e) (a := c) (b := d) (n := pr r c d i) (al := e i * -(dt r d)) (be := e i * dt r c) he0 hupos (Int.le_of_lt (Int.mul_pos epos (by omega))) (by have := Int.mul_pos epos (show 0 < -(dt r d) by omega); omega) (Int.le_of_lt (Int.mul_pos epos h1)) hc0.1 hd0.1 (fun j hj => ?_)))
      rw [eqn j hj, upr]
      grind
    · -- e ahead of the cut
      have hx := pr_in (r := r) he0.1 hd0.1 hr h2
      have hp := face (pr r e d) hx (pr_dt r e d) (fun a ha h0 => by rw [dt_pr, (vt a ha h0).2.1, (vt a ha h0).2.2]; simp)
      have xpos := hpos _ (InC_tail hx) i hi
      have eqn : ∀ j, j < 4 → pr r c d i * pr r e d j = pr r e d i * pr r c d j := fun j hj => par_scale hi hp j hj
      have xne : pr r e d i ≠ 0 := by
        intro z
        have hxn : nv (pr r e d) := by
          obtain ⟨m, hm, hne⟩ := he0.2.1
          have p1 := hpos e he0.1 m hm
          have p2 := hpos d hd0.1 m hm
          refine ⟨m, hm, ?_⟩
          have q1 : 0 < -(dt r d) * e m := Int.mul_pos (by omega) (by omega)
          have q2 : 0 ≤ dt r e * d m := Int.mul_nonneg (by omega) p2
          show -(dt r d) * e m + dt r e * d m ≠ 0
          omega
        obtain ⟨m, hm, hne⟩ := hxn
        have := eqn m hm
        rw [z, Int.zero_mul] at this
        exact hne ((Int.mul_eq_zero.mp this).resolve_left hui)
      have xpos : 0 < pr r e d i := by omega
      have upe : ∀ j, pr r e d j = -(dt r d) * e j + dt r e * d j := fun j => rfl
      generalize hU : pr r c d i = U at *
      generalize hX : pr r e d i = X at *
      have h2' : 0 < -(dt r d) := by omega
      rcases Int.lt_or_le (X * dt r c) (U * dt r e) with g | g
      · refine hec (ex_two (v := c) (a := e) (b := d) (n := X * -(dt r d)) (al := U * -(dt r d)) (be := U * dt r e - X * dt r c) hc0 (Int.mul_pos xpos h2') (Int.le_of_lt (Int.mul_pos hupos h2')) (by have := Int.mul_pos hupos h2'; omega) (by omega) he0.1 hd0.1 (fun j hj => ?_))
        have := eqn j hj
        rw [upr, upe] at this
        grind
      · refine hec (par_symm (ex_two (v := e) (a := c) (b := d) (n := U * -(dt r d)) (al := X * -(dt r d)) (be := X * dt r c - U * dt r e) he0 (Int.mul_pos hupos h2') (Int.le_of_lt (Int.mul_pos xpos h2')) (by have := Int.mul_pos xpos h2'; omega) (by omega) hc0.1 hd0.1 (fun j hj => ?_)))
        have := eqn j hj
        rw [upr, upe] at this
        grind
