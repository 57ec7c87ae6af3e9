/-! the extreme ones of finitely many generating vectors generate -/
theorem sv_fil (f : Int × V4 → Bool) (l : List (Int × V4)) (i : Nat) : sv l i = sv (l.filter f) i + sv (l.filter (fun q => !f q)) i := by
  induction l with
  | nil => simp [sv]
  | cons q l ih =>
    cases c : f q
    · rw [List.filter_cons_of_neg (by simp [c]), List.filter_cons_of_pos (by simp [c])]
      simp only [sv]
      omega
    · rw [List.filter_cons_of_pos (by simp [c]), List.filter_cons_of_neg (by simp [c])]
      simp only [sv]
      omega
theorem par_sv {g : V4} (l : List (Int × V4)) (h : ∀ q ∈ l, par q.2 g) : par (sv l) g := by
  induction l with
  | nil => intro i _ j _; simp [sv]
  | cons q l ih =>
    intro i hi j hj
    have h1 := h q (by simp) i hi j hj
    have h2 := ih (fun q hq => h q (List.mem_cons_of_mem _ hq)) i hi j hj
    simp only [sv]
    have e1 : (q.1 * q.2 i + sv l i) * g j = q.1 * (q.2 i * g j) + sv l i * g j := by grind
    have e2 : (q.1 * q.2 j + sv l j) * g i = q.1 * (q.2 j * g i) + sv l j * g i := by grind
    rw [e1, e2, h1, h2]
/-- parallel to g or not, decided -/
noncomputable def pb (g : V4) (q : Int × V4) : Bool := @decide (par q.2 g) (Classical.propDecidable _)
theorem pb_t {g : V4} {q : Int × V4} (h : pb g q = true) : par q.2 g := by
  unfold pb at h
  exact @of_decide_eq_true _ (Classical.propDecidable _) h
theorem pb_f {g : V4} {q : Int × V4} (h : (!pb g q) = true) : ¬ par q.2 g := by
  unfold pb at h
  intro c
  have : @decide (par q.2 g) (Classical.propDecidable _) = true := @decide_eq_true _ (Classical.propDecidable _) c
  rw [this] at h
  cases h
theorem mem_sc {n : Int} {l : List (Int × V4)} {P : V4 → Prop} (hn : 0 ≤ n) (h : ∀ q ∈ l, 0 ≤ q.1 ∧ P q.2) : ∀ q ∈ sc n l, 0 ≤ q.1 ∧ P q.2 := by
  intro q hq
  obtain ⟨y, hy, rfl⟩ := List.mem_map.mp hq
  exact ⟨Int.mul_nonneg hn (h y hy).1, (h y hy).2⟩
theorem mem_fil {f : Int × V4 → Bool} {l : List (Int × V4)} {P : V4 → Prop} (h : ∀ q ∈ l, 0 ≤ q.1 ∧ P q.2) : ∀ q ∈ l.filter f, 0 ≤ q.1 ∧ P q.2 := fun q hq => h q (List.mem_filter.mp hq).1
theorem rem_g {A : List V4} {P : V4 → Prop} {g : V4} (hpos : ∀ w, InC A w → ∀ i, i < 4 → 0 ≤ w i) (hP : ∀ v, P v → InC A v) (hc : ∀ w, InC A w → Co P w) (hg : InC A g) (hn : nv g) (hx : ¬ Ex A g) : Co (fun v => P v ∧ ¬ par v g) g := by
  have h0 : ∃ (x y : V4) (n : Int), InC A x ∧ InC A y ∧ 0 < n ∧ (∀ i, i < 4 → n * g i = x i + y i) ∧ ¬ par x g := by
    apply Classical.byContradiction
    intro hno
    refine hx ⟨hg, hn, fun x y n h1 h2 h3 h4 => Classical.byContradiction fun h5 => hno ⟨x, y, n, h1, h2, h3, h4, h5⟩⟩
  obtain ⟨x, y, n, hxi, hyi, hn0, he, hnp⟩ := h0
  obtain ⟨Nx, lx, hNx, hlx, hex⟩ := hc x hxi
  obtain ⟨Ny, ly, hNy, hly, hey⟩ := hc y hyi
  obtain ⟨i, hi, hne⟩ := hn
  have hgi : 0 < g i := by have := hpos g hg i hi; omega
  have h1 := mem_sc (P := P) (Int.le_of_lt hNy) hlx
  have h2 := mem_sc (P := P) (Int.le_of_lt hNx) hly
  generalize hX : sc Ny lx = X at h1
  generalize hY : sc Nx ly = Y at h2
  have hxe : ∀ j, j < 4 → Ny * Nx * x j = sv X j := fun j hj => by rw [← hX, sv_sc, ← hex j hj]; grind
  have hye : ∀ j, j < 4 → Ny * Nx * y j = sv Y j := fun j hj => by rw [← hY, sv_sc, ← hey j hj]; grind
  have hM : 0 < Ny * Nx := Int.mul_pos hNy hNx
  generalize Ny * Nx = M at hxe hye hM
  -- parts
  have pX : par (sv (X.filter (pb g))) g := par_sv _ (fun q hq => pb_t (List.mem_filter.mp hq).2)
  have pY : par (sv (Y.filter (pb g))) g := par_sv _ (fun q hq => pb_t (List.mem_filter.mp hq).2)
  have qX := hpos _ (InC_sv hP (X.filter (fun q => !pb g q)) (mem_fil h1))
  have qY := hpos _ (InC_sv hP (Y.filter (fun q => !pb g q)) (mem_fil h2))
  have fX := fun j => sv_fil (pb g) X j
  have fY := fun j => sv_fil (pb g) Y j
  have key : ∀ j, j < 4 → (M * n * g i - (sv (X.filter (pb g)) i + sv (Y.filter (pb g)) i)) * g j = g i * (sv (X.filter (fun q => !pb g q)) j + sv (Y.filter (fun q => !pb g q)) j) := by
    intro j hj
    have a1 := pX i hi j hj
    have a2 := pY i hi j hj
    have a3 : M * (n * g j) = sv X j + sv Y j := by rw [he j hj, ← hxe j hj, ← hye j hj]; grind
    have b1 := fX j
    have b2 := fY j
    generalize sv (X.filter (pb g)) i = xi at *
    generalize sv (Y.filter (pb g)) i = yi at *
    generalize sv (X.filter (pb g)) j = xj at *
    generalize sv (Y.filter (pb g)) j = yj at *
    generalize sv (X.filter (fun q => !pb g q)) j = xq at *
    generalize sv (Y.filter (fun q => !pb g q)) j = yq at *
    generalize sv X j = sx at *
    generalize sv Y j = sy at *
    generalize g i = gi at *
    generalize g j = gj at *
    grind
  by_cases hs : 0 < M * n * g i - (sv (X.filter (pb g)) i + sv (Y.filter (pb g)) i)
  · refine ⟨_, sc (g i) (X.filter (fun q => !pb g q) ++ Y.filter (fun q => !pb g q)), hs, ?_, fun j hj => ?_⟩
    · refine mem_sc (P := fun v => P v ∧ ¬ par v g) (Int.le_of_lt hgi) (fun q hq => ?_)
      rcases List.mem_append.mp hq with h | h
      · have := List.mem_filter.mp h
        exact ⟨(h1 q this.1).1, (h1 q this.1).2, pb_f this.2⟩
      · have := List.mem_filter.mp h
        exact ⟨(h2 q this.1).1, (h2 q this.1).2, pb_f this.2⟩
    · rw [key j hj, sv_sc, sv_app]
  · exfalso
    apply hnp
    have hz : ∀ j, j < 4 → sv (X.filter (fun q => !pb g q)) j = 0 := by
      intro j hj
      have k := key j hj
      have hgj := hpos g hg j hj
      have l1 : (M * n * g i - (sv (X.filter (pb g)) i + sv (Y.filter (pb g)) i)) * g j ≤ 0 := Int.mul_nonpos_of_nonpos_of_nonneg (by omega) hgj
      rw [k] at l1
      have q1 := qX j hj
      have q2 := qY j hj
      rcases Int.lt_or_le 0 (sv (X.filter (fun q => !pb g q)) j + sv (Y.filter (fun q => !pb g q)) j) with c | c
      · have := Int.mul_pos hgi c
        omega
      · omega
    intro a ha b hb
    have p1 := pX a ha b hb
    have e1 : sv (X.filter (pb g)) a = M * x a := by have := fX a; rw [hz a ha] at this; rw [hxe a ha]; omega
    have e2 : sv (X.filter (pb g)) b = M * x b := by have := fX b; rw [hz b hb] at this; rw [hxe b hb]; omega
    rw [e1, e2] at p1
    refine mul_cancel (show M ≠ 0 by omega) ?_
    rw [← Int.mul_assoc, ← Int.mul_assoc]
    exact p1
theorem rem_one {A : List V4} {P : V4 → Prop} {g : V4} (hpos : ∀ w, InC A w → ∀ i, i < 4 → 0 ≤ w i) (hP : ∀ v, P v → InC A v) (hc : ∀ w, InC A w → Co P w) (hg : InC A g) (hn : nv g) (hx : ¬ Ex A g) : ∀ w, InC A w → Co (fun v => P v ∧ ¬ par v g) w := by
  intro w hw
  obtain ⟨N, lg, hN, hlg, heg⟩ := rem_g hpos hP hc hg hn hx
  obtain ⟨K, l, hK, hl, he⟩ := hc w hw
  obtain ⟨i, hi, hne⟩ := hn
  have hgi : 0 < g i := by have := hpos g hg i hi; omega
  have pX : par (sv (l.filter (pb g))) g := par_sv _ (fun q hq => pb_t (List.mem_filter.mp hq).2)
  have qX := hpos _ (InC_sv hP (l.filter (pb g)) (mem_fil hl)) i hi
  refine ⟨N * g i * K, sc (sv (l.filter (pb g)) i) lg ++ sc (N * g i) (l.filter (fun q => !pb g q)), Int.mul_pos (Int.mul_pos hN hgi) hK, fun q hq => ?_, fun j hj => ?_⟩
  · rcases List.mem_append.mp hq with h | h
    · exact mem_sc (P := fun v => P v ∧ ¬ par v g) qX hlg q h
    · refine mem_sc (P := fun v => P v ∧ ¬ par v g) (Int.le_of_lt (Int.mul_pos hN hgi)) (fun x hx => ?_) q h
      have := List.mem_filter.mp hx
      exact ⟨(hl x this.1).1, (hl x this.1).2, pb_f this.2⟩
  · rw [sv_app, sv_sc, sv_sc, ← heg j hj]
    have a1 := pX i hi j hj
    have a2 := sv_fil (pb g) l j
    have a3 := he j hj
    generalize sv (l.filter (pb g)) i = xi at *
    generalize sv (l.filter (pb g)) j = xj at *
    generalize sv (l.filter (fun q => !pb g q)) j = xq at *
    generalize sv l j = sx at *
    generalize g i = gi at *
    generalize g j = gj at *
    generalize w j = wj at *
    grind
theorem Co_mono {P Q : V4 → Prop} {w : V4} (h : Co P w) (hpq : ∀ v, P v → Q v) : Co Q w := by
  obtain ⟨N, l, h1, h2, h3⟩ := h
  exact ⟨N, l, h1, fun q hq => ⟨(h2 q hq).1, hpq _ (h2 q hq).2⟩, h3⟩
/-- the extreme ones of a list that generates generate -/
theorem ex_gens {A : List V4} (hpos : ∀ w, InC A w → ∀ i, i < 4 → 0 ≤ w i) (L : List V4) (hL : ∀ v ∈ L, InC A v ∧ nv v) (hg : ∀ w, InC A w → Co (fun v => v ∈ L) w) : ∀ w, InC A w → Co (fun v => v ∈ L ∧ Ex A v) w := by
  have key : ∀ D : List V4, (∀ g ∈ D, g ∈ L) → ∀ w, InC A w → Co (fun v => v ∈ L ∧ ∀ g ∈ D, ¬ Ex A g → ¬ par v g) w := by
    intro D
    induction D with
    | nil => exact fun _ w hw => Co_mono (hg w hw) (fun v hv => ⟨hv, fun g h => by simp at h⟩)
    | cons g D ih =>
      intro hD
      have ih := ih (fun x hx => hD x (List.mem_cons_of_mem _ hx))
      have hgL := hD g (by simp)
      by_cases c : Ex A g
      · exact fun w hw => Co_mono (ih w hw) (fun v hv => ⟨hv.1, fun x hx hne => by
          rcases List.mem_cons.mp hx with rfl | h
          · exact absurd c hne
          · exact hv.2 x h hne⟩)
      · exact fun w hw => Co_mono (rem_one hpos (fun v hv => (hL v hv.1).1) ih (hL g hgL).1 (hL g hgL).2 c w hw) (fun v hv => ⟨hv.1.1, fun x hx hne => by
          rcases List.mem_cons.mp hx with rfl | h
          · exact hv.2
          · exact hv.1.2 x h hne⟩)
  exact fun w hw => Co_mono (key L (fun _ h => h) w hw) (fun v hv => ⟨hv.1, Classical.byContradiction fun hne => hv.2 v hv.1 hne (par_self v)⟩)
