/-! the rows on which both ends of an edge lie -/
theorem sv_dt0 {x : V4} : ∀ (l : List (Int × V4)), (∀ q ∈ l, q.1 ≠ 0 → dt x q.2 = 0) → dt x (sv l) = 0 := by
  intro l
  induction l with
  | nil => intro _; simp [sv, dt]
  | cons q l ih =>
    intro h
    rw [dt_sv, ih (fun p hp => h p (List.mem_cons_of_mem _ hp))]
    by_cases c : q.1 = 0
    · rw [c]; simp
    · rw [h q (by simp) c]; simp
theorem dt_sub (r a b c : V4) (n : Int) (h : ∀ i, i < 4 → c i = n * a i - b i) : dt r c = n * dt r a - dt r b := by
  simp only [dt, h 0 (by decide), h 1 (by decide), h 2 (by decide), h 3 (by decide)]; grind
theorem adj_null {A : List V4} {n : Nat} {f : Nat → V4} (hc : IsC A n f) {i j : Nat} (hi : i < n) (hj : j < n) (ha : Adj A (fls n f) (f i) (f j)) {x : V4} (hx : nv x) (h1 : dt x (f i) = 0) (h2 : dt x (f j) = 0) (ht : ∀ a ∈ A, dt a (f i) = 0 → dt a (f j) = 0 → dt a x = 0) : False := by
  have ci := (hc.1 i hi).1
  have cj := (hc.1 j hj).1
  obtain ⟨N, hN, hb⟩ := big_n A (fun m => f i m + f j m) x
  have du : ∀ r, dt r (fun m => f i m + f j m) = dt r (f i) + dt r (f j) := fun r => dt_add r (f i) (f j) _ (fun _ _ => rfl)
  have dy : ∀ r, dt r (fun m => N * (f i m + f j m) - x m) = N * (dt r (f i) + dt r (f j)) - dt r x := fun r => by
    rw [dt_sub r (fun m => f i m + f j m) x _ N (fun _ _ => rfl), du]
  have hy : InC A (fun m => N * (f i m + f j m) - x m) := by
    intro a haA
    rw [dy]
    have p1 := ci.1 a haA
    have p2 := cj.1 a haA
    by_cases c : dt a (f i) = 0 ∧ dt a (f j) = 0
    · rw [c.1, c.2, ht a haA c.1 c.2]; simp
    · have := hb a haA (by rw [du]; omega)
      rw [du] at this
      omega
  obtain ⟨M, l, hM, hl, he⟩ := hc.2.2.2 _ hy
  have hz : dt x (sv l) = 0 := sv_dt0 l (fun q hq hne => by
    obtain ⟨_, o, ho, eo⟩ := hl q hq
    have tight : ∀ a ∈ A, dt a (f i) = 0 → dt a (f j) = 0 → dt a q.2 = 0 := by
      intro a haA z1 z2
      refine Co_tight (A := A) (P := fun v => ∃ i, i < n ∧ v = f i) (fun v ⟨i, hi, e⟩ => by rw [e]; exact (hc.1 i hi).1.1) hl he haA ?_ q hq hne
      rw [dy, z1, z2, ht a haA z1 z2]; simp
    have hp := ha q.2 (mem_fl.mpr ⟨o, ho, eo⟩) tight
    rcases hp with hp | hp
    · exact dt_par0 (par_symm hp) ci.2.1 h1
    · exact dt_par0 (par_symm hp) cj.2.1 h2)
  have e2 : dt x (sv l) = M * dt x (fun m => N * (f i m + f j m) - x m) := dt_mul x _ _ M (fun k hk => (he k hk).symm)
  rw [dy, h1, h2, hz] at e2
  have hq := sq_pos hx
  have := (Int.mul_eq_zero.mp e2.symm).resolve_left (by omega)
  omega
theorem perp3 {c d : V4} (h : ¬ par c d) (a : V4) : ∃ x, nv x ∧ dt x c = 0 ∧ dt x d = 0 ∧ dt a x = 0 := by
  have cm : ∀ u v : V4, dt u v = dt v u := fun u v => by simp only [dt]; grind
  by_cases q : nv (xp a c d)
  · exact ⟨xp a c d, q, by rw [cm]; exact xp_s a c d, by rw [cm]; exact xp_t a c d, xp_r a c d⟩
  · have z : ∀ l, l < 4 → xp a c d l = 0 := fun l hl => Classical.byContradiction fun hne => q ⟨l, hl, hne⟩
    have : ∃ l j, l < 4 ∧ j < 4 ∧ xp c d (un l) j ≠ 0 := by
      apply Classical.byContradiction
      intro hno
      apply h
      intro i hi j hj
      have := m2_of_xpu (r := c) (s := d) (fun l hl j hj => Classical.byContradiction fun hne => hno ⟨l, j, hl, hj, hne⟩) i hi j hj
      unfold m2 at this
      omega
    obtain ⟨l, j, hl, hj, hne⟩ := this
    refine ⟨xp c d (un l), ⟨j, hj, hne⟩, by rw [cm]; exact xp_r c d _, by rw [cm]; exact xp_s c d _, ?_⟩
    rw [det_cyc, dt_un hl, z l hl]; rfl
/-- an edge of k measures lies on k - 2 rows at least -/
theorem adj_rows {k R n : Nat} {ρ f : Nat → V4} (h : Rk k R ρ) (hc : IsC (Ak k R ρ) n f) {i j : Nat} (hi : i < n) (hj : j < n) (hij : i ≠ j) (ha : Adj (Ak k R ρ) (fls n f) (f i) (f j)) : (3 ≤ k → ∃ b, b < R ∧ dt (ρ b) (f i) = 0 ∧ dt (ρ b) (f j) = 0) ∧ (4 ≤ k → ∃ b b', b < R ∧ b' < R ∧ b ≠ b' ∧ dt (ρ b) (f i) = 0 ∧ dt (ρ b) (f j) = 0 ∧ dt (ρ b') (f i) = 0 ∧ dt (ρ b') (f j) = 0) := by
  have hnp : ¬ par (f i) (f j) := fun p => hij (hc.2.1 i j hi hj p)
  -- whoever is orthogonal to a holds a contradiction if all common rows are a's
  have key : ∀ a : V4, (∀ x, dt a x = 0 → ∀ b ∈ Ak k R ρ, dt b (f i) = 0 → dt b (f j) = 0 → dt b x = 0) → False := by
    intro a hall
    obtain ⟨x, hx, h1, h2, h3⟩ := perp3 hnp a
    exact adj_null hc hi hj ha hx h1 h2 (hall x h3)
  have hk4 := h.2.1
  have units : ∀ x : V4, ∀ b ∈ A0 k, dt b (f i) = 0 → dt b (f j) = 0 → (∀ b', b' < R → dt (ρ b') (f i) = 0 → dt (ρ b') (f j) = 0 → dt (ρ b') x = 0) → (∀ m, k ≤ m → m < 4 → x m = 0) → dt b x = 0 := by
    intro x b hb z1 z2 hr hm
    obtain ⟨m, hm4, e⟩ := mem_A0 hb
    have ku : dt (un m) (f i) = 0 → dt (un m) (f j) = 0 → dt (un m) x = 0 := by
      intro y1 y2
      by_cases c : m < k
      · have e2 := h.2.2.2.1 m c
        rw [← e2] at y1 y2 ⊢
        exact hr m (by have := h.2.2.1; omega) y1 y2
      · rw [dt_un hm4]; exact hm m (by omega) hm4
    rcases e with e | ⟨_, e⟩
    · rw [e] at z1 z2 ⊢; exact ku z1 z2
    · rw [e, dt_neg] at z1 z2 ⊢
      have := ku (by omega) (by omega)
      omega
  constructor
  · intro hk
    apply Classical.byContradiction
    intro hno
    have nor : ∀ b, b < R → dt (ρ b) (f i) = 0 → dt (ρ b) (f j) = 0 → False := fun b hb z1 z2 => hno ⟨b, hb, z1, z2⟩
    by_cases c : k = 4
    · refine key (un 0) (fun x _ b hb z1 z2 => ?_)
      rcases List.mem_append.mp hb with hb | hb
      · exact units x b hb z1 z2 (fun b' hb' y1 y2 => (nor b' hb' y1 y2).elim) (fun m h1 h2 => by omega)
      · obtain ⟨b', hb', e⟩ := mem_fl.mp hb
        rw [e] at z1 z2
        exact (nor b' hb' z1 z2).elim
    · refine key (un 3) (fun x hx b hb z1 z2 => ?_)
      rw [dt_un (by decide)] at hx
      rcases List.mem_append.mp hb with hb | hb
      · exact units x b hb z1 z2 (fun b' hb' y1 y2 => (nor b' hb' y1 y2).elim) (fun m h1 h2 => by rw [show m = 3 by omega]; exact hx)
      · obtain ⟨b', hb', e⟩ := mem_fl.mp hb
        rw [e] at z1 z2
        exact (nor b' hb' z1 z2).elim
  · intro hk
    apply Classical.byContradiction
    intro hno
    by_cases q : ∃ b, b < R ∧ dt (ρ b) (f i) = 0 ∧ dt (ρ b) (f j) = 0
    · obtain ⟨b0, hb0, z0, y0⟩ := q
      have one : ∀ b, b < R → dt (ρ b) (f i) = 0 → dt (ρ b) (f j) = 0 → b = b0 := fun b hb z1 z2 => Classical.byContradiction fun hne => hno ⟨b, b0, hb, hb0, hne, z1, z2, z0, y0⟩
      refine key (ρ b0) (fun x hx b hb z1 z2 => ?_)
      rcases List.mem_append.mp hb with hb | hb
      · exact units x b hb z1 z2 (fun b' hb' y1 y2 => by rw [one b' hb' y1 y2]; exact hx) (fun m h1 h2 => by omega)
      · obtain ⟨b', hb', e⟩ := mem_fl.mp hb
        rw [e] at z1 z2 ⊢
        rw [one b' hb' z1 z2]; exact hx
    · have nor : ∀ b, b < R → dt (ρ b) (f i) = 0 → dt (ρ b) (f j) = 0 → False := fun b hb z1 z2 => q ⟨b, hb, z1, z2⟩
      refine key (un 0) (fun x _ b hb z1 z2 => ?_)
      rcases List.mem_append.mp hb with hb | hb
      · exact units x b hb z1 z2 (fun b' hb' y1 y2 => (nor b' hb' y1 y2).elim) (fun m h1 h2 => by omega)
      · obtain ⟨b', hb', e⟩ := mem_fl.mp hb
        rw [e] at z1 z2
        exact (nor b' hb' z1 z2).elim
