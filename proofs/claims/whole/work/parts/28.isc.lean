/-! a family of corners: all extreme rays, each once, primitive -/
theorem dt_congr {r v w : V4} (h : ∀ i, i < 4 → v i = w i) : dt r v = dt r w := by
  simp only [dt, h 0 (by decide), h 1 (by decide), h 2 (by decide), h 3 (by decide)]
theorem par_dt {u v : V4} (r : V4) (h : par u v) {i : Nat} (hi : i < 4) : u i * dt r v = v i * dt r u := by
  have g0 := h i hi 0 (by decide)
  have g1 := h i hi 1 (by decide)
  have g2 := h i hi 2 (by decide)
  have g3 := h i hi 3 (by decide)
  simp only [dt]
  generalize u i = ui at *
  generalize v i = vi at *
  have k0 : ui * (r 0 * v 0) = vi * (r 0 * u 0) := by grind
  have k1 : ui * (r 1 * v 1) = vi * (r 1 * u 1) := by grind
  have k2 : ui * (r 2 * v 2) = vi * (r 2 * u 2) := by grind
  have k3 : ui * (r 3 * v 3) = vi * (r 3 * u 3) := by grind
  grind
/-- not below 0 and not null -/
def pos4 (v : V4) : Prop := (∀ i, i < 4 → 0 ≤ v i) ∧ nv v
theorem par_pos {u v : V4} (h : par u v) (hu : pos4 u) (hv : pos4 v) : ∃ a b : Int, 0 < a ∧ 0 < b ∧ ∀ i, i < 4 → a * v i = b * u i := by
  obtain ⟨i, hi, hne⟩ := hu.2
  have h1 := hu.1 i hi
  have h2 := hv.1 i hi
  have hvi : v i ≠ 0 := by
    intro z
    obtain ⟨j, hj, hnj⟩ := hv.2
    have := h i hi j hj
    rw [z, Int.mul_zero] at this
    exact hnj ((Int.mul_eq_zero.mp this).resolve_left hne)
  refine ⟨u i, v i, by omega, by omega, fun j hj => ?_⟩
  have := h i hi j hj
  rw [this, Int.mul_comm]
theorem sg_mul {a b x y : Int} (ha : 0 < a) (hb : 0 < b) (e : a * x = b * y) : (0 ≤ x ↔ 0 ≤ y) ∧ (0 < x ↔ 0 < y) ∧ (x = 0 ↔ y = 0) := by
  rcases Int.lt_trichotomy x 0 with h | h | h
  · have h1 : a * x < 0 := Int.mul_neg_of_pos_of_neg ha h
    have h2 : y < 0 := by
      apply Classical.byContradiction
      intro c
      have := Int.mul_nonneg (Int.le_of_lt hb) (show 0 ≤ y by omega)
      omega
    omega
  · subst h
    rw [Int.mul_zero] at e
    have : y = 0 := (Int.mul_eq_zero.mp e.symm).resolve_left (by omega)
    omega
  · have h1 : 0 < a * x := Int.mul_pos ha h
    have h2 : 0 < y := by
      apply Classical.byContradiction
      intro c
      have := Int.mul_nonneg (Int.le_of_lt hb) (show 0 ≤ -y by omega)
      rw [Int.mul_neg] at this
      omega
    omega
theorem par_sg {u v : V4} (h : par u v) (hu : pos4 u) (hv : pos4 v) (r : V4) : (0 ≤ dt r v ↔ 0 ≤ dt r u) ∧ (0 < dt r v ↔ 0 < dt r u) ∧ (dt r v = 0 ↔ dt r u = 0) := by
  obtain ⟨a, b, ha, hb, e⟩ := par_pos h hu hv
  have e2 : a * dt r v = b * dt r u := by
    rw [← dt_mul r v (fun i => a * v i) a (fun i _ => rfl), ← dt_mul r u (fun i => b * u i) b (fun i _ => rfl)]
    exact dt_congr e
  exact sg_mul ha hb e2
theorem InC_par {A : List V4} {u v : V4} (h : par u v) (hu : pos4 u) (hv : pos4 v) (hi : InC A u) : InC A v := fun a ha => (par_sg h hu hv a).1.mpr (hi a ha)
theorem ex_par {A : List V4} {u v : V4} (h : par u v) (hu : pos4 u) (hv : pos4 v) (hx : Ex A u) : Ex A v := by
  refine ⟨InC_par h hu hv hx.1, hv.2, fun x y n hxi hyi hn he => ?_⟩
  obtain ⟨a, b, ha, hb, e⟩ := par_pos h hu hv
  have := hx.2.2 (fun i => a * x i) (fun i => a * y i) (n * b) (InC_mul (Int.le_of_lt ha) hxi) (InC_mul (Int.le_of_lt ha) hyi) (Int.mul_pos hn hb) (fun i hi => by
    have h1 := e i hi
    have h2 := he i hi
    have : a * (n * v i) = a * (x i + y i) := by rw [h2]
    grind)
  exact par_trans (par_symm (par_mul (by omega) this)) h hu.2
theorem Ex_congr {A B : List V4} (h : ∀ w, InC A w ↔ InC B w) {v : V4} (hv : Ex A v) : Ex B v :=
  ⟨(h v).mp hv.1, hv.2.1, fun x y n hx hy hn he => hv.2.2 x y n ((h x).mpr hx) ((h y).mpr hy) hn he⟩
def IsC (A : List V4) (n : Nat) (f : Nat → V4) : Prop :=
  (∀ i, i < n → Ex A (f i) ∧ prm (f i)) ∧ (∀ i j, i < n → j < n → par (f i) (f j) → i = j) ∧ (∀ v, Ex A v → ∃ i, i < n ∧ par (f i) v) ∧ ∀ w, InC A w → Co (fun v => ∃ i, i < n ∧ v = f i) w
theorem isc_congr {A B : List V4} (h : ∀ w, InC A w ↔ InC B w) {n : Nat} {f : Nat → V4} (hc : IsC A n f) : IsC B n f :=
  ⟨fun i hi => ⟨Ex_congr h (hc.1 i hi).1, (hc.1 i hi).2⟩, hc.2.1, fun v hv => hc.2.2.1 v (Ex_congr (fun w => (h w).symm) hv), fun w hw => hc.2.2.2 w ((h w).mpr hw)⟩
theorem isc_al {A : List V4} {n : Nat} {f : Nat → V4} (h : IsC A n f) (r : V4) : (∀ i, i < n → 0 ≤ dt r (f i)) ↔ ∀ x, InC A x → 0 ≤ dt r x := by
  constructor
  · intro hi x hx
    obtain ⟨N, l, hN, hl, he⟩ := h.2.2.2 x hx
    have h1 : InC [r] (sv l) := InC_sv (P := fun v => ∃ i, i < n ∧ v = f i) (fun v ⟨i, hin, e⟩ a ha => by
      rw [List.mem_singleton.mp ha, e]; exact hi i hin) l hl
    have h2 := h1 r (by simp)
    have h3 : dt r (sv l) = N * dt r x := dt_mul r x _ N (fun i hi => (he i hi).symm)
    rw [h3] at h2
    exact (sg_mul hN Int.one_pos (show N * dt r x = 1 * (N * dt r x) by omega)).1.mpr h2
  · exact fun g i hi => g _ (h.1 i hi).1.1
theorem isc_ne {A : List V4} {n : Nat} {f : Nat → V4} (h : IsC A n f) : 0 < n ↔ ∃ x, InC A x ∧ nv x := by
  constructor
  · exact fun hn => ⟨f 0, (h.1 0 hn).1.1, (h.1 0 hn).1.2.1⟩
  · rintro ⟨x, hx, i, hi, hne⟩
    apply Classical.byContradiction
    intro c
    obtain ⟨N, l, hN, hl, he⟩ := h.2.2.2 x hx
    cases l with
    | nil =>
      have := he i hi
      simp only [sv] at this
      exact hne ((Int.mul_eq_zero.mp this).resolve_left (by omega))
    | cons q l =>
      obtain ⟨j, hj, _⟩ := (hl q (by simp)).2
      omega
theorem sv_smul_app (a b : Int) (l k : List (Int × V4)) (i : Nat) : sv (sc a l ++ sc b k) i = a * sv l i + b * sv k i := by rw [sv_app, sv_sc, sv_sc]
theorem co_list {P Q : V4 → Prop} (h : ∀ v, P v → Co Q v) : ∀ (l : List (Int × V4)), (∀ q ∈ l, 0 ≤ q.1 ∧ P q.2) → ∃ (M : Int) (k : List (Int × V4)), 0 < M ∧ (∀ q ∈ k, 0 ≤ q.1 ∧ Q q.2) ∧ ∀ i, i < 4 → M * sv l i = sv k i := by
  intro l
  induction l with
  | nil => exact fun _ => ⟨1, [], by decide, by simp, fun i _ => by simp [sv]⟩
  | cons q l ih =>
    intro hl
    obtain ⟨M, k, hM, hk, he⟩ := ih (fun q hq => hl q (List.mem_cons_of_mem _ hq))
    obtain ⟨hq1, hq2⟩ := hl q (by simp)
    obtain ⟨N, k2, hN, hk2, he2⟩ := h q.2 hq2
    refine ⟨N * M, sc (M * q.1) k2 ++ sc N k, Int.mul_pos hN hM, ?_, fun i hi => ?_⟩
    · intro p hp
      rcases List.mem_append.mp hp with hp | hp
      · exact mem_sc (Int.mul_nonneg (Int.le_of_lt hM) hq1) hk2 p hp
      · exact mem_sc (Int.le_of_lt hN) hk p hp
    · rw [sv_smul_app, ← he i hi, ← he2 i hi]
      simp only [sv]
      grind
theorem co_trans {P Q : V4 → Prop} (h : ∀ v, P v → Co Q v) {w : V4} (hw : Co P w) : Co Q w := by
  obtain ⟨N, l, hN, hl, he⟩ := hw
  obtain ⟨M, k, hM, hk, hk2⟩ := co_list h l hl
  exact ⟨M * N, k, Int.mul_pos hM hN, hk, fun i hi => by rw [← hk2 i hi, ← he i hi, Int.mul_assoc]⟩
theorem co_par {g v : V4} {Q : V4 → Prop} (hQ : Q g) (h : par g v) (hg : pos4 g) (hv : pos4 v) : Co Q v := by
  obtain ⟨a, b, ha, hb, e⟩ := par_pos h hg hv
  exact ⟨a, [(b, g)], ha, fun q hq => by rw [List.mem_singleton.mp hq]; exact ⟨Int.le_of_lt hb, hQ⟩, fun i hi => by rw [e i hi]; simp [sv]⟩
theorem ex_pos {A : List V4} (hpos : ∀ w, InC A w → ∀ i, i < 4 → 0 ≤ w i) {v : V4} (h : Ex A v) : pos4 v := ⟨hpos v h.1, h.2.1⟩
theorem ex_keep {A : List V4} {r v : V4} (h : Ex A v) (hr : 0 ≤ dt r v) : Ex (r :: A) v :=
  ⟨fun a ha => by rcases List.mem_cons.mp ha with rfl | ha; exact hr; exact h.1 a ha, h.2.1, fun x y n hx hy hn he => h.2.2 x y n (InC_tail hx) (InC_tail hy) hn he⟩
def fls (n : Nat) (f : Nat → V4) : List V4 := (List.range n).map f
theorem mem_fl {n : Nat} {f : Nat → V4} {v : V4} : v ∈ fls n f ↔ ∃ i, i < n ∧ v = f i := by
  unfold fls
  rw [List.mem_map]
  constructor
  · rintro ⟨i, hi, e⟩; exact ⟨i, List.mem_range.mp hi, e.symm⟩
  · rintro ⟨i, hi, e⟩; exact ⟨i, List.mem_range.mpr hi, e.symm⟩
theorem pr_pos {A : List V4} (hpos : ∀ w, InC A w → ∀ i, i < 4 → 0 ≤ w i) {r c d : V4} (hc : Ex A c) (hd : Ex A d) (h1 : 0 < dt r c) (h2 : dt r d < 0) : pos4 (pr r c d) := by
  refine ⟨hpos _ (InC_tail (pr_in hc.1 hd.1 h1 h2)), ?_⟩
  obtain ⟨m, hm, hne⟩ := hc.2.1
  have p1 := hpos c hc.1 m hm
  have p2 := hpos d hd.1 m hm
  refine ⟨m, hm, ?_⟩
  show -(dt r d) * c m + dt r c * d m ≠ 0
  have q1 : 0 < -(dt r d) * c m := Int.mul_pos (by omega) (by omega)
  have q2 : 0 ≤ dt r c * d m := Int.mul_nonneg (by omega) p2
  omega
/-- the extreme rays of a cone cut once more -/
theorem isc_of {A : List V4} {n : Nat} {f : Nat → V4} {r : V4} (hpos : ∀ w, InC A w → ∀ i, i < 4 → 0 ≤ w i) (h : IsC A n f) {m : Nat} {g : Nat → V4}
    (h1 : ∀ j, j < m → Ex (r :: A) (g j) ∧ prm (g j)) (h2 : ∀ i j, i < m → j < m → par (g i) (g j) → i = j) (h3 : ∀ v, Ex (r :: A) v → ∃ j, j < m ∧ par (g j) v) : IsC (r :: A) m g := by
  classical
  refine ⟨h1, h2, h3, fun w hw => ?_⟩
  have hposr : ∀ w, InC (r :: A) w → ∀ i, i < 4 → 0 ≤ w i := fun w hw => hpos w (InC_tail hw)
  have hs := gen_step (P := fun v => ∃ i, i < n ∧ v = f i) (r := r) (h.2.2.2 w (InC_tail hw)) (hw r (by simp))
  -- a finite list that generates
  let L : List V4 := ((fls n f) ++ (List.range n).flatMap (fun c => (List.range n).map (fun d => pr r (f c) (f d)))).filter (fun v => decide (InC (r :: A) v ∧ nv v))
  have hL : ∀ v ∈ L, InC (r :: A) v ∧ nv v := fun v hv => of_decide_eq_true (List.mem_filter.mp hv).2
  have hPn : ∀ v, Pn (fun v => ∃ i, i < n ∧ v = f i) r v → v ∈ L := by
    intro v hv
    apply List.mem_filter.mpr
    rcases hv with ⟨⟨i, hi, e⟩, hr⟩ | ⟨c, d, ⟨i, hi, ec⟩, ⟨j, hj, ed⟩, hc, hd, e⟩
    · refine ⟨List.mem_append_left _ (mem_fl.mpr ⟨i, hi, e⟩), decide_eq_true ?_⟩
      have := ex_keep (r := r) (h.1 i hi).1 (by rw [← e]; exact hr)
      rw [e]; exact ⟨this.1, this.2.1⟩
    · subst ec; subst ed; subst e
      refine ⟨List.mem_append_right _ (List.mem_flatMap.mpr ⟨i, List.mem_range.mpr hi, List.mem_map.mpr ⟨j, List.mem_range.mpr hj, rfl⟩⟩), decide_eq_true ⟨pr_in (h.1 i hi).1.1 (h.1 j hj).1.1 hc hd, (pr_pos hpos (h.1 i hi).1 (h.1 j hj).1 hc hd).2⟩⟩
  have hg : ∀ w, InC (r :: A) w → Co (fun v => v ∈ L) w := fun w hw =>
    Co_mono (gen_step (P := fun v => ∃ i, i < n ∧ v = f i) (r := r) (h.2.2.2 w (InC_tail hw)) (hw r (by simp))) hPn
  have he := ex_gens hposr L hL hg w hw
  refine co_trans (fun v hv => ?_) he
  obtain ⟨j, hj, hp⟩ := h3 v hv.2
  exact co_par ⟨j, hj, rfl⟩ hp (ex_pos hposr (h1 j hj).1) (ex_pos hposr hv.2)
theorem isc_dd {A : List V4} {n : Nat} {f : Nat → V4} {r v : V4} (hpos : ∀ w, InC A w → ∀ i, i < 4 → 0 ≤ w i) (h : IsC A n f) (hv : Ex (r :: A) v) : (∃ i, i < n ∧ 0 ≤ dt r (f i) ∧ par (f i) v) ∨ ∃ c d, c < n ∧ d < n ∧ 0 < dt r (f c) ∧ dt r (f d) < 0 ∧ Adj A (fls n f) (f c) (f d) ∧ par (pr r (f c) (f d)) v := by
  rcases dd_all hpos (L := fls n f) (fun v hv => by obtain ⟨i, hi, e⟩ := mem_fl.mp hv; rw [e]; exact (h.1 i hi).1) (fun w hw => Co_mono (h.2.2.2 w hw) (fun v hv => mem_fl.mpr hv)) hv with ⟨p, hp, h1, h2⟩ | ⟨c, d, hc, hd, h1, h2, h3, h4⟩
  · obtain ⟨i, hi, e⟩ := mem_fl.mp hp
    subst e
    exact Or.inl ⟨i, hi, h1, h2⟩
  · obtain ⟨i, hi, e⟩ := mem_fl.mp hc
    obtain ⟨j, hj, e2⟩ := mem_fl.mp hd
    subst e; subst e2
    exact Or.inr ⟨i, j, hi, hj, h1, h2, h3, h4⟩
theorem isc_ed {A : List V4} {n : Nat} {f : Nat → V4} {r : V4} {c d : Nat} (hpos : ∀ w, InC A w → ∀ i, i < 4 → 0 ≤ w i) (h : IsC A n f) (hc : c < n) (hd : d < n) (h1 : 0 < dt r (f c)) (h2 : dt r (f d) < 0) (ha : Adj A (fls n f) (f c) (f d)) : Ex (r :: A) (pr r (f c) (f d)) :=
  dd_ex hpos (L := fls n f) (fun v hv => by obtain ⟨i, hi, e⟩ := mem_fl.mp hv; rw [e]; exact (h.1 i hi).1.1) (fun w hw => Co_mono (h.2.2.2 w hw) (fun v hv => mem_fl.mpr hv)) (mem_fl.mpr ⟨c, hc, rfl⟩) (mem_fl.mpr ⟨d, hd, rfl⟩) h1 h2 ha
/-- a kept corner is no edge's -/
theorem ne_keep {A : List V4} {n : Nat} {f : Nat → V4} {r : V4} {i c d : Nat} (hpos : ∀ w, InC A w → ∀ i, i < 4 → 0 ≤ w i) (h : IsC A n f) (hi : i < n) (hc : c < n) (hd : d < n) (h1 : 0 < dt r (f c)) (h2 : dt r (f d) < 0) (hp : par (pr r (f c) (f d)) (f i)) : False := by
  have hci := (h.1 c hc).1
  have hdi := (h.1 d hd).1
  have hii := (h.1 i hi).1
  obtain ⟨a, b, ha, hb, e⟩ := par_pos hp (pr_pos hpos hci hdi h1 h2) (ex_pos hpos hii)
  have e1 : ∀ j, j < 4 → a * f i j = (b * -(dt r (f d))) * f c j + (b * dt r (f c)) * f d j := fun j hj => by
    rw [e j hj]; show b * (-(dt r (f d)) * f c j + dt r (f c) * f d j) = _; grind
  have q1 : 0 < b * -(dt r (f d)) := Int.mul_pos hb (by omega)
  have q2 : 0 < b * dt r (f c) := Int.mul_pos hb h1
  have k1 := h.2.1 c i hc hi (ex_two hii ha (by omega) (by omega) (by omega) hci.1 hdi.1 e1)
  have k2 := h.2.1 d i hd hi (ex_two (al := b * dt r (f c)) (be := b * -(dt r (f d))) hii ha (by omega) (by omega) (by omega) hdi.1 hci.1 (fun j hj => by rw [e1 j hj, Int.add_comm]))
  subst k1; subst k2; omega
theorem ne_edge {A : List V4} {n : Nat} {f : Nat → V4} {r : V4} {c d c' d' : Nat} (hpos : ∀ w, InC A w → ∀ i, i < 4 → 0 ≤ w i) (h : IsC A n f) (hc : c < n) (hd : d < n) (h1 : 0 < dt r (f c)) (h2 : dt r (f d) < 0) (ha : Adj A (fls n f) (f c) (f d))
    (hc' : c' < n) (hd' : d' < n) (h1' : 0 < dt r (f c')) (h2' : dt r (f d') < 0) (hp : par (pr r (f c) (f d)) (pr r (f c') (f d'))) : c = c' ∧ d = d' := by
  have hci := (h.1 c hc).1
  have hdi := (h.1 d hd).1
  have hci' := (h.1 c' hc').1
  have hdi' := (h.1 d' hd').1
  have t : ∀ a ∈ A, dt a (f c) = 0 → dt a (f d) = 0 → dt a (f c') = 0 ∧ dt a (f d') = 0 := by
    intro a haA z1 z2
    have z : dt a (pr r (f c) (f d)) = 0 := by rw [dt_pr, z1, z2]; simp
    have z' := (par_sg hp (pr_pos hpos hci hdi h1 h2) (pr_pos hpos hci' hdi' h1' h2') a).2.2.mpr z
    rw [dt_pr] at z'
    have g1 := Int.mul_nonneg (show 0 ≤ -(dt r (f d')) by omega) (hci'.1 a haA)
    have g2 := Int.mul_nonneg (Int.le_of_lt h1') (hdi'.1 a haA)
    exact ⟨(Int.mul_eq_zero.mp (show -(dt r (f d')) * dt a (f c') = 0 by omega)).resolve_left (by omega), (Int.mul_eq_zero.mp (show dt r (f c') * dt a (f d') = 0 by omega)).resolve_left (by omega)⟩
  have a1 := ha (f c') (mem_fl.mpr ⟨c', hc', rfl⟩) (fun a haA z1 z2 => (t a haA z1 z2).1)
  have a2 := ha (f d') (mem_fl.mpr ⟨d', hd', rfl⟩) (fun a haA z1 z2 => (t a haA z1 z2).2)
  constructor
  · rcases a1 with k | k
    · exact (h.2.1 c' c hc' hc k).symm
    · have := h.2.1 c' d hc' hd k
      subst this; omega
  · rcases a2 with k | k
    · have := h.2.1 d' c hd' hc k
      subst this; omega
    · exact (h.2.1 d' d hd' hd k).symm
/-- as many, and the same -/
theorem isc_same {A : List V4} {n m : Nat} {f g : Nat → V4} (hpos : ∀ w, InC A w → ∀ i, i < 4 → 0 ≤ w i) (h : IsC A n f) (k : IsC A m g) : ∀ i, i < n → ∃ j, j < m ∧ ∀ x, x < 4 → f i x = g j x := by
  intro i hi
  obtain ⟨j, hj, hp⟩ := k.2.2.1 (f i) (h.1 i hi).1
  exact ⟨j, hj, fun x hx => (prm_eq (k.1 j hj).2 (h.1 i hi).2 (hpos _ (k.1 j hj).1.1) (hpos _ (h.1 i hi).1.1) (h.1 i hi).1.2.1 hp x hx).symm⟩
theorem inj_le : ∀ (n m : Nat) (F : Nat → Nat), (∀ i, i < n → F i < m) → (∀ i j, i < n → j < n → F i = F j → i = j) → n ≤ m := by
  intro n
  induction n with
  | zero => intro m F _ _; exact Nat.zero_le m
  | succ n ih =>
    intro m F hF hi
    have hm := hF n (Nat.lt_succ_self n)
    have := ih (m - 1) (fun i => if F i < F n then F i else F i - 1) (fun i hin => by
      have a := hF i (by omega)
      have b : F i ≠ F n := fun e => by have := hi i n (by omega) (by omega) e; omega
      show (if F i < F n then F i else F i - 1) < m - 1
      split <;> omega) (fun i j hin hjn e => by
      have b : F i ≠ F n := fun e => by have := hi i n (by omega) (by omega) e; omega
      have c : F j ≠ F n := fun e => by have := hi j n (by omega) (by omega) e; omega
      have e : (if F i < F n then F i else F i - 1) = (if F j < F n then F j else F j - 1) := e
      apply hi i j (by omega) (by omega)
      split at e <;> split at e <;> omega)
    omega
theorem isc_le {A : List V4} {n m : Nat} {f g : Nat → V4} (hpos : ∀ w, InC A w → ∀ i, i < 4 → 0 ≤ w i) (h : IsC A n f) (k : IsC A m g) : n ≤ m := by
  have hs := isc_same hpos h k
  refine inj_le n m (fun i => if hi : i < n then (hs i hi).choose else 0) (fun i hi => ?_) (fun i j hi hj e => ?_)
  · simp only [dif_pos hi]; exact (hs i hi).choose_spec.1
  · simp only [dif_pos hi, dif_pos hj] at e
    have a := (hs i hi).choose_spec.2
    have b := (hs j hj).choose_spec.2
    rw [e] at a
    exact h.2.1 i j hi hj (fun x hx y hy => by rw [a x hx, a y hy, b x hx, b y hy, Int.mul_comm])
theorem isc_n {A : List V4} {n m : Nat} {f g : Nat → V4} (hpos : ∀ w, InC A w → ∀ i, i < 4 → 0 ≤ w i) (h : IsC A n f) (k : IsC A m g) : n = m := Nat.le_antisymm (isc_le hpos h k) (isc_le hpos k h)
