/-! the cut by a row, with edges alone -/
theorem sv_tight {a : V4} (l : List (Int × V4)) (h : ∀ q ∈ l, 0 ≤ q.1 ∧ 0 ≤ dt a q.2) : 0 ≤ dt a (sv l) ∧ (dt a (sv l) = 0 → ∀ q ∈ l, q.1 ≠ 0 → dt a q.2 = 0) := by
  induction l with
  | nil => exact ⟨by simp [sv, dt], fun _ q hq => by simp at hq⟩
  | cons q l ih =>
    have h0 := h q (by simp)
    have ih := ih (fun q hq => h q (List.mem_cons_of_mem _ hq))
    rw [dt_sv]
    have h2 := Int.mul_nonneg h0.1 h0.2
    refine ⟨by omega, fun he x hx hne => ?_⟩
    rcases List.mem_cons.mp hx with rfl | hx
    · have : x.1 * dt a x.2 = 0 := by omega
      exact (Int.mul_eq_zero.mp this).resolve_left hne
    · exact ih.2 (by omega) x hx hne
theorem Co_tight {A : List V4} {P : V4 → Prop} (hP : ∀ v, P v → InC A v) {N : Int} {l : List (Int × V4)} {x a : V4} (hl : ∀ q ∈ l, 0 ≤ q.1 ∧ P q.2) (he : ∀ i, i < 4 → N * x i = sv l i) (ha : a ∈ A) (h0 : dt a x = 0) : ∀ q ∈ l, q.1 ≠ 0 → dt a q.2 = 0 := by
  have e : dt a (sv l) = N * dt a x := dt_mul a x (sv l) N (fun i hi => (he i hi).symm)
  exact (sv_tight l (fun q hq => ⟨(hl q hq).1, hP _ (hl q hq).2 a ha⟩)).2 (by rw [e, h0, Int.mul_zero])
/-- no third one on all the rows that both lie on -/
def Adj (A L : List V4) (c d : V4) : Prop := ∀ e ∈ L, (∀ a ∈ A, dt a c = 0 → dt a d = 0 → dt a e = 0) → par e c ∨ par e d
theorem dt_pr (a r c d : V4) : dt a (pr r c d) = -(dt r d) * dt a c + dt r c * dt a d := by
  simp only [dt, pr]; grind
theorem pr_in {A : List V4} {r c d : V4} (hc : InC A c) (hd : InC A d) (h1 : 0 < dt r c) (h2 : dt r d < 0) : InC (r :: A) (pr r c d) := by
  intro a ha
  rcases List.mem_cons.mp ha with rfl | ha
  · rw [pr_dt]; exact Int.le_refl _
  · rw [dt_pr]
    have g1 := Int.mul_nonneg (show 0 ≤ -(dt r d) by omega) (hc a ha)
    have g2 := Int.mul_nonneg (Int.le_of_lt h1) (hd a ha)
    omega
theorem InC_tail {A : List V4} {r v : V4} (h : InC (r :: A) v) : InC A v := fun a ha => h a (List.mem_cons_of_mem _ ha)
theorem nv_of {r v : V4} (h : dt r v ≠ 0) : nv v := by
  apply Classical.byContradiction
  intro hn
  have z : ∀ i, i < 4 → v i = 0 := fun i hi => Classical.byContradiction fun hne => hn ⟨i, hi, hne⟩
  apply h
  simp only [dt, z 0 (by decide), z 1 (by decide), z 2 (by decide), z 3 (by decide), Int.mul_zero, Int.add_zero]
theorem par_scale {v s : V4} {p : Nat} (hp : p < 4) (h : par s v) : ∀ j, j < 4 → v p * s j = s p * v j := fun j hj => by
  have := h j hj p hp
  rw [Int.mul_comm (v p)]
  exact this
/-- the vector of an edge's pair is extreme behind the cut -/
theorem dd_ex {A L : List V4} {r c d : V4} (hpos : ∀ w, InC A w → ∀ i, i < 4 → 0 ≤ w i) (hL : ∀ v ∈ L, InC A v) (hg : ∀ w, InC A w → Co (fun v => v ∈ L) w) (hc : c ∈ L) (hd : d ∈ L) (h1 : 0 < dt r c) (h2 : dt r d < 0) (hadj : Adj A L c d) : Ex (r :: A) (pr r c d) := by
  have hu := pr_in (hL c hc) (hL d hd) h1 h2
  have hcn : nv c := nv_of (r := r) (by omega)
  have hdn : nv d := nv_of (r := r) (by omega)
  have hun : nv (pr r c d) := by
    obtain ⟨i, hi, hne⟩ := hcn
    have p1 := hpos c (hL c hc) i hi
    have p2 := hpos d (hL d hd) i hi
    refine ⟨i, hi, ?_⟩
    have q1 : 0 < -(dt r d) * c i := Int.mul_pos (by omega) (by omega)
    have q2 : 0 ≤ dt r c * d i := Int.mul_nonneg (by omega) p2
    show -(dt r d) * c i + dt r c * d i ≠ 0
    omega
  refine ⟨hu, hun, fun x y n hx hy hn he => ?_⟩
  have tight : ∀ a, a ∈ r :: A → dt a (pr r c d) = 0 → dt a x = 0 := by
    intro a ha h0
    have e1 : dt a (fun i => n * pr r c d i) = dt a x + dt a y := dt_add a x y _ (fun i hi => he i hi)
    have e2 : dt a (fun i => n * pr r c d i) = n * dt a (pr r c d) := dt_mul a _ _ n (fun i _ => rfl)
    rw [h0, Int.mul_zero] at e2
    have := hx a ha
    have := hy a ha
    omega
  have hr0 : dt r x = 0 := tight r (by simp) (pr_dt r c d)
  obtain ⟨N, l, hN, hl, hex⟩ := hg x (InC_tail hx)
  -- each term that counts is parallel to c or to d
  have hcd : ∀ q ∈ l, q.1 ≠ 0 → par q.2 c ∨ par q.2 d := by
    intro q hq hne
    refine hadj q.2 (hl q hq).2 (fun a ha ha1 ha2 => ?_)
    have : dt a (pr r c d) = 0 := by rw [dt_pr, ha1, ha2]; simp
    exact Co_tight hL hl hex ha (tight a (List.mem_cons_of_mem _ ha) this) q hq hne
  have hs : par (sv (l.filter (pb c))) c := par_sv _ (fun q hq => pb_t (List.mem_filter.mp hq).2)
  have htd : par (sv (l.filter (fun q => !pb c q))) d := by
    have key : ∀ k : List (Int × V4), (∀ q ∈ k, q.1 ≠ 0 → par q.2 d) → par (sv k) d := by
      intro k
      induction k with
      | nil => intro _ i _ j _; simp [sv]
      | cons q k ih =>
        intro hk i hi j hj
        have h2 := ih (fun q hq => hk q (List.mem_cons_of_mem _ hq)) i hi j hj
        by_cases z : q.1 = 0
        · simp only [sv, z, Int.zero_mul, Int.zero_add]; exact h2
        · have h1 := hk q (by simp) z i hi j hj
          simp only [sv]
          have e1 : (q.1 * q.2 i + sv k i) * d j = q.1 * (q.2 i * d j) + sv k i * d j := by grind
          have e2 : (q.1 * q.2 j + sv k j) * d i = q.1 * (q.2 j * d i) + sv k j * d i := by grind
          rw [e1, e2, h1, h2]
    refine key _ (fun q hq hne => ?_)
    have hm := List.mem_filter.mp hq
    exact (hcd q hm.1 hne).resolve_left (pb_f hm.2)
  have hsum := fun j => sv_fil (pb c) l j
  generalize sv (l.filter (pb c)) = s at hs hsum
  generalize sv (l.filter (fun q => !pb c q)) = t at htd hsum
  obtain ⟨p, hp, hpn⟩ := hcn
  obtain ⟨q, hq, hqn⟩ := hdn
  have es := par_scale hp hs
  have et := par_scale hq htd
  have ds : c p * dt r s = s p * dt r c := by
    have a1 := dt_mul r s (fun j => c p * s j) (c p) (fun j _ => rfl)
    have a2 := dt_mul r c (fun j => c p * s j) (s p) (fun j hj => es j hj)
    omega
  have dtt : d q * dt r t = t q * dt r d := by
    have a1 := dt_mul r t (fun j => d q * t j) (d q) (fun j _ => rfl)
    have a2 := dt_mul r d (fun j => d q * t j) (t q) (fun j hj => et j hj)
    omega
  have d0 : dt r s + dt r t = 0 := by
    have a1 := dt_add r s t (sv l) (fun j _ => hsum j)
    have a2 := dt_mul r x (sv l) N (fun j hj => (hex j hj).symm)
    rw [hr0, Int.mul_zero] at a2
    omega
  -- c p * d q * N * x = alpha c + beta d, alpha R + beta R' = 0
  have hab : (s p * d q) * dt r c + (t q * c p) * dt r d = 0 := by
    have : c p * d q * (dt r s + dt r t) = 0 := by rw [d0, Int.mul_zero]
    grind
  have hk : c p * d q * N ≠ 0 := by
    intro e
    rcases Int.mul_eq_zero.mp e with e | e
    · rcases Int.mul_eq_zero.mp e with e | e
      · exact hpn e
      · exact hqn e
    · omega
  have hx2 : ∀ j, j < 4 → c p * d q * N * x j = (s p * d q) * c j + (t q * c p) * d j := by
    intro j hj
    have b1 := es j hj
    have b2 := et j hj
    have b3 := hex j hj
    have b4 := hsum j
    grind
  intro i hi j hj
  refine mul_cancel hk ?_
  have e1 : c p * d q * N * (x i * pr r c d j) = (c p * d q * N * x i) * pr r c d j := by grind
  have e2 : c p * d q * N * (x j * pr r c d i) = (c p * d q * N * x j) * pr r c d i := by grind
  rw [e1, e2, hx2 i hi, hx2 j hj]
  show _ * (-(dt r d) * c j + dt r c * d j) = _ * (-(dt r d) * c i + dt r c * d i)
  generalize s p * d q = al at *
  generalize t q * c p = be at *
  generalize dt r c = R at *
  generalize dt r d = S at *
  generalize c i = ci at *
  generalize c j = cj at *
  generalize d i = di at *
  generalize d j = dj at *
  grind
