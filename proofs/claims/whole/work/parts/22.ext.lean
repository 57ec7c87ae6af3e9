/-! extreme rays -/
def InC (A : List V4) (w : V4) : Prop := ∀ a ∈ A, 0 ≤ dt a w
def nv (v : V4) : Prop := ∃ i, i < 4 ∧ v i ≠ 0
def Ex (A : List V4) (v : V4) : Prop := InC A v ∧ nv v ∧ ∀ (x y : V4) (n : Int), InC A x → InC A y → 0 < n → (∀ i, i < 4 → n * v i = x i + y i) → par x v
theorem mul_cancel {a b c : Int} (h : a ≠ 0) (e : a * b = a * c) : b = c := Int.eq_of_mul_eq_mul_left h e
theorem par_symm {v w : V4} (h : par v w) : par w v := fun i hi j hj => by
  have := h j hj i hi
  rw [Int.mul_comm (w i), Int.mul_comm (w j)]
  exact this
theorem par_self (v : V4) : par v v := fun i _ j _ => Int.mul_comm _ _
theorem par_trans {u x v : V4} (hx : par u x) (hv : par u v) (hu : nv u) : par x v := by
  obtain ⟨i, hi, hne⟩ := hu
  intro a ha b hb
  have h1 := hx i hi a ha
  have h2 := hx i hi b hb
  have h3 := hv i hi a ha
  have h4 := hv i hi b hb
  refine mul_cancel hne (mul_cancel hne ?_)
  generalize u i = ui at *
  generalize u a = ua at *
  generalize u b = ub at *
  generalize x a = xa at *
  generalize x b = xb at *
  generalize x i = xi at *
  generalize v a = va at *
  generalize v b = vb at *
  generalize v i = vi at *
  have e1 : ui * (ui * (xa * vb)) = (ui * xa) * (ui * vb) := by grind
  have e2 : ui * (ui * (xb * va)) = (ui * xb) * (ui * va) := by grind
  rw [e1, e2, h1, h2, h3, h4]
  grind
theorem dt_par0 {r u v : V4} (h : par u v) (hu : nv u) (h0 : dt r u = 0) : dt r v = 0 := by
  obtain ⟨i, hi, hne⟩ := hu
  have e : u i * dt r v = v i * dt r u := by
    have g0 := h i hi 0 (by decide)
    have g1 := h i hi 1 (by decide)
    have g2 := h i hi 2 (by decide)
    have g3 := h i hi 3 (by decide)
    simp only [dt]
    generalize u i = ui at *
    generalize v i = vi at *
    have k0 : ui * (r 0 * v 0) = vi * (r 0 * u 0) := by grind
    have k1 : ui * (r 1 * v 1) = vi * (r 1 * u 1) := by grind
    have k2 : ui * (r 2 * v 2) = vi * (r 2 * u 2) := by grind
    have k3 : ui * (r 3 * v 3) = vi * (r 3 * u 3) := by grind
    grind
  rw [h0, Int.mul_zero] at e
  exact (Int.mul_eq_zero.mp e).resolve_left hne
/-- what the reference keeps is extreme -/
theorem xp_ex {A : List V4} {r s t v : V4} (hr : r ∈ A) (hs : s ∈ A) (ht : t ∈ A) (hx : nv (xp r s t)) (hp : par (xp r s t) v) (hin : InC A v) (hv : nv v) : Ex A v := by
  refine ⟨hin, hv, fun x y n hxi hyi hn he => ?_⟩
  have key : ∀ a, a ∈ A → dt a (xp r s t) = 0 → dt a x = 0 := by
    intro a ha h0
    have h1 : dt a v = 0 := dt_par0 hp hx h0
    have h2 : dt a (fun i => n * v i) = dt a x + dt a y := dt_add a x y _ (fun i hi => he i hi)
    have h3 : dt a (fun i => n * v i) = n * dt a v := dt_mul a v _ n (fun i _ => rfl)
    rw [h1, Int.mul_zero] at h3
    have := hxi a ha
    have := hyi a ha
    omega
  exact par_trans (xp_par (key r hr (xp_r r s t)) (key s hs (xp_s r s t)) (key t ht (xp_t r s t))) hp hx
theorem InC_sv {A : List V4} {P : V4 → Prop} (hP : ∀ v, P v → InC A v) (l : List (Int × V4)) (h : ∀ q ∈ l, 0 ≤ q.1 ∧ P q.2) : InC A (sv l) := by
  induction l with
  | nil => intro a _; simp [sv, dt]
  | cons q l ih =>
    intro a ha
    rw [dt_sv]
    have h0 := h q (by simp)
    have h1 := ih (fun q hq => h q (List.mem_cons_of_mem _ hq)) a ha
    have h2 := Int.mul_nonneg h0.1 (hP _ h0.2 a ha)
    omega
theorem InC_mul {A : List V4} {v : V4} {n : Int} (hn : 0 ≤ n) (h : InC A v) : InC A (fun i => n * v i) := fun a ha => by
  rw [dt_mul a v _ n (fun i _ => rfl)]
  exact Int.mul_nonneg hn (h a ha)
theorem InC_add {A : List V4} {v w : V4} (h : InC A v) (g : InC A w) : InC A (fun i => v i + w i) := fun a ha => by
  rw [dt_add a v w _ (fun i _ => rfl)]
  have := h a ha
  have := g a ha
  omega
theorem par_mul {v : V4} {n : Int} {w : V4} (hn : n ≠ 0) (h : par (fun i => n * v i) w) : par v w := fun i hi j hj => by
  have := h i hi j hj
  refine mul_cancel hn ?_
  have e1 : n * (v i * w j) = n * v i * w j := by grind
  have e2 : n * (v j * w i) = n * v j * w i := by grind
  rw [e1, e2]
  exact this
/-- a term of a sum that isn't 0 -/
theorem sv_nz : ∀ (l : List (Int × V4)) (i : Nat), sv l i ≠ 0 → ∃ l1 q l2, l = l1 ++ q :: l2 ∧ q.1 * q.2 i ≠ 0
  | [], i, h => absurd rfl h
  | q :: l, i, h => by
    by_cases c : q.1 * q.2 i = 0
    · have : sv l i ≠ 0 := fun e => h (by simp only [sv, c, e]; rfl)
      obtain ⟨l1, x, l2, e, hx⟩ := sv_nz l i this
      exact ⟨q :: l1, x, l2, by rw [e]; rfl, hx⟩
    · exact ⟨[], q, l, rfl, c⟩
/-- an extreme ray is among any generating vectors, but for a factor -/
theorem ex_gen {A : List V4} {P : V4 → Prop} {v : V4} (hP : ∀ v, P v → InC A v) (hv : Ex A v) (hc : Co P v) : ∃ p, P p ∧ nv p ∧ par p v := by
  obtain ⟨N, l, hN, hl, he⟩ := hc
  obtain ⟨i, hi, hne⟩ := hv.2.1
  have h1 : sv l i ≠ 0 := by
    rw [← he i hi]
    exact fun e => (Int.mul_eq_zero.mp e).elim (fun h => by omega) hne
  obtain ⟨l1, q, l2, rfl, hq⟩ := sv_nz l i h1
  have hq0 := hl q (by simp)
  have hqn : q.1 ≠ 0 := fun e => hq (by rw [e, Int.zero_mul])
  have hqi : q.2 i ≠ 0 := fun e => hq (by rw [e, Int.mul_zero])
  refine ⟨q.2, hq0.2, ⟨i, hi, hqi⟩, par_mul hqn (hv.2.2 (fun j => q.1 * q.2 j) (fun j => sv l1 j + sv l2 j) N (InC_mul hq0.1 (hP _ hq0.2)) (InC_add (InC_sv hP l1 (fun x hx => hl x (by simp [hx]))) (InC_sv hP l2 (fun x hx => hl x (by simp [hx])))) hN (fun j hj => ?_))⟩
  rw [he j hj, sv_app]
  simp only [sv]
  omega
