/-! the step that cuts by a row: all pairs' vectors generate what is left -/
def prz (r d : V4) (b : Int) (l : List (Int × V4)) : List (Int × V4) := l.map (fun q => if 0 < dt r q.2 then (b * q.1, pr r q.2 d) else (b * q.1 * (-(dt r d)), q.2))
theorem sv_prz (r d : V4) (b : Int) (l : List (Int × V4)) (h : ∀ q ∈ l, 0 ≤ dt r q.2) (i : Nat) : sv (prz r d b l) i = b * (-(dt r d) * sv l i + dt r (sv l) * d i) := by
  induction l with
  | nil => simp [prz, sv, dt]
  | cons q l ih =>
    have h0 := h q (by simp)
    have ih := ih (fun q hq => h q (List.mem_cons_of_mem _ hq))
    rw [dt_sv]
    by_cases c : 0 < dt r q.2
    · have e : prz r d b (q :: l) = (b * q.1, pr r q.2 d) :: prz r d b l := by simp [prz, c]
      rw [e]
      simp only [sv, ih, pr]
      grind
    · have e : prz r d b (q :: l) = (b * q.1 * (-(dt r d)), q.2) :: prz r d b l := by simp [prz, c]
      have z : dt r q.2 = 0 := by omega
      rw [e, z]
      simp only [sv, ih]
      grind
theorem dt_svneg (r : V4) (l : List (Int × V4)) (h : ∀ q ∈ l, 0 ≤ q.1 ∧ dt r q.2 < 0) : dt r (sv l) ≤ 0 := by
  induction l with
  | nil => simp [sv, dt]
  | cons q l ih =>
    rw [dt_sv]
    have h0 := h q (by simp)
    have ih := ih (fun q hq => h q (List.mem_cons_of_mem _ hq))
    have : q.1 * dt r q.2 ≤ 0 := Int.mul_nonpos_of_nonneg_of_nonpos h0.1 (Int.le_of_lt h0.2)
    omega
theorem dt_sc (r : V4) (n : Int) (l : List (Int × V4)) : dt r (sv (sc n l)) = n * dt r (sv l) := dt_mul r (sv l) _ n (fun i _ => sv_sc n l i)
theorem gen_core {P : V4 → Prop} {r : V4} : ∀ (ln lp lz : List (Int × V4)) (N K : Int) (w : V4), 0 < N → 0 < K → (∀ q ∈ lp, 0 ≤ q.1 ∧ P q.2 ∧ 0 ≤ dt r q.2) → (∀ q ∈ lz, 0 ≤ q.1 ∧ Pn P r q.2) → (∀ q ∈ ln, 0 ≤ q.1 ∧ P q.2 ∧ dt r q.2 < 0) → (∀ i, i < 4 → N * w i = sv lp i + sv lz i + K * sv ln i) → 0 ≤ dt r (sv lp) + K * dt r (sv ln) → Co (Pn P r) w := by
  intro ln
  induction ln with
  | nil =>
    intro lp lz N K w hN hK hp hz hn he ht
    refine ⟨N, lp ++ lz, hN, fun q hq => ?_, fun i hi => ?_⟩
    · rcases List.mem_append.mp hq with h | h
      · exact ⟨(hp q h).1, Or.inl ⟨(hp q h).2.1, (hp q h).2.2⟩⟩
      · exact hz q h
    · rw [he i hi, sv_app]; simp [sv]
  | cons q ln ih =>
    intro lp lz N K w hN hK hp hz hn he ht
    have hq := hn q (by simp)
    have hn' : ∀ q ∈ ln, 0 ≤ q.1 ∧ P q.2 ∧ dt r q.2 < 0 := fun q h => hn q (List.mem_cons_of_mem _ h)
    rw [dt_sv] at ht
    by_cases hb : q.1 = 0
    · refine ih lp lz N K w hN hK hp hz hn' (fun i hi => ?_) (by rw [hb] at ht; simpa using ht)
      rw [he i hi]; simp [sv, hb]
    · have hb0 : 0 < K * q.1 := Int.mul_pos hK (by omega)
      have hneg := dt_svneg r ln (fun q h => ⟨(hn' q h).1, (hn' q h).2.2⟩)
      have hneg2 : K * dt r (sv ln) ≤ 0 := Int.mul_nonpos_of_nonneg_of_nonpos (Int.le_of_lt hK) hneg
      generalize hbe : K * q.1 = b at hb0
      have hD : b * dt r q.2 < 0 := Int.mul_neg_of_pos_of_neg hb0 hq.2.2
      have ht2 : 0 ≤ dt r (sv lp) + b * dt r q.2 + K * dt r (sv ln) := by
        have e : K * (q.1 * dt r q.2 + dt r (sv ln)) = b * dt r q.2 + K * dt r (sv ln) := by rw [← hbe]; grind
        omega
      have hS : 0 < dt r (sv lp) := by omega
      have hS2 : 0 ≤ dt r (sv lp) + b * dt r q.2 := by omega
      refine ih (sc (dt r (sv lp) + b * dt r q.2) lp) (sc (dt r (sv lp)) lz ++ prz r q.2 b lp) (dt r (sv lp) * N) (dt r (sv lp) * K) w (Int.mul_pos hS hN) (Int.mul_pos hS hK) ?_ ?_ hn' ?_ ?_
      · intro x hx
        obtain ⟨y, hy, rfl⟩ := List.mem_map.mp hx
        exact ⟨Int.mul_nonneg hS2 (hp y hy).1, (hp y hy).2⟩
      · intro x hx
        rcases List.mem_append.mp hx with h | h
        · obtain ⟨y, hy, rfl⟩ := List.mem_map.mp h
          exact ⟨Int.mul_nonneg (Int.le_of_lt hS) (hz y hy).1, (hz y hy).2⟩
        · obtain ⟨y, hy, rfl⟩ := List.mem_map.mp h
          have hy3 := hp y hy
          by_cases c : 0 < dt r y.2
          · simp only [if_pos c]
            exact ⟨Int.mul_nonneg (Int.le_of_lt hb0) hy3.1, Or.inr ⟨y.2, q.2, hy3.2.1, hq.2.1, c, hq.2.2, rfl⟩⟩
          · simp only [if_neg c]
            exact ⟨Int.mul_nonneg (Int.mul_nonneg (Int.le_of_lt hb0) hy3.1) (by omega), Or.inl ⟨hy3.2.1, hy3.2.2⟩⟩
      · intro i hi
        have h1 := he i hi
        have e1 : dt r (sv lp) * N * w i = dt r (sv lp) * (N * w i) := Int.mul_assoc _ _ _
        rw [e1, h1, sv_app, sv_sc, sv_sc, sv_prz r q.2 b lp (fun q hq => (hp q hq).2.2)]
        simp only [sv]
        rw [← hbe]
        generalize dt r (sv lp) = S
        generalize sv lp i = a
        generalize sv lz i = z
        generalize sv ln i = c
        generalize dt r q.2 = e
        generalize q.2 i = f
        grind
      · rw [dt_sc]
        have h2 : 0 ≤ dt r (sv lp) * (dt r (sv lp) + b * dt r q.2 + K * dt r (sv ln)) := Int.mul_nonneg (Int.le_of_lt hS) ht2
        generalize dt r (sv lp) = S at h2 ⊢
        generalize dt r (sv ln) = c at h2 ⊢
        generalize b * dt r q.2 = e at h2 ⊢
        have e3 : (S + e) * S + S * K * c = S * (S + e + K * c) := by grind
        omega
theorem sv_part (r : V4) (l : List (Int × V4)) (i : Nat) : sv l i = sv (l.filter (fun q => decide (0 ≤ dt r q.2))) i + sv (l.filter (fun q => decide (¬ 0 ≤ dt r q.2))) i := by
  induction l with
  | nil => simp [sv]
  | cons q l ih =>
    by_cases c : 0 ≤ dt r q.2
    · rw [List.filter_cons_of_pos (by simpa using c), List.filter_cons_of_neg (by simpa using c)]
      simp only [sv]
      omega
    · rw [List.filter_cons_of_neg (by simpa using c), List.filter_cons_of_pos (by simpa using c)]
      simp only [sv]
      omega
theorem gen_step {P : V4 → Prop} {r w : V4} (h : Co P w) (hr : 0 ≤ dt r w) : Co (Pn P r) w := by
  obtain ⟨N, l, hN, hl, he⟩ := h
  refine gen_core (l.filter (fun q => decide (¬ 0 ≤ dt r q.2))) (l.filter (fun q => decide (0 ≤ dt r q.2))) [] N 1 w hN (by decide) ?_ (fun q hq => by simp at hq) ?_ ?_ ?_
  · intro q hq
    have h := List.mem_filter.mp hq
    exact ⟨(hl q h.1).1, (hl q h.1).2, by simpa using h.2⟩
  · intro q hq
    have h := List.mem_filter.mp hq
    exact ⟨(hl q h.1).1, (hl q h.1).2, by simpa using h.2⟩
  · intro i hi
    rw [he i hi, sv_part r l i]
    simp [sv]
  · have e : dt r (sv l) = N * dt r w := dt_mul r w (sv l) N (fun i hi => (he i hi).symm)
    have e2 := dt_add r _ _ (sv l) (fun i _ => sv_part r l i)
    rw [Int.one_mul, ← e2, e]
    exact Int.mul_nonneg (Int.le_of_lt hN) hr
