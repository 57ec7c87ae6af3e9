/-! how many corners a cone of R rows has -/
def Rk (k R : Nat) (ρ : Nat → V4) : Prop := 1 ≤ k ∧ k ≤ 4 ∧ k ≤ R ∧ (∀ m, m < k → ρ m = un m) ∧ ∀ b, b < R → bd (ρ b)
def Ak (k R : Nat) (ρ : Nat → V4) : List V4 := A0 k ++ fls R ρ
theorem mem_A0 {k : Nat} {a : V4} (h : a ∈ A0 k) : ∃ m, m < 4 ∧ (a = un m ∨ (k ≤ m ∧ a = fun i => -(un m i))) := by
  unfold A0 at h
  rcases List.mem_append.mp h with h | h
  · simp at h
    rcases h with h | h | h | h
    · exact ⟨0, by decide, Or.inl h⟩
    · exact ⟨1, by decide, Or.inl h⟩
    · exact ⟨2, by decide, Or.inl h⟩
    · exact ⟨3, by decide, Or.inl h⟩
  · obtain ⟨m, hm, e⟩ := List.mem_map.mp h
    obtain ⟨h1, h2⟩ := List.mem_filter.mp hm
    exact ⟨m, List.mem_range.mp h1, Or.inr ⟨of_decide_eq_true h2, e.symm⟩⟩
theorem un_bd (m : Nat) : bd (un m) := fun i _ => by unfold un; split <;> omega
theorem Ak_bd {k R : Nat} {ρ : Nat → V4} (h : Rk k R ρ) : ∀ a ∈ Ak k R ρ, bd a := by
  intro a ha
  rcases List.mem_append.mp ha with ha | ha
  · obtain ⟨m, _, e | ⟨_, e⟩⟩ := mem_A0 ha
    · rw [e]; exact un_bd m
    · rw [e]; intro i hi; have := un_bd m i hi; show -100 ≤ -(un m i) ∧ -(un m i) ≤ 100; omega
  · obtain ⟨b, hb, e⟩ := mem_fl.mp ha
    rw [e]; exact h.2.2.2.2 b hb
theorem Ak_pos {k R : Nat} {ρ : Nat → V4} : ∀ w, InC (Ak k R ρ) w → ∀ i, i < 4 → 0 ≤ w i := fun _ h => A0_pos (fun _ ha => List.mem_append_left _ ha) h
theorem Ak_zero {k R : Nat} {ρ : Nat → V4} {w : V4} (h : InC (Ak k R ρ) w) : ∀ i, i < 4 → k ≤ i → w i = 0 := A0_zero (fun _ ha => List.mem_append_left _ ha) h
theorem xp_s1 {r r' s t : V4} {σ : Int} (h : ∀ i, i < 4 → r i = σ * r' i) {j : Nat} (hj : j < 4) : xp r s t j = σ * xp r' s t j := by
  have h0 := h 0 (by decide)
  have h1 := h 1 (by decide)
  have h2 := h 2 (by decide)
  have h3 := h 3 (by decide)
  rcases (show j = 0 ∨ j = 1 ∨ j = 2 ∨ j = 3 by omega) with rfl | rfl | rfl | rfl <;> simp only [xp_0, xp_1, xp_2, xp_3, d3, h0, h1, h2, h3] <;> grind
theorem xp_s2 {r s s' t : V4} {σ : Int} (h : ∀ i, i < 4 → s i = σ * s' i) {j : Nat} (hj : j < 4) : xp r s t j = σ * xp r s' t j := by
  have h0 := h 0 (by decide)
  have h1 := h 1 (by decide)
  have h2 := h 2 (by decide)
  have h3 := h 3 (by decide)
  rcases (show j = 0 ∨ j = 1 ∨ j = 2 ∨ j = 3 by omega) with rfl | rfl | rfl | rfl <;> simp only [xp_0, xp_1, xp_2, xp_3, d3, h0, h1, h2, h3] <;> grind
theorem xp_s3 {r s t t' : V4} {σ : Int} (h : ∀ i, i < 4 → t i = σ * t' i) {j : Nat} (hj : j < 4) : xp r s t j = σ * xp r s t' j := by
  have h0 := h 0 (by decide)
  have h1 := h 1 (by decide)
  have h2 := h 2 (by decide)
  have h3 := h 3 (by decide)
  rcases (show j = 0 ∨ j = 1 ∨ j = 2 ∨ j = 3 by omega) with rfl | rfl | rfl | rfl <;> simp only [xp_0, xp_1, xp_2, xp_3, d3, h0, h1, h2, h3] <;> grind
theorem nv_sc {v w : V4} {σ : Int} (h : ∀ i, i < 4 → v i = σ * w i) (hv : nv v) : nv w := by
  obtain ⟨i, hi, hne⟩ := hv
  refine ⟨i, hi, fun z => hne ?_⟩
  rw [h i hi, z, Int.mul_zero]
/-- the rows of the count: the real ones, and the units of the measures that there are not -/
def rq (k R : Nat) (ρ : Nat → V4) : Nat → V4 := fun i => if i < R then ρ i else un (k + (i - R))
theorem rq_of {k R : Nat} {ρ : Nat → V4} (h : Rk k R ρ) {a v : V4} (ha : a ∈ Ak k R ρ) (hz : dt a v = 0) : ∃ i σ, i < R + (4 - k) ∧ (∀ x, x < 4 → a x = σ * rq k R ρ i x) ∧ dt (rq k R ρ i) v = 0 := by
  rcases List.mem_append.mp ha with ha | ha
  · have unit : ∀ m, m < 4 → ∃ i, i < R + (4 - k) ∧ rq k R ρ i = un m := by
      intro m hm
      by_cases c : m < k
      · exact ⟨m, by have := h.2.2.1; omega, by unfold rq; rw [if_pos (by have := h.2.2.1; omega)]; exact h.2.2.2.1 m c⟩
      · exact ⟨R + (m - k), by omega, by unfold rq; rw [if_neg (by omega), show k + (R + (m - k) - R) = m by omega]⟩
    obtain ⟨m, hm, e⟩ := mem_A0 ha
    obtain ⟨i, hi, ei⟩ := unit m hm
    rcases e with e | ⟨_, e⟩
    · exact ⟨i, 1, hi, fun x _ => by rw [ei, e]; omega, by rw [ei, ← e]; exact hz⟩
    · refine ⟨i, -1, hi, fun x _ => by rw [ei, e]; show -(un m x) = -1 * un m x; omega, ?_⟩
      rw [ei]
      rw [e, dt_neg] at hz
      omega
  · obtain ⟨b, hb, e⟩ := mem_fl.mp ha
    have ei : rq k R ρ b = ρ b := by unfold rq; rw [if_pos hb]
    exact ⟨b, 1, by omega, fun x _ => by rw [ei, e]; omega, by rw [ei, ← e]; exact hz⟩
theorem rq_in {k R : Nat} {ρ : Nat → V4} (h : Rk k R ρ) {v : V4} (hv : InC (Ak k R ρ) v) : ∀ i, i < R + (4 - k) → 0 ≤ dt (rq k R ρ i) v := by
  intro i hi
  by_cases c : i < R
  · rw [show rq k R ρ i = ρ i by unfold rq; rw [if_pos c]]
    exact hv _ (List.mem_append_right _ (mem_fl.mpr ⟨i, c, rfl⟩))
  · rw [show rq k R ρ i = un (k + (i - R)) by unfold rq; rw [if_neg c]]
    exact hv _ (List.mem_append_left _ (A0_un (by have := h.2.1; omega)))
theorem cntR {k R V : Nat} {ρ f : Nat → V4} (h : Rk k R ρ) (hR : R + (4 - k) ≤ 24) (h1 : ∀ i, i < V → Ex (Ak k R ρ) (f i) ∧ prm (f i)) (h2 : ∀ i j, i < V → j < V → par (f i) (f j) → i = j) : V ≤ 44 ∧ (R + (4 - k) ≤ 23 → V ≤ 42) := by
  by_cases c : V < 2
  · omega
  have := cnt (n := R + (4 - k)) (b := rq k R ρ) (f := f) (V := V) (fun j hj => ex_pos Ak_pos (h1 j hj).1) (fun j hj => rq_in h (h1 j hj).1.1) (fun j hj => by
    obtain ⟨r, s, t, hr, hs, ht, g1, g2, g3, hn⟩ := ex_rows (h1 j hj).1
    obtain ⟨i1, σ1, a1, a2, a3⟩ := rq_of h hr g1
    obtain ⟨i2, σ2, b1, b2, b3⟩ := rq_of h hs g2
    obtain ⟨i3, σ3, c1, c2, c3⟩ := rq_of h ht g3
    exact ⟨i1, i2, i3, a1, b1, c1, a3, b3, c3, nv_sc (fun i hi => xp_s3 c2 hi) (nv_sc (fun i hi => xp_s2 b2 hi) (nv_sc (fun i hi => xp_s1 a2 hi) hn))⟩) h2 (fun j hj i hi => (ex_bd Ak_pos (Ak_bd h) (h1 j hj).1 (h1 j hj).2 i hi).2) (by omega)
  omega
/-- one row more -/
def rx (R : Nat) (ρ : Nat → V4) (r : V4) : Nat → V4 := fun b => if b = R then r else ρ b
theorem Ak_rx {k R : Nat} {ρ : Nat → V4} {r w : V4} : InC (r :: Ak k R ρ) w ↔ InC (Ak k (R + 1) (rx R ρ r)) w := by
  constructor
  · intro h a ha
    rcases List.mem_append.mp ha with ha | ha
    · exact h a (List.mem_cons_of_mem _ (List.mem_append_left _ ha))
    · obtain ⟨b, hb, e⟩ := mem_fl.mp ha
      unfold rx at e
      by_cases c : b = R
      · rw [if_pos c] at e; rw [e]; exact h r (by simp)
      · rw [if_neg c] at e; rw [e]; exact h _ (List.mem_cons_of_mem _ (List.mem_append_right _ (mem_fl.mpr ⟨b, by omega, rfl⟩)))
  · intro h a ha
    rcases List.mem_cons.mp ha with ha | ha
    · have := h (rx R ρ r R) (List.mem_append_right _ (mem_fl.mpr ⟨R, by omega, rfl⟩))
      unfold rx at this
      rw [if_pos rfl] at this
      rw [ha]; exact this
    · rcases List.mem_append.mp ha with ha | ha
      · exact h a (List.mem_append_left _ ha)
      · obtain ⟨b, hb, e⟩ := mem_fl.mp ha
        have := h (rx R ρ r b) (List.mem_append_right _ (mem_fl.mpr ⟨b, by omega, rfl⟩))
        unfold rx at this
        rw [if_neg (by omega)] at this
        rw [e]; exact this
theorem Rk_rx {k R : Nat} {ρ : Nat → V4} {r : V4} (h : Rk k R ρ) (hr : bd r) : Rk k (R + 1) (rx R ρ r) := by
  refine ⟨h.1, h.2.1, by have := h.2.2.1; omega, fun m hm => ?_, fun b hb => ?_⟩
  · unfold rx; rw [if_neg (by have := h.2.2.1; omega)]; exact h.2.2.2.1 m hm
  · unfold rx
    by_cases c : b = R
    · rw [if_pos c]; exact hr
    · rw [if_neg c]; exact h.2.2.2.2 b (by omega)
/-- an edge by the rows alone -/
theorem adj_iff {k R n : Nat} {ρ f : Nat → V4} (h : Rk k R ρ) (hc : IsC (Ak k R ρ) n f) {i j : Nat} (hi : i < n) (hj : j < n) : (∀ o, o < n → (∀ b, b < R → dt (ρ b) (f i) = 0 → dt (ρ b) (f j) = 0 → dt (ρ b) (f o) = 0) → o = i ∨ o = j) ↔ Adj (Ak k R ρ) (fls n f) (f i) (f j) := by
  constructor
  · intro g e he ht
    obtain ⟨o, ho, eo⟩ := mem_fl.mp he
    rw [eo] at ht ⊢
    rcases g o ho (fun b hb => ht _ (List.mem_append_right _ (mem_fl.mpr ⟨b, hb, rfl⟩))) with q | q
    · rw [q]; exact Or.inl (par_self _)
    · rw [q]; exact Or.inr (par_self _)
  · intro g o ho ht
    have := g (f o) (mem_fl.mpr ⟨o, ho, rfl⟩) (fun a ha z1 z2 => by
      rcases List.mem_append.mp ha with ha | ha
      · obtain ⟨m, hm, e⟩ := mem_A0 ha
        have key : dt (un m) (f i) = 0 → dt (un m) (f j) = 0 → dt (un m) (f o) = 0 := by
          intro y1 y2
          by_cases c : m < k
          · have e2 := h.2.2.2.1 m c
            rw [← e2] at y1 y2 ⊢
            exact ht m (by have := h.2.2.1; omega) y1 y2
          · rw [dt_un hm]; exact Ak_zero (hc.1 o ho).1.1 m hm (by omega)
        rcases e with e | ⟨_, e⟩
        · rw [e] at z1 z2 ⊢; exact key z1 z2
        · rw [e, dt_neg] at z1 z2 ⊢
          have := key (by omega) (by omega)
          omega
      · obtain ⟨b, hb, e⟩ := mem_fl.mp ha
        rw [e] at z1 z2 ⊢
        exact ht b hb z1 z2)
    rcases this with q | q
    · exact Or.inl (hc.2.1 o i ho hi q)
    · exact Or.inr (hc.2.1 o j ho hj q)
