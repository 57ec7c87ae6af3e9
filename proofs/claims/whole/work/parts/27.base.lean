/-! the whole cone; vectors without a common divisor -/
theorem dt_un {m : Nat} (hm : m < 4) (w : V4) : dt (un m) w = w m := by
  rcases (show m = 0 ∨ m = 1 ∨ m = 2 ∨ m = 3 by omega) with rfl | rfl | rfl | rfl <;> simp [dt, un]
/-- the rows of all weights of k measures: none below 0, those from k on 0 -/
def A0 (k : Nat) : List V4 := [un 0, un 1, un 2, un 3] ++ ((List.range 4).filter (fun m => decide (k ≤ m))).map (fun m => fun i => -(un m i))
def L0 (k : Nat) : List V4 := (List.range k).map un
theorem dt_neg (m w : V4) : dt (fun i => -(m i)) w = -(dt m w) := by simp only [dt]; grind
theorem A0_un {k m : Nat} (hm : m < 4) : un m ∈ A0 k := by
  rcases (show m = 0 ∨ m = 1 ∨ m = 2 ∨ m = 3 by omega) with rfl | rfl | rfl | rfl <;> simp [A0]
theorem A0_pos {k : Nat} {A : List V4} (hA : ∀ a ∈ A0 k, a ∈ A) {w : V4} (h : InC A w) : ∀ i, i < 4 → 0 ≤ w i := fun i hi => by
  have := h (un i) (hA _ (A0_un hi))
  rw [dt_un hi] at this
  exact this
theorem A0_zero {k : Nat} {A : List V4} (hA : ∀ a ∈ A0 k, a ∈ A) {w : V4} (h : InC A w) : ∀ i, i < 4 → k ≤ i → w i = 0 := fun i hi hk => by
  have h1 := A0_pos hA h i hi
  have h2 := h (fun j => -(un i j)) (hA _ (List.mem_append_right _ (List.mem_map.mpr ⟨i, List.mem_filter.mpr ⟨List.mem_range.mpr hi, by simpa using hk⟩, rfl⟩)))
  rw [dt_neg, dt_un hi] at h2
  omega
theorem L0_in {k : Nat} (hk : k ≤ 4) : ∀ v ∈ L0 k, InC (A0 k) v ∧ nv v := by
  intro v hv
  obtain ⟨m, hm, rfl⟩ := List.mem_map.mp hv
  have hm := List.mem_range.mp hm
  have hu : ∀ i, 0 ≤ un m i := fun i => by unfold un; split <;> omega
  refine ⟨fun a ha => ?_, m, by omega, by simp [un]⟩
  rcases List.mem_append.mp ha with h | h
  · have : ∃ j, j < 4 ∧ a = un j := by
      simp only [List.mem_cons, List.not_mem_nil, or_false] at h
      rcases h with rfl | rfl | rfl | rfl
      · exact ⟨0, by decide, rfl⟩
      · exact ⟨1, by decide, rfl⟩
      · exact ⟨2, by decide, rfl⟩
      · exact ⟨3, by decide, rfl⟩
    obtain ⟨j, hj, rfl⟩ := this
    rw [dt_un hj]
    exact hu j
  · obtain ⟨j, hj, rfl⟩ := List.mem_map.mp h
    have hj := List.mem_filter.mp hj
    have hj4 := List.mem_range.mp hj.1
    have hkj : k ≤ j := by simpa using hj.2
    rw [dt_neg, dt_un hj4]
    have : un m j = 0 := by unfold un; rw [if_neg (by omega)]
    omega
theorem L0_gen {k : Nat} (h1 : 1 ≤ k) (hk : k ≤ 4) {w : V4} (h : InC (A0 k) w) : Co (fun v => v ∈ L0 k) w := by
  have hp := A0_pos (fun _ h => h) h
  have hz := A0_zero (fun _ h => h) h
  refine ⟨1, (List.range k).map (fun m => (w m, un m)), by decide, fun q hq => ?_, fun i hi => ?_⟩
  · obtain ⟨m, hm, rfl⟩ := List.mem_map.mp hq
    exact ⟨hp m (by have := List.mem_range.mp hm; omega), List.mem_map.mpr ⟨m, hm, rfl⟩⟩
  · rw [Int.one_mul]
    have z1 := hz 1 (by decide)
    have z2 := hz 2 (by decide)
    have z3 := hz 3 (by decide)
    rcases (show k = 1 ∨ k = 2 ∨ k = 3 ∨ k = 4 by omega) with rfl | rfl | rfl | rfl <;> rcases (show i = 0 ∨ i = 1 ∨ i = 2 ∨ i = 3 by omega) with rfl | rfl | rfl | rfl <;> simp [List.range, List.range.loop, sv, un] <;> omega
theorem L0_ex {k : Nat} (hk : k ≤ 4) : ∀ v ∈ L0 k, Ex (A0 k) v := by
  intro v hv
  have h0 := L0_in hk v hv
  refine ⟨h0.1, h0.2, fun x y n hx hy hn he => ?_⟩
  obtain ⟨m, hm, rfl⟩ := List.mem_map.mp hv
  have hm4 : m < 4 := by have := List.mem_range.mp hm; omega
  have px := A0_pos (fun _ h => h) hx
  have py := A0_pos (fun _ h => h) hy
  have hx0 : ∀ j, j < 4 → j ≠ m → x j = 0 := fun j hj hne => by
    have := he j hj
    rw [show un m j = 0 by unfold un; rw [if_neg hne]] at this
    have := px j hj
    have := py j hj
    omega
  intro i hi j hj
  by_cases c1 : i = m
  · by_cases c2 : j = m
    · rw [c1, c2]
    · rw [hx0 j hj c2]; simp [un, c2]
  · by_cases c2 : j = m
    · rw [hx0 i hi c1]; simp [un, c1]
    · rw [hx0 i hi c1, hx0 j hj c2]; simp
/-- no common divisor -/
def prm (v : V4) : Prop := ∀ m : Nat, (∀ i, i < 4 → m ∣ (v i).toNat) → m = 1
theorem prm_eq {v w : V4} (hv : prm v) (hw : prm w) (pv : ∀ i, i < 4 → 0 ≤ v i) (pw : ∀ i, i < 4 → 0 ≤ w i) (nw : nv w) (h : par v w) : ∀ i, i < 4 → v i = w i := by
  have hnv : nv v := by
    apply Classical.byContradiction
    intro hn
    have z : ∀ i, i < 4 → v i = 0 := fun i hi => Classical.byContradiction fun hne => hn ⟨i, hi, hne⟩
    have := hv 2 (fun i hi => by rw [z i hi]; exact ⟨0, rfl⟩)
    omega
  obtain ⟨i, hi, hne⟩ := hnv
  have hwi : w i ≠ 0 := by
    intro z
    obtain ⟨j, hj, hnj⟩ := nw
    have := h i hi j hj
    rw [z, Int.mul_zero] at this
    exact hnj ((Int.mul_eq_zero.mp this).resolve_left hne)
  have e : ∀ j, j < 4 → (v i).toNat * (w j).toNat = (w i).toNat * (v j).toNat := by
    intro j hj
    have := h i hi j hj
    have a := pv i hi
    have b := pv j hj
    have c := pw i hi
    have d := pw j hj
    have k1 : (((v i).toNat * (w j).toNat : Nat) : Int) = v i * w j := by rw [Int.natCast_mul, Int.toNat_of_nonneg a, Int.toNat_of_nonneg d]
    have k2 : (((w i).toNat * (v j).toNat : Nat) : Int) = w i * v j := by rw [Int.natCast_mul, Int.toNat_of_nonneg c, Int.toNat_of_nonneg b]
    have k3 : v i * w j = w i * v j := by rw [this, Int.mul_comm]
    omega
  have ha : 0 < (v i).toNat := by have := pv i hi; omega
  have hb : 0 < (w i).toNat := by have := pw i hi; omega
  generalize (v i).toNat = a at e ha
  generalize (w i).toNat = b at e hb
  have hg : 0 < Nat.gcd a b := Nat.gcd_pos_of_pos_left b ha
  obtain ⟨a', ea⟩ := Nat.gcd_dvd_left a b
  obtain ⟨b', eb⟩ := Nat.gcd_dvd_right a b
  have hco : Nat.Coprime a' b' := by
    have h1 : Nat.gcd a b * Nat.gcd a' b' = Nat.gcd a b * 1 := by
      rw [← Nat.gcd_mul_left, ← ea, ← eb, Nat.mul_one]
    exact Nat.eq_of_mul_eq_mul_left hg h1
  have e2 : ∀ j, j < 4 → a' * (w j).toNat = b' * (v j).toNat := fun j hj => by
    have := e j hj
    generalize Nat.gcd a b = g at ea eb hg
    rw [ea, eb] at this
    rw [Nat.mul_assoc, Nat.mul_assoc] at this
    exact Nat.eq_of_mul_eq_mul_left hg this
  have a1 : a' = 1 := hv a' (fun j hj => hco.dvd_of_dvd_mul_left ⟨(w j).toNat, (e2 j hj).symm⟩)
  have b1 : b' = 1 := hw b' (fun j hj => hco.symm.dvd_of_dvd_mul_left ⟨(v j).toNat, e2 j hj⟩)
  intro j hj
  have := e2 j hj
  rw [a1, b1, Nat.one_mul, Nat.one_mul] at this
  have c := pv j hj
  have d := pw j hj
  omega
