/-! the class's cones: edges -/
theorem zbc_rng (a : Int) : -2147483648 ≤ zbc a ∧ zbc a < 2147483648 := by
  unfold zbc
  split
  · rename_i p _
    exact ⟨Int32.le_toInt p.1, Int32.toInt_lt p.1⟩
  · omega
theorem msk_sub {p q : Nat → Bool} {R : Nat} (hR : R ≤ 31) : zand (msk p R) (msk q R) = ((msk q R : Nat) : Int) ↔ ∀ b, b < R → q b = true → p b = true := by
  rw [z_and p q hR]
  constructor
  · intro h b hb hq
    have := msk_inj (Int.ofNat.inj h) hb
    simp [hq] at this
    exact this
  · intro h
    congr 1
    exact msk_congr (fun b hb => by
      cases e : q b with
      | false => simp
      | true => simp [h b hb e])
theorem s_isEdge (ζ : ZS) (c : Nat) {i j k n R : Nat} {z y : Int} {tb : Nat → Nat → Bool} (hz : z = i) (hy : y = j) (hi : i < n) (hj : j < n) (hn : n ≤ 44) (hk : k ≤ 4) (hR : R ≤ 24) (h3 : ζ.1 c 3 = k) (h5 : ζ.1 c 5 = n) (ht : ∀ o, o < n → ζ.1 (c + 2) o = ((msk (tb o) R : Nat) : Int)) :
    Ok (g_X1_isEdge c z y ζ) (fun r => r.2 = ζ ∧ (r.1 = 0 ∨ r.1 = 1) ∧ (r.1 = 1 ↔ ((k : Int) - 2 ≤ (bc (fun b => tb i b && tb j b) R : Int) ∧ ∀ o, o < n → (∀ b, b < R → tb i b = true → tb j b = true → tb o b = true) → o = i ∨ o = j))) := by
  subst hz; subst hy
  have m31 : ∀ p, msk p R < 2147483648 := fun p => msk_31 p (by omega)
  have hcm : zand (ζ.1 (c + 2) i) (ζ.1 (c + 2) j) = ((msk (fun b => tb i b && tb j b) R : Nat) : Int) := by
    rw [ht i hi, ht j hj, z_and _ _ (by omega)]
  have key : ∀ (m : Nat) (w : Int) (o : Nat), w = o → o ≤ n → n - o < m →
      Ok (g_X1_isEdge_32 c i j ((msk (fun b => tb i b && tb j b) R : Nat) : Int) m w ζ) (fun r => r.2 = ζ ∧ (r.1 = 0 ∨ r.1 = 1) ∧ (r.1 = 1 ↔ ∀ o', o ≤ o' → o' < n → (∀ b, b < R → tb i b = true → tb j b = true → tb o' b = true) → o' = i ∨ o' = j)) := by
    intro m
    induction m with
    | zero => intro _ _ _ _ h; omega
    | succ m ih =>
      intro w o hw ho hm
      subst hw
      unfold g_X1_isEdge_32
      refine ok_gI (by omega) (by omega) (by omega) (by omega) (fun h => ?_) (fun h => ?_)
      · refine ok_some ⟨rfl, Or.inr rfl, ?_⟩
        constructor
        · intro _ o' h1 h2; omega
        · intro _; rfl
      · have hon : o < n := by omega
        have e : Int.toNat (o : Int) = o := by omega
        rw [e, ht o hon]
        have rec_ : ((∀ b, b < R → tb i b = true → tb j b = true → tb o b = true) → o = i ∨ o = j) → Ok (g_X1_isEdge_32 c i j ((msk (fun b => tb i b && tb j b) R : Nat) : Int) m ((o : Int) + 1) ζ) (fun r => r.2 = ζ ∧ (r.1 = 0 ∨ r.1 = 1) ∧ (r.1 = 1 ↔ ∀ o', o ≤ o' → o' < n → (∀ b, b < R → tb i b = true → tb j b = true → tb o' b = true) → o' = i ∨ o' = j)) := by
          intro hq
          refine ok_mono (ih _ (o + 1) (by omega) (by omega) (by omega)) (fun r hr => ⟨hr.1, hr.2.1, hr.2.2.trans ⟨fun g o' h1 h2 => ?_, fun g o' h1 h2 => g o' (by omega) h2⟩⟩)
          by_cases e : o' = o
          · rw [e]; exact hq
          · exact g o' (by omega) h2
        have za := z_and (tb o) (fun b => tb i b && tb j b) (n := R) (by omega)
        have l1 : msk (fun b => tb o b && (tb i b && tb j b)) R < 2147483648 := m31 _
        have l2 := m31 (fun b => tb i b && tb j b)
        refine ok_gk (by omega) (by omega) (ok_gI (by rw [za]; omega) (by rw [za]; omega) (by omega) (by omega) (fun h => ?_) (fun h => ?_))
        · rw [msk_sub (by omega)] at h
          refine ok_gI (by omega) (by omega) (by omega) (by omega) (fun h1 => ?_) (fun h1 => ?_)
          · exact rec_ (fun _ => Or.inl (by omega))
          · refine ok_gI (by omega) (by omega) (by omega) (by omega) (fun h2 => ?_) (fun h2 => ?_)
            · exact rec_ (fun _ => Or.inr (by omega))
            · refine ok_some ⟨rfl, Or.inl rfl, ⟨fun q => absurd q (show ¬ ((0 : Int) = 1) by decide), fun g => ?_⟩⟩
              have := g o (Nat.le_refl o) hon (fun b hb g1 g2 => h b hb (by simp [g1, g2]))
              omega
        · rw [msk_sub (by omega)] at h
          exact rec_ (fun g => absurd (fun b hb hq => by simp at hq; exact g b hb hq.1 hq.2) h)
  unfold g_X1_isEdge
  refine ok_gk (by omega) (by omega) (ok_gk (by omega) (by omega) ?_)
  rw [show Int.toNat (i : Int) = i by omega, show Int.toNat (j : Int) = j by omega, hcm]
  have hz := zbc_msk (fun b => tb i b && tb j b) hR
  have hr := zbc_rng ((msk (fun b => tb i b && tb j b) R : Nat) : Int)
  unfold g_J6_bitCount_0f7a4
  show Ok (gI (ζ.1 c 3 - 2) (zbc ((msk (fun b => tb i b && tb j b) R : Nat) : Int)) _ _ _) _
  refine ok_gI (by omega) (by omega) (by omega) (by omega) (fun h => ?_) (fun h => ?_)
  · refine ok_mono (key FU 0 0 rfl (by omega) (by rw [FU_e]; omega)) (fun r hr => ⟨hr.1, hr.2.1, hr.2.2.trans ⟨fun g => ⟨?_, fun o ho => g o (by omega) ho⟩, fun g o _ ho => g.2 o ho⟩⟩)
    rw [← hz, ← h3]; exact h
  · refine ok_some ⟨rfl, Or.inl rfl, ⟨fun q => absurd q (show ¬ ((0 : Int) = 1) by decide), fun g => ?_⟩⟩
    exact absurd (by rw [hz, h3]; exact g.1) h
/-- a cone of the class: k measures, R rows, n corners -/
def Cn (ζ : ZS) (c k R n : Nat) (ρ : Nat → V4) : Prop := ζ.1 c 3 = k ∧ ζ.1 c 4 = R ∧ ζ.1 c 5 = n ∧ (∀ i, i < n → ζ.1 (c + 2) i = ((msk (fun b => decide (dt (ρ b) (cw ζ c i) = 0)) R : Nat) : Int)) ∧ IsC (Ak k R ρ) n (cw ζ c)
theorem cn_44 {ζ : ZS} {c k R n : Nat} {ρ : Nat → V4} (h : Cn ζ c k R n ρ) (hr : Rk k R ρ) (hR : R + (4 - k) ≤ 23) : n ≤ 42 := (cntR hr (by omega) h.2.2.2.2.1 h.2.2.2.2.2.1).2 hR
theorem cn_edge {ζ : ZS} {c k R n : Nat} {ρ : Nat → V4} (h : Cn ζ c k R n ρ) (hr : Rk k R ρ) {i j : Nat} (hi : i < n) (hj : j < n) (hij : i ≠ j) : ((k : Int) - 2 ≤ (bc (fun b => decide (dt (ρ b) (cw ζ c i) = 0) && decide (dt (ρ b) (cw ζ c j) = 0)) R : Int) ∧ ∀ o, o < n → (∀ b, b < R → decide (dt (ρ b) (cw ζ c i) = 0) = true → decide (dt (ρ b) (cw ζ c j) = 0) = true → decide (dt (ρ b) (cw ζ c o) = 0) = true) → o = i ∨ o = j) ↔ Adj (Ak k R ρ) (fls n (cw ζ c)) (cw ζ c i) (cw ζ c j) := by
  have ai := adj_iff hr h.2.2.2.2 hi hj
  constructor
  · intro g
    exact ai.mp (fun o ho ht => g.2 o ho (fun b hb z1 z2 => decide_eq_true (ht b hb (of_decide_eq_true z1) (of_decide_eq_true z2))))
  · intro g
    refine ⟨?_, fun o ho ht => ai.mpr g o ho (fun b hb z1 z2 => of_decide_eq_true (ht b hb (decide_eq_true z1) (decide_eq_true z2)))⟩
    have ar := adj_rows hr h.2.2.2.2 hi hj hij g
    have h4 := hr.2.1
    rcases (show k ≤ 2 ∨ k = 3 ∨ k = 4 by omega) with q | q | q
    · omega
    · obtain ⟨b, hb, z1, z2⟩ := ar.1 (by omega)
      have := bc_one (p := fun b => decide (dt (ρ b) (cw ζ c i) = 0) && decide (dt (ρ b) (cw ζ c j) = 0)) hb (by simp [z1, z2])
      omega
    · obtain ⟨b, b', hb, hb', hne, z1, z2, z3, z4⟩ := ar.2 (by omega)
      have := bc_two (p := fun b => decide (dt (ρ b) (cw ζ c i) = 0) && decide (dt (ρ b) (cw ζ c j) = 0)) hb hb' hne (by simp [z1, z2]) (by simp [z3, z4])
      omega
