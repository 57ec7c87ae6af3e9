/-! the class's cones: a corner joined -/
def gl (u : V4) : Nat → Nat
  | 0 => 0
  | j + 1 => Nat.gcd (u j).natAbs (gl u j)
theorem gl_dvd (u : V4) : ∀ (n m : Nat), m < n → gl u n ∣ (u m).natAbs := by
  intro n
  induction n with
  | zero => intro m h; omega
  | succ n ih =>
    intro m hm
    by_cases e : m = n
    · subst e; exact Nat.gcd_dvd_left _ _
    · exact Nat.dvd_trans (Nat.gcd_dvd_right _ _) (ih m (by omega))
theorem dvd_gl {u : V4} {d : Nat} : ∀ (n : Nat), (∀ m, m < n → d ∣ (u m).natAbs) → d ∣ gl u n := by
  intro n
  induction n with
  | zero => intro _; exact ⟨0, rfl⟩
  | succ n ih => exact fun h => Nat.dvd_gcd (h n (by omega)) (ih (fun m hm => h m (by omega)))
theorem gl_lt {u : V4} {B : Nat} (hB : 0 < B) (h : ∀ m, m < 4 → (u m).natAbs < B) : ∀ (n : Nat), n ≤ 4 → gl u n < B := by
  intro n
  induction n with
  | zero => intro _; exact hB
  | succ n ih =>
    intro hn
    have a := ih (by omega)
    have b := h n (by omega)
    show Nat.gcd _ _ < B
    rcases Nat.eq_zero_or_pos (u n).natAbs with q | q
    · rw [q, Nat.gcd_zero_left]; exact a
    · exact Nat.lt_of_le_of_lt (Nat.gcd_le_left _ q) b
theorem gl_pos {u : V4} (h : nv u) : 0 < gl u 4 := by
  obtain ⟨i, hi, hne⟩ := h
  have := gl_dvd u 4 i hi
  rcases Nat.eq_zero_or_pos (gl u 4) with q | q
  · rw [q, Nat.zero_dvd] at this; omega
  · exact q
theorem gl_prm {u w : V4} (hp : 0 < gl u 4) (hw : ∀ m, m < 4 → 0 ≤ w m) (h : ∀ m, m < 4 → u m = (gl u 4 : Int) * w m) : prm w := by
  intro m hm
  have d : gl u 4 * m ∣ gl u 4 := dvd_gl 4 (fun j hj => by
    have hj' := hm j hj
    have q := hw j hj
    rw [h j hj, Int.natAbs_mul, Int.natAbs_natCast, show (w j).natAbs = (w j).toNat by omega]
    exact Nat.mul_dvd_mul (Nat.dvd_refl _) hj')
  have := Nat.le_of_dvd hp d
  rcases Nat.lt_or_ge m 2 with q | q
  · rcases (show m = 0 ∨ m = 1 by omega) with rfl | rfl
    · rw [Nat.mul_zero, Nat.zero_dvd] at d; omega
    · rfl
  · have := Nat.mul_le_mul_left (gl u 4) q
    omega
/-- the weights that joining makes, ahead of their common divisor -/
def jn (ζ : ZS) (d i j : Nat) : V4 := fun m => -(ζ.2.1 (d + 3) j) * cw ζ d i m + ζ.2.1 (d + 3) i * cw ζ d j m
theorem s_join (ζ : ZS) (c d : Nat) {i j N : Nat} {z y bit : Int} (hz : z = i) (hy : y = j) (hi : i < 44) (hj : j < 44) (hN : ζ.1 c 5 = N) (hN2 : N < 44) (hd : c + 3 < d ∨ d + 3 < c) (hb : ∀ m, m < 4 → (jn ζ d i j m).natAbs < 4611686018427387904) (hn : nv (jn ζ d i j)) :
    Ok (g_X1_join c d z y bit ζ) (fun ζ' => ζ'.1 c 5 = ((N + 1 : Nat) : Int) ∧ ζ'.1 (c + 2) N = zor (zand (ζ.1 (d + 2) i) (ζ.1 (d + 2) j)) bit ∧ (∀ m, m < 4 → jn ζ d i j m = (gl (jn ζ d i j) 4 : Int) * cw ζ' c N m) ∧ Fx (Wt c N) ζ ζ') := by
  subst hz; subst hy
  have hgp := gl_pos hn
  have hgl := gl_lt (u := jn ζ d i j) (by decide) hb
  -- the last step
  have fin : ∀ (ζ1 : ZS), ζ1.1 = ζ.1 → Fx (Wt c N) ζ ζ1 → (∀ m, m < 4 → jn ζ d i j m = (gl (jn ζ d i j) 4 : Int) * cw ζ1 c N m) →
      Ok (g_X1_join_134 c d i j bit ζ1) (fun ζ' => ζ'.1 c 5 = ((N + 1 : Nat) : Int) ∧ ζ'.1 (c + 2) N = zor (zand (ζ.1 (d + 2) i) (ζ.1 (d + 2) j)) bit ∧ (∀ m, m < 4 → jn ζ d i j m = (gl (jn ζ d i j) 4 : Int) * cw ζ' c N m) ∧ Fx (Wt c N) ζ ζ') := by
    intro ζ1 h1 hf hc
    unfold g_X1_join_134
    rw [h1]
    refine ok_gk (by omega) (by omega) (ok_gk (by omega) (by omega) (ok_gk (by omega) (by omega) (ok_some ?_)))
    simp only [zI_1, hN, Int.toNat_natCast]
    refine ⟨by simp [h1, hN], by simp, hc, fx_I (fx_I hf (by unfold Wt; omega)) (by unfold Wt; omega)⟩
  -- the division
  have div : ∀ (n : Nat) (y : Int) (k : Nat) (ζ1 : ZS), y = k → k ≤ 4 → 4 - k < n → ζ1.1 = ζ.1 → Fx (Wt c N) ζ ζ1 → (∀ m, m < k → jn ζ d i j m = (gl (jn ζ d i j) 4 : Int) * cw ζ1 c N m) → (∀ m, k ≤ m → m < 4 → cw ζ1 c N m = jn ζ d i j m) →
      Ok (g_X1_join_107 c d i j bit (gl (jn ζ d i j) 4 : Int) (ζ.1 c 5 * 4) n y ζ1) (fun ζ' => ζ'.1 c 5 = ((N + 1 : Nat) : Int) ∧ ζ'.1 (c + 2) N = zor (zand (ζ.1 (d + 2) i) (ζ.1 (d + 2) j)) bit ∧ (∀ m, m < 4 → jn ζ d i j m = (gl (jn ζ d i j) 4 : Int) * cw ζ' c N m) ∧ Fx (Wt c N) ζ ζ') := by
    intro n
    induction n with
    | zero => intro _ _ _ _ _ h; omega
    | succ n ih =>
      intro y k ζ1 hy hk hn h1 hf hc hr
      subst hy
      unfold g_X1_join_107
      refine ok_gI (by omega) (by omega) (by omega) (by omega) (fun h => ?_) (fun h => ?_)
      · exact fin ζ1 h1 hf (fun m hm => hc m (by omega))
      · have e1 : Int.toNat (ζ.1 c 5 * 4 + (k : Int)) = 4 * N + k := by omega
        have e2 : ζ1.2.1 (c + 1) (4 * N + k) = jn ζ d i j k := hr k (by omega) (by omega)
        rw [e1, e2]
        have b1 := hb k (by omega)
        have b2 := hgl 4 (by omega)
        refine ok_gk (by omega) (by omega) (ok_gdJ (by omega) (by omega) (by omega) (by omega) (ok_gk (by omega) (by omega) ?_))
        refine ih _ (k + 1) _ (by omega) (by omega) (by omega) h1 (fx_J hf (by unfold Wt; omega)) (fun m hm => ?_) (fun m hm1 hm2 => ?_)
        · show _ = _ * (zJ ζ1 _ _ _).2.1 (c + 1) (4 * N + m)
          rw [zJ_2]
          by_cases e : m = k
          · subst e
            rw [if_pos ⟨rfl, rfl⟩]
            have dv : (gl (jn ζ d i j) 4 : Int) ∣ jn ζ d i j m := Int.ofNat_dvd_left.mpr (gl_dvd _ 4 m (by omega))
            exact (Int.mul_tdiv_cancel' dv).symm
          · rw [if_neg (by omega)]
            exact hc m (by omega)
        · show (zJ ζ1 _ _ _).2.1 (c + 1) (4 * N + m) = _
          rw [zJ_2, if_neg (by omega)]
          exact hr m (by omega) hm2
  have key : ∀ (n : Nat) (g y : Int) (k : Nat) (ζ1 : ZS), y = k → k ≤ 4 → 4 - k < n → g = (gl (jn ζ d i j) k : Int) → ζ1.1 = ζ.1 → Fx (Wt c N) ζ ζ1 → (∀ m, m < k → cw ζ1 c N m = jn ζ d i j m) →
      Ok (g_X1_join_41 c d i j bit (ζ.2.1 (d + 3) i) (-(ζ.2.1 (d + 3) j)) (ζ.1 c 5 * 4) n g y ζ1) (fun ζ' => ζ'.1 c 5 = ((N + 1 : Nat) : Int) ∧ ζ'.1 (c + 2) N = zor (zand (ζ.1 (d + 2) i) (ζ.1 (d + 2) j)) bit ∧ (∀ m, m < 4 → jn ζ d i j m = (gl (jn ζ d i j) 4 : Int) * cw ζ' c N m) ∧ Fx (Wt c N) ζ ζ') := by
    intro n
    induction n with
    | zero => intro _ _ _ _ _ _ h; omega
    | succ n ih =>
      intro g y k ζ1 hy hk hn hg h1 hf hc
      subst hy; subst hg
      have b2 := hgl k (by omega)
      unfold g_X1_join_41
      refine ok_gI (by omega) (by omega) (by omega) (by omega) (fun h => ?_) (fun h => ?_)
      · have hk4 : k = 4 := by omega
        subst hk4
        refine ok_gJ (by omega) (by omega) (by omega) (by omega) (fun h => ?_) (fun h => ?_)
        · refine fin ζ1 h1 hf (fun m hm => ?_)
          rw [hc m hm, show gl (jn ζ d i j) 4 = 1 by omega]
          simp
        · exact div FU 0 0 ζ1 rfl (by omega) (by rw [FU_e]; omega) h1 hf (fun m hm => by omega) (fun m _ hm => hc m hm)
      · refine ok_beq (s_weight ζ1 d rfl rfl hi (by omega)) (ok_beq (s_weight ζ1 d rfl rfl hj (by omega)) (ok_gk (by omega) (by omega) ?_))
        have e1 : Int.toNat (ζ.1 c 5 * 4 + (k : Int)) = 4 * N + k := by omega
        have w1 : cw ζ1 d i k = cw ζ d i k := (hf.1 _ _ (by unfold Wt; omega)).2
        have w2 : cw ζ1 d j k = cw ζ d j k := (hf.1 _ _ (by unfold Wt; omega)).2
        have ej : -(ζ.2.1 (d + 3) j) * cw ζ d i k + ζ.2.1 (d + 3) i * cw ζ d j k = jn ζ d i j k := rfl
        simp only [w1, w2, e1, ej]
        refine ok_beq (s_gcd _ (hb k (by omega)) (by rw [Int.natAbs_natCast]; exact b2)) ?_
        refine ih _ _ (k + 1) _ (by omega) (by omega) (by omega) (by rw [Int.natAbs_natCast]; rfl) h1 (fx_J hf (by unfold Wt; omega)) (fun m hm => ?_)
        show (zJ ζ1 _ _ _).2.1 (c + 1) (4 * N + m) = _
        rw [zJ_2]
        by_cases e : m = k
        · subst e
          rw [if_pos ⟨rfl, rfl⟩]
        · rw [if_neg (by omega)]
          exact hc m (by omega)
  unfold g_X1_join
  refine ok_gI (by omega) (by omega) (by omega) (by omega) (fun _ => ?_) (fun h => absurd (by omega) h)
  refine ok_gk (by omega) (by omega) (ok_gk (by omega) (by omega) ?_)
  exact key FU 0 0 0 ζ rfl (by omega) (by rw [FU_e]; omega) rfl rfl (fx_refl _ _) (fun m hm => by omega)
