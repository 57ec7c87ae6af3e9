/-! the class's cones: small steps -/
theorem gcd_loop (ζ : ZS) : ∀ (k n a b : Nat) (z : Int), a < 2 ^ 62 → b < 2 ^ k → k ≤ 62 → 0 ≤ z → z + 2 * k ≤ 190 → 2 * k + 1 < n → g_X3_commonDivisor_31 n (a : Int) (b : Int) z ζ = some (((Nat.gcd a b : Nat) : Int), ζ) := by
  intro k
  induction k with
  | zero =>
    intro n a b z ha hb _ hz hz2 hn
    obtain ⟨n, rfl⟩ : ∃ m, n = m + 1 := ⟨n - 1, by omega⟩
    have : b = 0 := by omega
    subst this
    apply ok_eq
    unfold g_X3_commonDivisor_31
    refine ok_gI (by omega) (by omega) (by omega) (by omega) (fun _ => by omega) (fun _ => ?_)
    refine ok_gJ (by omega) (by omega) (by omega) (by omega) (fun _ => ?_) (fun h => absurd rfl h)
    exact ok_some (by rw [Nat.gcd_zero_right])
  | succ k ih =>
    intro n a b z ha hb hk hz hz2 hn
    obtain ⟨n, rfl⟩ : ∃ m, n = m + 1 + 1 := ⟨n - 2, by omega⟩
    have p62 : (2 : Nat) ^ 62 = 4611686018427387904 := by decide
    have pk : 2 ^ (k + 1) ≤ 2 ^ 62 := Nat.pow_le_pow_right (by decide) hk
    apply ok_eq
    unfold g_X3_commonDivisor_31
    refine ok_gI (by omega) (by omega) (by omega) (by omega) (fun _ => by omega) (fun _ => ?_)
    refine ok_gJ (by omega) (by omega) (by omega) (by omega) (fun h => ?_) (fun h => ?_)
    · have : b = 0 := by omega
      subst this
      exact ok_some (by rw [Nat.gcd_zero_right])
    refine ok_gdJ (by omega) (by omega) (by omega) (by omega) ?_
    have e1 : Int.tmod (a : Int) (b : Int) = ((a % b : Nat) : Int) := rfl
    rw [e1]
    have hb0 : 0 < b := by omega
    have hl : a % b < b := Nat.mod_lt a hb0
    unfold g_X3_commonDivisor_31
    refine ok_gI (by omega) (by omega) (by omega) (by omega) (fun _ => by omega) (fun _ => ?_)
    refine ok_gJ (by omega) (by omega) (by omega) (by omega) (fun h => ?_) (fun h => ?_)
    · refine ok_some ?_
      have : a % b = 0 := by omega
      rw [Nat.gcd_comm, Nat.gcd_rec, this, Nat.gcd_zero_left]
    refine ok_gdJ (by omega) (by omega) (by omega) (by omega) ?_
    have e2 : Int.tmod (b : Int) ((a % b : Nat) : Int) = ((b % (a % b) : Nat) : Int) := rfl
    rw [e2]
    have hc : 0 < a % b := by omega
    have hl2 : b % (a % b) < a % b := Nat.mod_lt b hc
    have h3 : b % (a % b) ≤ b - a % b := by
      rw [Nat.mod_eq_sub_mod (Nat.le_of_lt hl)]
      exact Nat.mod_le _ _
    have hp : 2 ^ (k + 1) = 2 * 2 ^ k := by rw [Nat.pow_succ]; omega
    rw [ih n (a % b) (b % (a % b)) (z + 1 + 1) (by omega) (by omega) (by omega) (by omega) (by omega) (by omega)]
    refine ok_some ?_
    rw [Nat.gcd_comm a b, Nat.gcd_rec b a, Nat.gcd_comm (a % b) b, Nat.gcd_comm (a % b) (b % (a % b)), ← Nat.gcd_rec (a % b) b, Nat.gcd_comm]
theorem s_gcd (ζ : ZS) {x y : Int} (hx : x.natAbs < 4611686018427387904) (hy : y.natAbs < 4611686018427387904) : g_X3_commonDivisor x y ζ = some (((Nat.gcd x.natAbs y.natAbs : Nat) : Int), ζ) := by
  apply ok_eq
  have p62 : (2 : Nat) ^ 62 = 4611686018427387904 := by decide
  have key : g_X3_commonDivisor_31 FU (x.natAbs : Int) (y.natAbs : Int) 0 ζ = some (((Nat.gcd x.natAbs y.natAbs : Nat) : Int), ζ) := gcd_loop ζ 62 FU _ _ 0 (by omega) (by omega) (by omega) (by omega) (by omega) (by rw [FU_e]; omega)
  have ex : 0 ≤ x → x = (x.natAbs : Int) := fun h => by omega
  have en : ¬ 0 ≤ x → -x = (x.natAbs : Int) := fun h => by omega
  have ey : 0 ≤ y → y = (y.natAbs : Int) := fun h => by omega
  have em : ¬ 0 ≤ y → -y = (y.natAbs : Int) := fun h => by omega
  unfold g_X3_commonDivisor g_X3_commonDivisor_12 g_X3_commonDivisor_26
  refine ok_gJ (by omega) (by omega) (by omega) (by omega) (fun h => ?_) (fun h => ?_) <;> refine ok_gJ (by omega) (by omega) (by omega) (by omega) (fun g => ?_) (fun g => ?_)
  · rw [← ex h, ← ey g] at key; exact ok_of key
  · rw [← ex h, ← em g] at key; exact ok_of key
  · rw [← en h, ← ey g] at key; exact ok_of key
  · rw [← en h, ← em g] at key; exact ok_of key
/-- a corner's weights -/
def cw (ζ : ZS) (c i : Nat) : V4 := fun m => ζ.2.1 (c + 1) (4 * i + m)
theorem s_weight (ζ : ZS) (c : Nat) {i m : Nat} {z y : Int} (hz : z = i) (hy : y = m) (hi : i < 44) (hm : m < 4) : g_X1_weight c z y ζ = some (cw ζ c i m, ζ) := by
  subst hz; subst hy
  apply ok_eq
  unfold g_X1_weight
  refine ok_gk (by omega) (by omega) (ok_some ?_)
  rw [show Int.toNat ((i : Int) * 4 + m) = 4 * i + m by omega]; rfl
def psum (h : Nat → Int) : Nat → Int
  | 0 => 0
  | k + 1 => psum h k + h k
theorem psum_dt {r v : V4} {k : Nat} (hk : k ≤ 4) (h : ∀ m, k ≤ m → m < 4 → v m = 0) : psum (fun m => v m * r m) k = dt r v := by
  rcases (show k = 0 ∨ k = 1 ∨ k = 2 ∨ k = 3 ∨ k = 4 by omega) with rfl | rfl | rfl | rfl | rfl <;> simp only [psum, dt]
  · rw [h 0 (by omega) (by omega), h 1 (by omega) (by omega), h 2 (by omega) (by omega), h 3 (by omega) (by omega)]; omega
  · rw [h 1 (by omega) (by omega), h 2 (by omega) (by omega), h 3 (by omega) (by omega), Int.mul_comm (v 0)]; omega
  · rw [h 2 (by omega) (by omega), h 3 (by omega) (by omega), Int.mul_comm (v 0), Int.mul_comm (v 1)]; omega
  · rw [h 3 (by omega) (by omega), Int.mul_comm (v 0), Int.mul_comm (v 1), Int.mul_comm (v 2)]; omega
  · rw [Int.mul_comm (v 0), Int.mul_comm (v 1), Int.mul_comm (v 2), Int.mul_comm (v 3)]; omega
theorem s_product (ζ : ZS) (c d : Nat) {i k : Nat} {z : Int} (hz : z = i) (hi : i < 44) (hk : k ≤ 4) (h3 : ζ.1 c 3 = k) (hl : ln d = 4) (hb : ∀ m, m < 4 → -2147483648 ≤ ζ.1 d m ∧ ζ.1 d m < 2147483648) : g_X1_product c z d ζ = some (psum (fun m => cw ζ c i m * ζ.1 d m) k, ζ) := by
  subst hz
  have key : ∀ (n : Nat) (acc y : Int) (j : Nat), y = j → j ≤ k → acc = psum (fun m => cw ζ c i m * ζ.1 d m) j → k - j < n → g_X1_product_5 c i d n acc y ζ = some (psum (fun m => cw ζ c i m * ζ.1 d m) k, ζ) := by
    intro n
    induction n with
    | zero => intro _ _ _ _ _ _ h; omega
    | succ n ih =>
      intro acc y j hy hj ha hn
      subst hy
      apply ok_eq
      unfold g_X1_product_5
      refine ok_gI (by omega) (by omega) (by omega) (by omega) (fun h => ?_) (fun h => ?_)
      · refine ok_some ?_
        rw [ha, show j = k by omega]
      · have hb' := hb j (by omega)
        refine ok_gk (by omega) (by omega) (ok_gk (by omega) (by omega) (ok_gw ?_ ?_ ?_))
        · exact hb'.1
        · exact hb'.2
        · refine ok_of (ih _ _ (j + 1) (by omega) (by omega) ?_ (by omega))
          rw [ha]
          show _ = _ + _
          rw [show Int.toNat ((i : Int) * 4 + j) = 4 * i + j by omega]; rfl
  exact key FU 0 0 0 rfl (by omega) rfl (by rw [FU_e]; omega)
theorem s_sum (ζ : ZS) (c : Nat) {i k : Nat} {z : Int} (hz : z = i) (hi : i < 44) (hk : k ≤ 4) (h3 : ζ.1 c 3 = k) : g_X1_sum c z ζ = some (psum (fun m => cw ζ c i m) k, ζ) := by
  subst hz
  have key : ∀ (n : Nat) (acc y : Int) (j : Nat), y = j → j ≤ k → acc = psum (fun m => cw ζ c i m) j → k - j < n → g_X1_sum_5 c i n acc y ζ = some (psum (fun m => cw ζ c i m) k, ζ) := by
    intro n
    induction n with
    | zero => intro _ _ _ _ _ _ h; omega
    | succ n ih =>
      intro acc y j hy hj ha hn
      subst hy
      apply ok_eq
      unfold g_X1_sum_5
      refine ok_gI (by omega) (by omega) (by omega) (by omega) (fun h => ?_) (fun h => ?_)
      · refine ok_some ?_
        rw [ha, show j = k by omega]
      · refine ok_gk (by omega) (by omega) ?_
        refine ok_of (ih _ _ (j + 1) (by omega) (by omega) ?_ (by omega))
        rw [ha]
        show _ = _ + _
        rw [show Int.toNat ((i : Int) * 4 + j) = 4 * i + j by omega]; rfl
  exact key FU 0 0 0 rfl (by omega) rfl (by rw [FU_e]; omega)
theorem psum_s {v : V4} {k : Nat} (hk : k ≤ 4) (h : ∀ m, k ≤ m → m < 4 → v m = 0) : psum (fun m => v m) k = dt sG v := by
  rw [← psum_dt hk h]
  congr 1
  funext m
  simp [sG]
/-- what taking or joining a corner at place N changes -/
def Wt (c N : Nat) (x k : Nat) : Prop := (x = c ∧ k = 5) ∨ (x = c + 1 ∧ 4 * N ≤ k ∧ k < 4 * N + 4) ∨ (x = c + 2 ∧ k = N)
theorem s_take (ζ : ZS) (c d : Nat) {i N : Nat} {z bit : Int} (hz : z = i) (hi : i < 44) (hN : ζ.1 c 5 = N) (hN2 : N < 44) (hd : c + 3 < d ∨ d + 3 < c) :
    Ok (g_X1_take c d z bit ζ) (fun ζ' => ζ'.1 c 5 = ((N + 1 : Nat) : Int) ∧ ζ'.1 (c + 2) N = zor (ζ.1 (d + 2) i) bit ∧ (∀ m, m < 4 → cw ζ' c N m = cw ζ d i m) ∧ Fx (Wt c N) ζ ζ') := by
  subst hz
  have key : ∀ (n : Nat) (y : Int) (j : Nat) (ζ1 : ZS), y = j → j ≤ 4 → 4 - j < n → Fx (Wt c N) ζ ζ1 → ζ1.1 = ζ.1 → (∀ m, m < j → cw ζ1 c N m = cw ζ d i m) →
      Ok (g_X1_take_13 c d i bit n y ζ1) (fun ζ' => ζ'.1 c 5 = ((N + 1 : Nat) : Int) ∧ ζ'.1 (c + 2) N = zor (ζ.1 (d + 2) i) bit ∧ (∀ m, m < 4 → cw ζ' c N m = cw ζ d i m) ∧ Fx (Wt c N) ζ ζ') := by
    intro n
    induction n with
    | zero => intro _ _ _ _ _ h; omega
    | succ n ih =>
      intro y j ζ1 hy hj hn hf h1 hc
      subst hy
      unfold g_X1_take_13
      rw [h1]
      refine ok_gI (by omega) (by omega) (by omega) (by omega) (fun h => ?_) (fun h => ?_)
      · refine ok_gk (by omega) (by omega) (ok_gk (by omega) (by omega) (ok_some ?_))
        have hj4 : j = 4 := by omega
        subst hj4
        simp only [zI_1, hN, Int.toNat_natCast]
        refine ⟨?_, ?_, hc, ?_⟩
        · simp [h1, hN]
        · simp
        · exact fx_I (fx_I hf (by unfold Wt; omega)) (by unfold Wt; omega)
      · rw [s_weight ζ1 d rfl rfl hi (by omega)]
        show Ok (gk _ _ _) _
        refine ok_gk (by omega) (by omega) ?_
        refine ih _ (j + 1) _ (by omega) (by omega) (by omega) (fx_J hf ?_) h1 ?_
        · unfold Wt; omega
        · intro m hm
          show (zJ ζ1 _ _ _).2.1 (c + 1) (4 * N + m) = _
          rw [zJ_2]
          by_cases e : m = j
          · subst e
            rw [if_pos ⟨rfl, by omega⟩]
            show ζ1.2.1 (d + 1) (4 * i + m) = ζ.2.1 (d + 1) (4 * i + m)
            exact (hf.1 _ _ (by unfold Wt; omega)).2
          · rw [if_neg (by omega)]
            exact hc m (by omega)
  unfold g_X1_take
  refine ok_gI (by omega) (by omega) (by omega) (by omega) (fun _ => ?_) (fun h => absurd (by omega) h)
  exact key FU 0 0 ζ rfl (by omega) (by rw [FU_e]; omega) (fx_refl _ _) rfl (fun m hm => by omega)
