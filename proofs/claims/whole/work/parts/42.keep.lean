/-! the reference: products, crosses, a corner kept -/
theorem rcd_loop (ζ : ZS) : ∀ (k n a b : Nat), a < 2 ^ 62 → b < 2 ^ k → k ≤ 62 → 2 * k + 1 < n → g_X12_common_28 n (a : Int) (b : Int) ζ = some (((Nat.gcd a b : Nat) : Int), ζ) := by
  intro k
  induction k with
  | zero =>
    intro n a b ha hb _ hn
    obtain ⟨n, rfl⟩ : ∃ m, n = m + 1 := ⟨n - 1, by omega⟩
    have : b = 0 := by omega
    subst this
    apply ok_eq
    unfold g_X12_common_28
    refine ok_gJ (by omega) (by omega) (by omega) (by omega) (fun _ => ?_) (fun h => absurd rfl h)
    exact ok_some (by rw [Nat.gcd_zero_right])
  | succ k ih =>
    intro n a b ha hb hk hn
    obtain ⟨n, rfl⟩ : ∃ m, n = m + 1 + 1 := ⟨n - 2, by omega⟩
    have p62 : (2 : Nat) ^ 62 = 4611686018427387904 := by decide
    have pk : 2 ^ (k + 1) ≤ 2 ^ 62 := Nat.pow_le_pow_right (by decide) hk
    apply ok_eq
    unfold g_X12_common_28
    refine ok_gJ (by omega) (by omega) (by omega) (by omega) (fun h => ?_) (fun h => ?_)
    · have : b = 0 := by omega
      subst this
      exact ok_some (by rw [Nat.gcd_zero_right])
    refine ok_gdJ (by omega) (by omega) (by omega) (by omega) ?_
    have e1 : Int.tmod (a : Int) (b : Int) = ((a % b : Nat) : Int) := rfl
    rw [e1]
    have hb0 : 0 < b := by omega
    have hl : a % b < b := Nat.mod_lt a hb0
    unfold g_X12_common_28
    refine ok_gJ (by omega) (by omega) (by omega) (by omega) (fun h => ?_) (fun h => ?_)
    · refine ok_some ?_
      have : a % b = 0 := by omega
      rw [Nat.gcd_comm, Nat.gcd_rec, this, Nat.gcd_zero_left]
    refine ok_gdJ (by omega) (by omega) (by omega) (by omega) ?_
    have e2 : Int.tmod (b : Int) ((a % b : Nat) : Int) = ((b % (a % b) : Nat) : Int) := rfl
    rw [e2]
    have hc : 0 < a % b := by omega
    have hl2 : b % (a % b) < a % b := Nat.mod_lt b hc
    have h3 : b % (a % b) ≤ b - a % b := by
      rw [Nat.mod_eq_sub_mod (Nat.le_of_lt hl)]
      exact Nat.mod_le _ _
    have hp : 2 ^ (k + 1) = 2 * 2 ^ k := by rw [Nat.pow_succ]; omega
    rw [ih n (a % b) (b % (a % b)) (by omega) (by omega) (by omega) (by omega)]
    refine ok_some ?_
    rw [Nat.gcd_comm a b, Nat.gcd_rec b a, Nat.gcd_comm (a % b) b, Nat.gcd_comm (a % b) (b % (a % b)), ← Nat.gcd_rec (a % b) b, Nat.gcd_comm]
theorem s_rcd (ζ : ZS) {x y : Int} (hx : x.natAbs < 4611686018427387904) (hy : y.natAbs < 4611686018427387904) : g_X12_common x y ζ = some (((Nat.gcd x.natAbs y.natAbs : Nat) : Int), ζ) := by
  apply ok_eq
  have p62 : (2 : Nat) ^ 62 = 4611686018427387904 := by decide
  have key : g_X12_common_28 FU (x.natAbs : Int) (y.natAbs : Int) ζ = some (((Nat.gcd x.natAbs y.natAbs : Nat) : Int), ζ) := rcd_loop ζ 62 FU _ _ (by omega) (by omega) (by omega) (by rw [FU_e]; omega)
  have ex : 0 ≤ x → x = (x.natAbs : Int) := fun h => by omega
  have en : ¬ 0 ≤ x → -x = (x.natAbs : Int) := fun h => by omega
  have ey : 0 ≤ y → y = (y.natAbs : Int) := fun h => by omega
  have em : ¬ 0 ≤ y → -y = (y.natAbs : Int) := fun h => by omega
  unfold g_X12_common g_X12_common_12 g_X12_common_26
  refine ok_gJ (by omega) (by omega) (by omega) (by omega) (fun h => ?_) (fun h => ?_) <;> refine ok_gJ (by omega) (by omega) (by omega) (by omega) (fun g => ?_) (fun g => ?_)
  · rw [← ex h, ← ey g] at key; exact ok_of key
  · rw [← ex h, ← em g] at key; exact ok_of key
  · rw [← en h, ← ey g] at key; exact ok_of key
  · rw [← en h, ← em g] at key; exact ok_of key
/-- row b; corner i of a level -/
def rr (ζ : ZS) (b : Nat) : V4 := fun m => ζ.2.1 19 (4 * b + m)
def rf (ζ : ZS) (lv i : Nat) : V4 := fun m => ζ.2.1 22 (4 * (72 * lv + i) + m)
theorem psum_dt' {r v : V4} {k : Nat} (hk : k ≤ 4) (h : ∀ m, k ≤ m → m < 4 → v m = 0) : psum (fun m => r m * v m) k = dt r v := by
  rw [← psum_dt hk h]
  congr 1
  funext m
  exact Int.mul_comm _ _
theorem s_times (ζ : ZS) {r lv c k : Nat} {z1 z2 z3 : Int} (h1 : z1 = r) (h2 : z2 = lv) (h3 : z3 = c) (hr : r < 64) (hl : lv < 12) (hc : c < 72) (hk : k ≤ 4) (hm : ζ.1 0 20 = k) : g_X12_times z1 z2 z3 ζ = some (psum (fun m => rr ζ r m * rf ζ lv c m) k, ζ) := by
  subst h1; subst h2; subst h3
  have key : ∀ (n : Nat) (acc y : Int) (j : Nat), y = j → j ≤ k → acc = psum (fun m => rr ζ r m * rf ζ lv c m) j → k - j < n → g_X12_times_6 r lv c n acc y ζ = some (psum (fun m => rr ζ r m * rf ζ lv c m) k, ζ) := by
    intro n
    induction n with
    | zero => intro _ _ _ _ _ _ h; omega
    | succ n ih =>
      intro acc y j hy hj ha hn
      subst hy
      apply ok_eq
      unfold g_X12_times_6
      refine ok_gI (by omega) (by omega) (by omega) (by omega) (fun h => ?_) (fun h => ?_)
      · refine ok_some ?_
        rw [ha, show j = k by omega]
      · refine ok_gk (by omega) (by omega) (ok_gk (by omega) (by omega) ?_)
        refine ok_of (ih _ _ (j + 1) (by omega) (by omega) ?_ (by omega))
        rw [ha]
        show _ = _ + _
        rw [show Int.toNat (4 * (r : Int) + j) = 4 * r + j by omega, show Int.toNat (4 * (72 * (lv : Int) + c) + j) = 4 * (72 * lv + c) + j by omega]; rfl
  exact key FU 0 0 0 rfl (by omega) rfl (by rw [FU_e]; omega)
theorem s_three (ζ : ZS) {r s t a b c : Nat} {z1 z2 z3 z4 z5 z6 : Int} (h1 : z1 = r) (h2 : z2 = s) (h3 : z3 = t) (h4 : z4 = a) (h5 : z5 = b) (h6 : z6 = c) (hr : r < 64) (hs : s < 64) (ht : t < 64) (ha : a < 4) (hb : b < 4) (hc : c < 4) : g_X12_three z1 z2 z3 z4 z5 z6 ζ = some (d3 (rr ζ r) (rr ζ s) (rr ζ t) a b c, ζ) := by
  subst h1; subst h2; subst h3; subst h4; subst h5; subst h6
  apply ok_eq
  unfold g_X12_three
  have e : ∀ x y : Nat, Int.toNat (4 * (x : Int) + (y : Int)) = 4 * x + y := fun x y => by omega
  simp only [e, g_X12_two]
  refine ok_gk (by omega) (by omega) (ok_gk (by omega) (by omega) (ok_gk (by omega) (by omega) (ok_gk (by omega) (by omega) (ok_gk (by omega) (by omega) ?_))))
  refine ok_beq rfl (ok_gk (by omega) (by omega) (ok_gk (by omega) (by omega) (ok_gk (by omega) (by omega) (ok_gk (by omega) (by omega) (ok_gk (by omega) (by omega) ?_)))))
  refine ok_beq rfl (ok_gk (by omega) (by omega) (ok_gk (by omega) (by omega) (ok_gk (by omega) (by omega) (ok_gk (by omega) (by omega) (ok_gk (by omega) (by omega) ?_)))))
  refine ok_beq rfl (ok_some ?_)
  rfl
theorem rr_J (ζ : ZS) (m b : Nat) (v : Int) : rr (zJ ζ 23 m v) b = rr ζ b := by
  funext x
  show (zJ ζ 23 m v).2.1 19 (4 * b + x) = _
  rw [zJ_2, if_neg (by omega)]; rfl
def Wf (x _k : Nat) : Prop := x = 23
theorem s_crosses (ζ : ZS) {r s t k : Nat} {z1 z2 z3 : Int} (h1 : z1 = r) (h2 : z2 = s) (h3 : z3 = t) (hr : r < 64) (hs : s < 64) (ht : t < 64) (hk1 : 1 ≤ k) (hk : k ≤ 4) (hm : ζ.1 0 20 = k) :
    Ok (g_X12_crosses z1 z2 z3 ζ) (fun ζ' => (∀ m, m < 4 → ζ'.2.1 23 m = CX k (rr ζ r) (rr ζ s) (rr ζ t) m) ∧ Fx Wf ζ ζ') := by
  subst h1; subst h2; subst h3
  have last : ∀ (n : Nat) (ζ1 : ZS), Fx Wf ζ ζ1 → (∀ m, m < 4 → ζ1.2.1 23 m = 0) → Ok (g_X12_crosses_3 r s t (n + 1) 4 ζ1) (fun ζ' => (∀ m, m < 4 → ζ'.2.1 23 m = CX k (rr ζ r) (rr ζ s) (rr ζ t) m) ∧ Fx Wf ζ ζ') := by
    intro n ζ1 hf hz
    have er : ∀ b, rr ζ1 b = rr ζ b := fun b => by funext x; exact (hf.1 _ _ (by unfold Wf; omega)).2
    have em : ζ1.1 0 20 = k := by rw [(hf.1 0 20 (by unfold Wf; omega)).1]; exact hm
    have t0 : Int.toNat 0 = 0 := rfl
    have t1 : Int.toNat 1 = 1 := rfl
    have t2 : Int.toNat 2 = 2 := rfl
    have t3 : Int.toNat 3 = 3 := rfl
    unfold g_X12_crosses_3
    simp only [t0, t1, t2, t3]
    refine ok_gI (by omega) (by omega) (by omega) (by omega) (fun _ => ?_) (fun h => absurd (by omega) h)
    refine ok_gI (by omega) (by omega) (by omega) (by omega) (fun h => ?_) (fun n1 => ?_)
    · refine ok_gk (by omega) (by omega) (ok_some ⟨fun m h4 => ?_, fx_J hf (by unfold Wf; rfl)⟩)
      rw [show k = 1 by omega, zJ_2]
      rcases (show m = 0 ∨ m = 1 ∨ m = 2 ∨ m = 3 by omega) with rfl | rfl | rfl | rfl
      · simp [CX, xp_0, d3, un]
      · rw [if_neg (by omega), hz 1 (by decide)]; simp [CX, xp_1, d3, un]
      · rw [if_neg (by omega), hz 2 (by decide)]; simp [CX, xp_2, d3, un]
      · rw [if_neg (by omega), hz 3 (by decide)]; simp [CX, xp_3, d3, un]
    refine ok_gI (by omega) (by omega) (by omega) (by omega) (fun h => ?_) (fun n2 => ?_)
    · refine ok_gk (by omega) (by omega) (ok_gk (by omega) (by omega) (ok_gk (by omega) (by omega) (ok_gk (by omega) (by omega) (ok_some ⟨fun m h4 => ?_, fx_J (fx_J hf (by unfold Wf; rfl)) (by unfold Wf; rfl)⟩))))
      have f1 : ζ1.2.1 19 (Int.toNat (4 * (r : Int) + 1)) = rr ζ r 1 := by rw [← er r]; show _ = ζ1.2.1 19 _; congr 1
      have f0 : ζ1.2.1 19 (Int.toNat (4 * (r : Int))) = rr ζ r 0 := by rw [← er r]; show _ = ζ1.2.1 19 _; congr 1
      rw [show k = 2 by omega]
      simp only [zJ_2]
      rcases (show m = 0 ∨ m = 1 ∨ m = 2 ∨ m = 3 by omega) with rfl | rfl | rfl | rfl
      · simp [CX, xp_0, d3, un, f1]
      · simp [CX, xp_1, d3, un, f0]
      · simp [CX, xp_2, d3, un, hz]
      · simp [CX, xp_3, d3, un, hz]
    refine ok_gI (by omega) (by omega) (by omega) (by omega) (fun h => ?_) (fun n3 => ?_)
    · have fx0 : ∀ b : Nat, ζ1.2.1 19 (Int.toNat (4 * (b : Int))) = rr ζ b 0 := fun b => by rw [← er b]; show _ = ζ1.2.1 19 _; congr 1
      have fx1 : ∀ b : Nat, ζ1.2.1 19 (Int.toNat (4 * (b : Int) + 1)) = rr ζ b 1 := fun b => by rw [← er b]; show _ = ζ1.2.1 19 _; congr 1
      have fx2 : ∀ b : Nat, ζ1.2.1 19 (Int.toNat (4 * (b : Int) + 2)) = rr ζ b 2 := fun b => by rw [← er b]; show _ = ζ1.2.1 19 _; congr 1
      simp only [g_X12_two]
      refine ok_gk (by omega) (by omega) (ok_gk (by omega) (by omega) (ok_gk (by omega) (by omega) (ok_gk (by omega) (by omega) (ok_beq rfl ?_))))
      refine ok_gk (by omega) (by omega) (ok_gk (by omega) (by omega) (ok_gk (by omega) (by omega) (ok_gk (by omega) (by omega) (ok_gk (by omega) (by omega) (ok_beq rfl ?_)))))
      refine ok_gk (by omega) (by omega) (ok_gk (by omega) (by omega) (ok_gk (by omega) (by omega) (ok_gk (by omega) (by omega) (ok_gk (by omega) (by omega) (ok_beq rfl ?_)))))
      refine ok_gk (by omega) (by omega) (ok_some ⟨fun m h4 => ?_, fx_J (fx_J (fx_J hf (by unfold Wf; rfl)) (by unfold Wf; rfl)) (by unfold Wf; rfl)⟩)
      rw [show k = 3 by omega]
      simp only [zJ_2]
      rcases (show m = 0 ∨ m = 1 ∨ m = 2 ∨ m = 3 by omega) with rfl | rfl | rfl | rfl
      · simp [CX, xp_0, d3, un, fx1, fx2]
      · simp [CX, xp_1, d3, un, fx0, fx2]
      · simp [CX, xp_2, d3, un, fx0, fx1]
      · simp [CX, xp_3, d3, un, hz]
    · refine ok_beq (s_three ζ1 (a := 1) (b := 2) (c := 3) rfl rfl rfl rfl rfl rfl hr hs ht (by decide) (by decide) (by decide)) (ok_gk (by omega) (by omega) ?_)
      refine ok_beq (s_three _ (a := 0) (b := 2) (c := 3) rfl rfl rfl rfl rfl rfl hr hs ht (by decide) (by decide) (by decide)) (ok_gk (by omega) (by omega) ?_)
      refine ok_beq (s_three _ (a := 0) (b := 1) (c := 3) rfl rfl rfl rfl rfl rfl hr hs ht (by decide) (by decide) (by decide)) (ok_gk (by omega) (by omega) ?_)
      refine ok_beq (s_three _ (a := 0) (b := 1) (c := 2) rfl rfl rfl rfl rfl rfl hr hs ht (by decide) (by decide) (by decide)) (ok_gk (by omega) (by omega) ?_)
      refine ok_some ⟨fun m h4 => ?_, fx_J (fx_J (fx_J (fx_J hf (by unfold Wf; rfl)) (by unfold Wf; rfl)) (by unfold Wf; rfl)) (by unfold Wf; rfl)⟩
      rw [show k = 4 by omega]
      simp only [zJ_2, rr_J, er]
      rcases (show m = 0 ∨ m = 1 ∨ m = 2 ∨ m = 3 by omega) with rfl | rfl | rfl | rfl
      · simp [CX, xp_0]
      · simp [CX, xp_1]
      · simp [CX, xp_2]
      · simp [CX, xp_3]
  have key : ∀ (n : Nat) (y : Int) (j : Nat) (ζ1 : ZS), y = j → j ≤ 4 → 4 - j < n → Fx Wf ζ ζ1 → (∀ m, m < j → ζ1.2.1 23 m = 0) → Ok (g_X12_crosses_3 r s t n y ζ1) (fun ζ' => (∀ m, m < 4 → ζ'.2.1 23 m = CX k (rr ζ r) (rr ζ s) (rr ζ t) m) ∧ Fx Wf ζ ζ') := by
    intro n
    induction n with
    | zero => intro _ _ _ _ _ h; omega
    | succ n ih =>
      intro y j ζ1 hy hj hn hf hz
      by_cases c4 : j = 4
      · subst hy; subst c4
        exact last n ζ1 hf hz
      · subst hy
        unfold g_X12_crosses_3
        refine ok_gI (by omega) (by omega) (by omega) (by omega) (fun h => by omega) (fun _ => ok_gk (by omega) (by omega) ?_)
        refine ih _ (j + 1) _ (by omega) (by omega) (by omega) (fx_J hf (by unfold Wf; rfl)) (fun m hm => ?_)
        rw [zJ_2]
        by_cases e : m = j
        · rw [if_pos ⟨rfl, by omega⟩]
        · rw [if_neg (by omega)]; exact hz m (by omega)
  exact key FU 0 0 ζ rfl (by omega) (by rw [FU_e]; omega) (fx_refl _ _) (fun m hm => by omega)
