/-! the reference: a corner kept -/
def sm4 (u : V4) : Int := u 0 + u 1 + u 2 + u 3
def wv (u : V4) : V4 := fun m => if sm4 u < 0 then Int.tdiv (-(u m)) (gl u 4) else Int.tdiv (u m) (gl u 4)
def Wk (lv N : Nat) (x k : Nat) : Prop := (x = 20 ∧ k = lv) ∨ (x = 22 ∧ 4 * (72 * lv + N) ≤ k ∧ k < 4 * (72 * lv + N) + 4)
theorem wv_lt {u : V4} {m : Nat} (hg : 0 < gl u 4) (hb : (u m).natAbs ≤ 6000000) : (wv u m).natAbs ≤ 6000000 := by
  unfold wv
  have a := tdiv_le (a := u m) (b := (gl u 4 : Int)) (by omega) (-6000000) 6000000 (by omega) (by omega) (by omega) (by omega)
  have b := tdiv_le (a := -(u m)) (b := (gl u 4 : Int)) (by omega) (-6000000) 6000000 (by omega) (by omega) (by omega) (by omega)
  split <;> omega
def fnd (ζ : ZS) : V4 := fun m => ζ.2.1 23 m
def KPost (ζ : ZS) (lv N R k : Nat) (ζ' : ZS) : Prop := Fx (Wk lv N) ζ ζ' ∧
  ((ζ'.1 20 lv = ((N + 1 : Nat) : Int) ∧ nv (fnd ζ) ∧ (∀ m, m < 4 → rf ζ' lv N m = wv (fnd ζ) m) ∧ (∀ b, b < R → 0 ≤ psum (fun m => rr ζ b m * wv (fnd ζ) m) k) ∧ ∀ i, i < N → ∃ m, m < k ∧ rf ζ lv i m ≠ wv (fnd ζ) m) ∨
   (ζ'.1 20 lv = N ∧ (¬ nv (fnd ζ) ∨ (∃ b, b < R ∧ psum (fun m => rr ζ b m * wv (fnd ζ) m) k < 0) ∨ ∃ i, i < N ∧ ∀ m, m < k → rf ζ lv i m = wv (fnd ζ) m)))
theorem psum_congr {h g : Nat → Int} {k : Nat} (e : ∀ m, m < k → h m = g m) : psum h k = psum g k := by
  induction k with
  | zero => rfl
  | succ k ih =>
    show psum h k + h k = psum g k + g k
    rw [ih (fun m hm => e m (by omega)), e k (by omega)]
set_option maxHeartbeats 1000000 in
theorem s_keepsFound (ζ : ZS) {lv N R k : Nat} {z : Int} (hz : z = lv) (hl : lv < 12) (hN : ζ.1 20 lv = N) (hN2 : N < 72) (hR : ζ.1 0 26 = R) (hR2 : R ≤ 64) (hk1 : 1 ≤ k) (hk : k ≤ 4) (hm : ζ.1 0 20 = k) (hb : ∀ m, m < 4 → (fnd ζ m).natAbs ≤ 6000000) (hrow : ∀ b, b < R → ∀ m, m < 4 → (rr ζ b m).natAbs ≤ 100) (hold : ∀ i, i < N → ∀ m, m < 4 → (rf ζ lv i m).natAbs ≤ 6000000) :
    Ok (g_X12_keepsFound z ζ) (KPost ζ lv N R k) := by
  subst hz
  obtain ⟨u, hu⟩ : ∃ u, u = fnd ζ := ⟨_, rfl⟩
  have hum : ∀ m, ζ.2.1 23 m = u m := fun m => by rw [hu]; rfl
  have hbu : ∀ m, m < 4 → (u m).natAbs ≤ 6000000 := fun m h => by rw [hu]; exact hb m h
  have hgl : ∀ n, n ≤ 4 → gl u n < 6000001 := gl_lt (by decide) (fun m h => by have := hbu m h; omega)
  have ub : ∀ m, m < 4 → -6000000 ≤ u m ∧ u m ≤ 6000000 := fun m h => by have := hbu m h; omega
  have i0 : ∀ {ζ1 : ZS}, Fx (Wk lv N) ζ ζ1 → (∀ b, rr ζ1 b = rr ζ b) ∧ ζ1.1 0 26 = R ∧ ζ1.1 0 20 = k ∧ (∀ i, i < N → ∀ m, m < 4 → rf ζ1 lv i m = rf ζ lv i m) := by
    intro ζ1 hf
    refine ⟨fun b => ?_, ?_, ?_, fun i hi m h4 => (hf.1 _ _ (by unfold Wk; omega)).2⟩
    · funext x; exact (hf.1 _ _ (by unfold Wk; omega)).2
    · rw [(hf.1 0 26 (by unfold Wk; omega)).1]; exact hR
    · rw [(hf.1 0 20 (by unfold Wk; omega)).1]; exact hm
  -- the other corners
  have same : ∀ (i : Nat) (r160 : Int → ZS → Option ZS) (ζ1 : ZS), i < N → Fx (Wk lv N) ζ ζ1 → ζ1.1 20 lv = N → (∀ m, m < 4 → rf ζ1 lv N m = wv u m) → nv u → ((∃ m, m < k ∧ rf ζ lv i m ≠ wv u m) → Ok (r160 ((i : Int) + 1) ζ1) (KPost ζ lv N R k)) →
      ∀ (n : Nat) (s y : Int) (j : Nat), y = j → j ≤ k → k - j < n → ((s = 1 ∧ ∀ m, m < j → rf ζ lv i m = wv u m) ∨ (s = 0 ∧ ∃ m, m < k ∧ rf ζ lv i m ≠ wv u m)) → Ok (g_X12_keepsFound_173 (lv : Int) (N : Int) (4 * (72 * (lv : Int) + N)) (i : Int) r160 n s y ζ1) (KPost ζ lv N R k) := by
    intro i r160 ζ1 hi hf hc hw hnu hnext n
    obtain ⟨e1, e2, e3, e4⟩ := i0 hf
    have hg := gl_pos hnu
    induction n with
    | zero => intro _ _ _ _ _ h; omega
    | succ n ih =>
      intro s y j hy hj hn hs
      subst hy
      unfold g_X12_keepsFound_173 g_X12_keepsFound_222 g_X12_keepsFound_223
      rw [e3]
      refine ok_gI (by omega) (by omega) (by omega) (by omega) (fun h => ?_) (fun h => ?_)
      · have ej : j = k := by omega
        subst ej
        refine ok_gI (by omega) (by omega) (by omega) (by omega) (fun h0 => ?_) (fun h0 => ?_)
        · exact hnext (by rcases hs with ⟨q, _⟩ | ⟨_, q⟩; omega; exact q)
        · refine ok_some ⟨hf, Or.inr ⟨hc, Or.inr (Or.inr ⟨i, hi, ?_⟩)⟩⟩
          rw [← hu]
          rcases hs with ⟨_, q⟩ | ⟨q, _⟩
          · exact q
          · omega
      · refine ok_gI (by omega) (by omega) (by omega) (by omega) (fun h0 => ?_) (fun h0 => ?_)
        · refine ih _ _ (j + 1) (by omega) (by omega) (by omega) (Or.inr ⟨rfl, ?_⟩)
          rcases hs with ⟨q, _⟩ | ⟨_, q⟩
          · omega
          · exact q
        · have hs1 : ∀ m, m < j → rf ζ lv i m = wv u m := by
            rcases hs with ⟨_, q⟩ | ⟨q, _⟩
            · exact q
            · omega
          have f1 : ζ1.2.1 22 (Int.toNat (4 * (72 * (lv : Int) + (i : Int)) + (j : Int))) = rf ζ lv i j := by
            rw [← e4 i hi j (by omega)]; show _ = ζ1.2.1 22 _; congr 1
          have f2 : ζ1.2.1 22 (Int.toNat (4 * (72 * (lv : Int) + (N : Int)) + (j : Int))) = wv u j := by
            rw [← hw j (by omega)]; show _ = ζ1.2.1 22 _; congr 1
          rw [f1, f2]
          have l1 := hold i hi j (by omega)
          have l2 := wv_lt hg (hbu j (by omega))
          refine ok_gk (by omega) (by omega) (ok_gk (by omega) (by omega) (ok_gJ (by omega) (by omega) (by omega) (by omega) (fun q => ?_) (fun q => ?_)))
          · refine ih _ _ (j + 1) (by omega) (by omega) (by omega) (Or.inl ⟨rfl, fun m h5 => ?_⟩)
            by_cases e : m = j
            · rw [e]; exact q
            · exact hs1 m (by omega)
          · exact ih _ _ (j + 1) (by omega) (by omega) (by omega) (Or.inr ⟨rfl, j, by omega, q⟩)
  have others : ∀ (n : Nat) (y : Int) (i : Nat) (ζ1 : ZS), y = i → i ≤ N → N - i < n → Fx (Wk lv N) ζ ζ1 → ζ1.1 20 lv = N → (∀ m, m < 4 → rf ζ1 lv N m = wv u m) → nv u → (∀ b, b < R → 0 ≤ psum (fun m => rr ζ b m * wv u m) k) → (∀ l, l < i → ∃ m, m < k ∧ rf ζ lv l m ≠ wv u m) → Ok (g_X12_keepsFound_160 (lv : Int) (N : Int) (4 * (72 * (lv : Int) + N)) n y ζ1) (KPost ζ lv N R k) := by
    intro n
    induction n with
    | zero => intro _ _ _ _ _ h; omega
    | succ n ih =>
      intro y i ζ1 hy hi hn hf hc hw hnu hp hne
      subst hy
      unfold g_X12_keepsFound_160
      refine ok_gI (by omega) (by omega) (by omega) (by omega) (fun h => ?_) (fun h => ?_)
      · refine ok_gk (by omega) (by omega) (ok_gk (by omega) (by omega) (ok_some ?_))
        rw [show Int.toNat (lv : Int) = lv by omega, hc]
        refine ⟨fx_I hf (by unfold Wk; omega), Or.inl ⟨?_, by rw [← hu]; exact hnu, fun m h4 => by rw [← hu]; exact hw m h4, by rw [← hu]; exact hp, fun l hl => by rw [← hu]; exact hne l (by omega)⟩⟩
        rw [zI_1, if_pos ⟨rfl, rfl⟩]; omega
      · refine same i _ ζ1 (by omega) hf hc hw hnu (fun q => ?_) FU 1 0 0 rfl (by omega) (by rw [FU_e]; omega) (Or.inl ⟨rfl, fun m h0 => by omega⟩)
        refine ih _ (i + 1) ζ1 (by omega) (by omega) (by omega) hf hc hw hnu hp (fun l hl => ?_)
        by_cases e : l = i
        · rw [e]; exact q
        · exact hne l (by omega)
  -- the rows
  have rows : ∀ (n : Nat) (y : Int) (b : Nat) (ζ1 : ZS), y = b → b ≤ R → R - b < n → Fx (Wk lv N) ζ ζ1 → ζ1.1 20 lv = N → (∀ m, m < 4 → rf ζ1 lv N m = wv u m) → nv u → (∀ x, x < b → 0 ≤ psum (fun m => rr ζ x m * wv u m) k) → Ok (g_X12_keepsFound_127 (lv : Int) (N : Int) (4 * (72 * (lv : Int) + N)) n y ζ1) (KPost ζ lv N R k) := by
    intro n
    induction n with
    | zero => intro _ _ _ _ _ h; omega
    | succ n ih =>
      intro y b ζ1 hy hb' hn hf hc hw hnu hp
      subst hy
      obtain ⟨e1, e2, e3, e4⟩ := i0 hf
      have hg := gl_pos hnu
      unfold g_X12_keepsFound_127
      rw [e2]
      refine ok_gI (by omega) (by omega) (by omega) (by omega) (fun h => ?_) (fun h => ?_)
      · exact others FU 0 0 ζ1 rfl (by omega) (by rw [FU_e]; omega) hf hc hw hnu (fun x hx => hp x (by omega)) (fun l hl => by omega)
      · have ep : psum (fun m => rr ζ1 b m * rf ζ1 lv N m) k = psum (fun m => rr ζ b m * wv u m) k := psum_congr (fun m h5 => by rw [e1, hw m (by omega)])
        have bd4 : -2400000000 ≤ psum (fun m => rr ζ b m * wv u m) k ∧ psum (fun m => rr ζ b m * wv u m) k ≤ 2400000000 := by
          have kk : ∀ m, m < 4 → -600000000 ≤ rr ζ b m * wv u m ∧ rr ζ b m * wv u m ≤ 600000000 := fun m h4 => by
            have l2 := wv_lt hg (hbu m h4)
            have l3 := hrow b (by omega) m h4
            exact mb (A := 100) (B := 6000000) (by omega) (by omega) (by omega) (by omega)
          have k0 := kk 0 (by decide)
          have k1 := kk 1 (by decide)
          have k2 := kk 2 (by decide)
          have k3 := kk 3 (by decide)
          rcases (show k = 1 ∨ k = 2 ∨ k = 3 ∨ k = 4 by omega) with e | e | e | e <;> rw [e] <;> simp only [psum] <;> omega
        refine ok_beq (s_times ζ1 rfl rfl rfl (by omega) hl (by omega) hk e3) ?_
        rw [ep]
        refine ok_gJ (by omega) (by omega) ?_ ?_ (fun q => ?_) (fun q => ?_)
        · dsimp only; omega
        · dsimp only; omega
        · refine ih _ (b + 1) ζ1 (by omega) (by omega) (by omega) hf hc hw hnu (fun x hx => ?_)
          by_cases e : x = b
          · rw [e]; exact q
          · exact hp x (by omega)
        · refine ok_some ⟨hf, Or.inr ⟨hc, Or.inr (Or.inl ⟨b, by omega, ?_⟩)⟩⟩
          rw [← hu]
          have q : ¬ 0 ≤ psum (fun m => rr ζ b m * wv u m) k := q
          omega
  -- the weights
  have write : ∀ (n : Nat) (y : Int) (j : Nat) (ζ1 : ZS), y = j → j ≤ 4 → 4 - j < n → Fx (Wk lv N) ζ ζ1 → ζ1.1 20 lv = N → (∀ m, m < 4 → ζ1.2.1 23 m = u m) → nv u → (∀ m, m < j → rf ζ1 lv N m = wv u m) → Ok (g_X12_keepsFound_73 (lv : Int) (gl u 4 : Int) (sm4 u) (N : Int) (4 * (72 * (lv : Int) + N)) n y ζ1) (KPost ζ lv N R k) := by
    intro n
    induction n with
    | zero => intro _ _ _ _ _ h; omega
    | succ n ih =>
      intro y j ζ1 hy hj hn hf hc hu1 hnu hw
      subst hy
      have hg := gl_pos hnu
      have hgl4 := hgl 4 (by omega)
      have sb : -24000000 ≤ sm4 u ∧ sm4 u ≤ 24000000 := by
        have u0 := ub 0 (by decide)
        have u1 := ub 1 (by decide)
        have u2 := ub 2 (by decide)
        have u3 := ub 3 (by decide)
        unfold sm4; omega
      unfold g_X12_keepsFound_73
      refine ok_gI (by omega) (by omega) (by omega) (by omega) (fun h => ?_) (fun h => ?_)
      · exact rows FU 0 0 ζ1 rfl (by omega) (by rw [FU_e]; omega) hf hc (fun m h4 => hw m (by omega)) hnu (fun x hx => by omega)
      · have uj := ub j (by omega)
        rw [show Int.toNat (j : Int) = j by omega, hu1 j (by omega)]
        have put : ∀ v : Int, v = wv u j → Ok (g_X12_keepsFound_117 (g_X12_keepsFound_73 (lv : Int) (gl u 4 : Int) (sm4 u) (N : Int) (4 * (72 * (lv : Int) + N)) n) (lv : Int) (gl u 4 : Int) (sm4 u) (N : Int) (4 * (72 * (lv : Int) + N)) (j : Int) v (4 * (72 * (lv : Int) + N) + (j : Int)) 22 ζ1) (KPost ζ lv N R k) := by
          intro v hv
          unfold g_X12_keepsFound_117
          rw [show Int.toNat (4 * (72 * (lv : Int) + N) + (j : Int)) = 4 * (72 * lv + N) + j by omega, ln_22]
          refine ok_gk (by omega) (by omega) (ih _ (j + 1) _ (by omega) (by omega) (by omega) (fx_J hf (by unfold Wk; omega)) hc (fun m h4 => by rw [zJ_2, if_neg (by omega)]; exact hu1 m h4) hnu (fun m h5 => ?_))
          show (zJ ζ1 _ _ _).2.1 22 (4 * (72 * lv + N) + m) = _
          rw [zJ_2]
          by_cases e : m = j
          · rw [if_pos ⟨rfl, by omega⟩, hv, e]
          · rw [if_neg (by omega)]; exact hw m (by omega)
        refine ok_gJ (by omega) (by omega) (by omega) (by omega) (fun q => ?_) (fun q => ?_)
        · exact ok_gk (by omega) (by omega) (ok_gdJ (by omega) (by omega) (by omega) (by omega) (put _ (by unfold wv; rw [if_neg (by omega)])))
        · exact ok_gk (by omega) (by omega) (ok_gdJ (by omega) (by omega) (by omega) (by omega) (put _ (by unfold wv; rw [if_pos (by omega)])))
  -- the common divisor
  have ps : ∀ j, j ≤ 4 → -24000000 ≤ psum (fun m => u m) j ∧ psum (fun m => u m) j ≤ 24000000 := by
    intro j hj
    have u0 := ub 0 (by decide)
    have u1 := ub 1 (by decide)
    have u2 := ub 2 (by decide)
    have u3 := ub 3 (by decide)
    rcases (show j = 0 ∨ j = 1 ∨ j = 2 ∨ j = 3 ∨ j = 4 by omega) with e | e | e | e | e <;> rw [e] <;> simp only [psum] <;> omega
  have div : ∀ (n : Nat) (g s y : Int) (j : Nat), y = j → j ≤ 4 → 4 - j < n → g = (gl u j : Int) → s = psum (fun m => u m) j → Ok (g_X12_keepsFound_8 (lv : Int) n g s y ζ) (KPost ζ lv N R k) := by
    intro n
    induction n with
    | zero => intro _ _ _ _ _ _ h; omega
    | succ n ih =>
      intro g s y j hy hj hn hg hs
      subst hy; subst hg; subst hs
      have b1 := hgl j (by omega)
      unfold g_X12_keepsFound_8
      refine ok_gI (by omega) (by omega) (by omega) (by omega) (fun h => ?_) (fun h => ?_)
      · have ej : j = 4 := by omega
        subst ej
        have es : psum (fun m => u m) 4 = sm4 u := by simp only [psum, sm4]; omega
        rw [es]
        refine ok_gJ (by omega) (by omega) (by omega) (by omega) (fun h0 => ?_) (fun h0 => ?_)
        · refine ok_some ⟨fx_refl _ _, Or.inr ⟨hN, Or.inl (fun q => ?_)⟩⟩
          rw [← hu] at q
          have := gl_pos q
          omega
        · rw [show Int.toNat (lv : Int) = lv by omega, hN]
          refine ok_gk (by omega) (by omega) (write FU 0 0 ζ rfl (by omega) (by rw [FU_e]; omega) (fx_refl _ _) hN (fun m _ => hum m) ?_ (fun m h5 => by omega))
          apply Classical.byContradiction
          intro q
          have z : ∀ m, m < 4 → u m = 0 := fun m h4 => Classical.byContradiction fun hne => q ⟨m, h4, hne⟩
          have : gl u 4 = 0 := by
            show Nat.gcd (u 3).natAbs (Nat.gcd (u 2).natAbs (Nat.gcd (u 1).natAbs (Nat.gcd (u 0).natAbs 0))) = 0
            rw [z 0 (by decide), z 1 (by decide), z 2 (by decide), z 3 (by decide)]; rfl
          omega
      · rw [show Int.toNat (j : Int) = j by omega, hum]
        have uj := ub j (by omega)
        refine ok_gk (by omega) (by omega) (ok_beq (s_rcd ζ (by omega) (by omega)) (ok_gk (by omega) (by omega) ?_))
        refine ih _ _ _ (j + 1) (by omega) (by omega) (by omega) ?_ ?_
        · rw [Int.natAbs_natCast, Nat.gcd_comm]; rfl
        · rw [hum]; rfl
  exact div FU 0 0 0 0 rfl (by omega) (by rw [FU_e]; omega) rfl rfl
