/-! the reference: rows of the sayings -/
def v4 (a b c d : Int) : V4 := fun m => if m = 0 then a else if m = 1 then b else if m = 2 then c else d
def pairv (a : Nat) (n : Int) (b : Nat) (m : Int) : V4 := fun i => (if i = a then n else 0) - (if i = b then m else 0)
def sharev (A : Nat → Nat → Int) (a : Nat) (n σ : Int) : V4 := fun i => σ * ((if i = a then 100 else 0) - (if (i : Int) < A 0 20 then n else 0))
def leadv (A : Nat → Nat → Int) (a b : Nat) : V4 := fun m => val A a m - val A b m
/-- the row of a saying -/
def sr (A : Nat → Nat → Int) (s : Nat) : V4 :=
  if A 11 s = 3 then pairv (A 14 s).toNat 1 (A 15 s).toNat 1
  else if A 11 s = 4 then pairv (A 14 s).toNat 1 (A 15 s).toNat 2
  else if A 11 s = 5 then pairv (A 14 s).toNat (A 12 s) (A 15 s).toNat (A 13 s)
  else if A 11 s = 6 then sharev A (A 14 s).toNat (A 12 s) 1
  else if A 11 s = 7 then sharev A (A 14 s).toNat (A 12 s) (-1)
  else if told A (A 14 s).toNat && told A (A 15 s).toNat then leadv A (A 14 s).toNat (A 15 s).toNat
  else fun _ => 0
def Ws (A : Nat → Nat → Int) : Prop := (0 ≤ A 9 0 ∧ A 9 0 ≤ 12) ∧ ∀ s : Nat, (s : Int) < A 9 0 → (0 ≤ A 10 s ∧ A 10 s ≤ 7) ∧ (3 ≤ A 11 s ∧ A 11 s ≤ 8) ∧ (0 ≤ A 14 s ∧ A 14 s ≤ 7) ∧ (A 11 s = 6 ∨ A 11 s = 7 → 0 ≤ A 12 s ∧ A 12 s ≤ 100) ∧ (A 11 s = 5 → 1 ≤ A 12 s ∧ A 12 s ≤ 100 ∧ 1 ≤ A 13 s ∧ A 13 s ≤ 100) ∧ (A 11 s ≠ 6 ∧ A 11 s ≠ 7 → 0 ≤ A 15 s ∧ A 15 s ≤ 7 ∧ A 14 s ≠ A 15 s) ∧ (A 11 s ≠ 8 → A 14 s < A 0 20 ∧ (A 11 s ≠ 6 ∧ A 11 s ≠ 7 → A 15 s < A 0 20))
theorem sr_bd {A : Nat → Nat → Int} (hw : Wa A) (hs : Ws A) {s : Nat} (h : (s : Int) < A 9 0) : bd (sr A s) := by
  have q := hs.2 s h
  intro i hi
  unfold sr
  split
  · unfold pairv; split <;> split <;> omega
  · split
    · unfold pairv; split <;> split <;> omega
    · split
      · unfold pairv; split <;> split <;> omega
      · split
        · unfold sharev; split <;> split <;> omega
        · split
          · unfold sharev; split <;> split <;> omega
          · split
            · have a := val_bd hw (t := (A 14 s).toNat) (m := i) (by omega) hi
              have b := val_bd hw (t := (A 15 s).toNat) (m := i) (by omega) hi
              unfold leadv; omega
            · show (-100 : Int) ≤ 0 ∧ (0 : Int) ≤ 100; decide
/-- the weights that fit a set of sayings -/
def Sc (A : Nat → Nat → Int) (P : Nat → Bool) (w : V4) : Prop := (∀ i, i < 4 → 0 ≤ w i) ∧ (∀ i : Nat, i < 4 → A 0 20 ≤ (i : Int) → w i = 0) ∧ ∀ s : Nat, (s : Int) < A 9 0 → P s = true → 0 ≤ dt (sr A s) w
def Wr (x y : Nat) : Prop := x = 19 ∨ (x = 0 ∧ y = 26)
theorem s_addsRow (ζ : ZS) {k R : Nat} {ρ : Nat → V4} {a b c d : Int} (hw : Rw ζ k R ρ) (hR : R < 64) : Ok (g_X12_addsRow a b c d ζ) (fun ζ' => Rw ζ' k (R + 1) (rx R ρ (v4 a b c d)) ∧ Fx Wr ζ ζ') := by
  unfold g_X12_addsRow
  simp only [zJ_1, hw.2.1]
  refine ok_gk (by omega) (by omega) (ok_gk (by omega) (by omega) (ok_gk (by omega) (by omega) (ok_gk (by omega) (by omega) (ok_some ?_))))
  have e0 : Int.toNat (4 * (R : Int)) = 4 * R := by omega
  have e1 : Int.toNat (4 * (R : Int) + 1) = 4 * R + 1 := by omega
  have e2 : Int.toNat (4 * (R : Int) + 2) = 4 * R + 2 := by omega
  have e3 : Int.toNat (4 * (R : Int) + 3) = 4 * R + 3 := by omega
  rw [e0, e1, e2, e3]
  refine ⟨⟨?_, ?_, fun x hx m hm => ?_⟩, fx_I (fx_J (fx_J (fx_J (fx_J (fx_refl _ _) (by unfold Wr; omega)) (by unfold Wr; omega)) (by unfold Wr; omega)) (by unfold Wr; omega)) (by unfold Wr; omega)⟩
  · rw [zI_1, if_neg (by omega)]; exact hw.1
  · rw [zI_1, if_pos ⟨rfl, rfl⟩]; omega
  · show (zI _ _ _ _).2.1 19 (4 * x + m) = _
    simp only [zI_2, zJ_2]
    unfold rx
    by_cases e : x = R
    · rw [if_pos e]
      subst e
      rcases (show m = 0 ∨ m = 1 ∨ m = 2 ∨ m = 3 by omega) with rfl | rfl | rfl | rfl
      · rw [if_neg (by omega), if_neg (by omega), if_neg (by omega), if_pos ⟨trivial, rfl⟩]; rfl
      · rw [if_neg (by omega), if_neg (by omega), if_pos ⟨trivial, rfl⟩]; rfl
      · rw [if_neg (by omega), if_pos ⟨trivial, rfl⟩]; rfl
      · rw [if_pos ⟨trivial, rfl⟩]; rfl
    · rw [if_neg e, if_neg (by omega), if_neg (by omega), if_neg (by omega), if_neg (by omega)]
      exact hw.2.2 x (by omega) m hm
theorem s_one (ζ : ZS) {a b : Int} {n : Int} (ha : r32 a) (hb : r32 b) : g_X12_one a b n ζ = some (if a = b then n else 0, ζ) := by
  apply ok_eq
  unfold g_X12_one g_X12_one_10
  refine ok_gI ha.1 ha.2 hb.1 hb.2 (fun h => ok_some (by rw [if_pos h])) (fun h => ok_some (by rw [if_neg h]))
theorem rw_e4 {ζ : ZS} {k R : Nat} {ρ : Nat → V4} {r r' : V4} (h : Rw ζ k (R + 1) (rx R ρ r)) (e : e4 r r') : Rw ζ k (R + 1) (rx R ρ r') :=
  ⟨h.1, h.2.1, fun b hb m hm => by
    rw [h.2.2 b hb m hm]
    unfold rx
    by_cases q : b = R
    · rw [if_pos q, if_pos q]; exact e m hm
    · rw [if_neg q, if_neg q]⟩
theorem four {P : Nat → Prop} (h0 : P 0) (h1 : P 1) (h2 : P 2) (h3 : P 3) : ∀ m, m < 4 → P m := by
  intro m hm
  rcases (show m = 0 ∨ m = 1 ∨ m = 2 ∨ m = 3 by omega) with rfl | rfl | rfl | rfl <;> assumption
theorem ife {a c : Nat} {x n : Int} (hx : x = (c : Int)) : (if (a : Int) = x then n else 0) = if c = a then n else 0 := by
  by_cases h : c = a
  · rw [if_pos h, if_pos (by omega)]
  · rw [if_neg h, if_neg (by omega)]
theorem ifl {k c : Nat} {n : Int} : (if c < k then n else 0) = if (c : Int) < k then n else 0 := by
  by_cases h : c < k
  · rw [if_pos h, if_pos (by omega)]
  · rw [if_neg h, if_neg (by omega)]
theorem s_addsPair (ζ : ZS) {k R a b : Nat} {ρ : Nat → V4} {z y n m : Int} (hz : z = a) (hy : y = b) (ha : a < 8) (hb : b < 8) (hw : Rw ζ k R ρ) (hR : R < 64) : Ok (g_X12_addsPair z n y m ζ) (fun ζ' => Rw ζ' k (R + 1) (rx R ρ (pairv a n b m)) ∧ Fx Wr ζ ζ') := by
  subst hz; subst hy
  unfold g_X12_addsPair
  refine ok_beq (s_one ζ (by omega) (by omega)) (ok_beq (s_one ζ (by omega) (by omega)) (ok_beq (s_one ζ (by omega) (by omega)) (ok_beq (s_one ζ (by omega) (by omega)) (ok_beq (s_one ζ (by omega) (by omega)) (ok_beq (s_one ζ (by omega) (by omega)) (ok_beq (s_one ζ (by omega) (by omega)) (ok_beq (s_one ζ (by omega) (by omega)) ?_)))))))
  refine ok_bind (s_addsRow ζ hw hR) (fun ζ' h => ok_some ⟨rw_e4 h.1 ?_, h.2⟩)
  refine four ?_ ?_ ?_ ?_
  · show (if (a : Int) = 0 then n else 0) - (if (b : Int) = 0 then m else 0) = (if 0 = a then n else 0) - (if 0 = b then m else 0)
    rw [ife (c := 0) (x := 0) rfl, ife (c := 0) (x := 0) rfl]
  · show (if (a : Int) = 1 then n else 0) - (if (b : Int) = 1 then m else 0) = (if 1 = a then n else 0) - (if 1 = b then m else 0)
    rw [ife (c := 1) (x := 1) rfl, ife (c := 1) (x := 1) rfl]
  · show (if (a : Int) = 2 then n else 0) - (if (b : Int) = 2 then m else 0) = (if 2 = a then n else 0) - (if 2 = b then m else 0)
    rw [ife (c := 2) (x := 2) rfl, ife (c := 2) (x := 2) rfl]
  · show (if (a : Int) = 3 then n else 0) - (if (b : Int) = 3 then m else 0) = (if 3 = a then n else 0) - (if 3 = b then m else 0)
    rw [ife (c := 3) (x := 3) rfl, ife (c := 3) (x := 3) rfl]
theorem s_shareOf (ζ : ZS) {k m : Nat} {n y : Int} (hy : y = m) (hm : m < 4) (hk : ζ.1 0 20 = k) (hk4 : k ≤ 4) (hn : r32 n) : g_X12_shareOf y n ζ = some (if m < k then n else 0, ζ) := by
  subst hy
  apply ok_eq
  unfold g_X12_shareOf g_X12_shareOf_14
  rw [hk]
  refine ok_gI (by omega) (by omega) (by omega) (by omega) (fun h => ok_some (by rw [if_neg (by omega)])) (fun h => ok_gw hn.1 hn.2 (ok_some (by rw [if_pos (by omega)])))
theorem s_addsShare (ζ : ZS) {A : Nat → Nat → Int} {k R a : Nat} {ρ : Nat → V4} {z n σ : Int} (hz : z = a) (ha : a < 8) (hn : r32 n) (hA : A 0 20 = k) (hk1 : 1 ≤ k) (hk4 : k ≤ 4) (hw : Rw ζ k R ρ) (hR : R < 64) : Ok (g_X12_addsShare z n σ ζ) (fun ζ' => Rw ζ' k (R + 1) (rx R ρ (sharev A a n σ)) ∧ Fx Wr ζ ζ') := by
  subst hz
  unfold g_X12_addsShare
  refine ok_beq (s_one ζ (by omega) (by omega)) (ok_gw hn.1 hn.2 (ok_beq (s_one ζ (by omega) (by omega)) (ok_beq (s_shareOf ζ (m := 1) rfl (by omega) hw.1 hk4 hn) (ok_beq (s_one ζ (by omega) (by omega)) (ok_beq (s_shareOf ζ (m := 2) rfl (by omega) hw.1 hk4 hn) (ok_beq (s_one ζ (by omega) (by omega)) (ok_beq (s_shareOf ζ (m := 3) rfl (by omega) hw.1 hk4 hn) ?_)))))))
  refine ok_bind (s_addsRow ζ hw hR) (fun ζ' h => ok_some ⟨rw_e4 h.1 ?_, h.2⟩)
  refine four ?_ ?_ ?_ ?_
  · show σ * ((if (a : Int) = 0 then 100 else 0) - n) = σ * ((if 0 = a then 100 else 0) - (if ((0 : Nat) : Int) < A 0 20 then n else 0))
    rw [ife (c := 0) (x := 0) rfl, hA, if_pos (show ((0 : Nat) : Int) < k by omega)]
  · show σ * ((if (a : Int) = 1 then 100 else 0) - (if 1 < k then n else 0)) = σ * ((if 1 = a then 100 else 0) - (if ((1 : Nat) : Int) < A 0 20 then n else 0))
    rw [ife (c := 1) (x := 1) rfl, hA, ifl]
  · show σ * ((if (a : Int) = 2 then 100 else 0) - (if 2 < k then n else 0)) = σ * ((if 2 = a then 100 else 0) - (if ((2 : Nat) : Int) < A 0 20 then n else 0))
    rw [ife (c := 2) (x := 2) rfl, hA, ifl]
  · show σ * ((if (a : Int) = 3 then 100 else 0) - (if 3 < k then n else 0)) = σ * ((if 3 = a then 100 else 0) - (if ((3 : Nat) : Int) < A 0 20 then n else 0))
    rw [ife (c := 3) (x := 3) rfl, hA, ifl]
theorem s_differ {A : Nat → Nat → Int} {ζ : ZS} (h : Rf A ζ) (hw : Wa A) {a b m : Nat} {z y x : Int} (hz : z = a) (hy : y = b) (hx : x = m) (ha : a < 8) (hb : b < 8) (hm : m < 4) : g_X12_differ z y x ζ = some (leadv A a b m, ζ) := by
  subst hx
  apply ok_eq
  have q := hw.1
  have v1 := val_bd hw ha hm
  have v2 := val_bd hw hb hm
  unfold g_X12_differ g_X12_differ_26
  rw [rf_k h]
  refine ok_gI (by omega) (by omega) (by omega) (by omega) (fun g => ok_some ?_) (fun g => ?_)
  · unfold leadv
    rw [val_0 g, val_0 g]; rfl
  · exact ok_beq (s_valueOf h hw hz rfl ha (by omega)) (ok_beq (s_valueOf h hw hy rfl hb (by omega)) (ok_gw (by dsimp only; omega) (by dsimp only; omega) (ok_some rfl)))
theorem s_addsBetter {A : Nat → Nat → Int} {ζ : ZS} (h : Rf A ζ) (hw : Wa A) {k R a b : Nat} {ρ : Nat → V4} {z y : Int} (hz : z = a) (hy : y = b) (ha : a < 8) (hb : b < 8) (hr : Rw ζ k R ρ) (hR : R < 64) : Ok (g_X12_addsBetter z y ζ) (fun ζ' => Rw ζ' k (R + 1) (rx R ρ (leadv A a b)) ∧ Fx Wr ζ ζ') := by
  unfold g_X12_addsBetter
  refine ok_beq (s_differ h hw (m := 0) hz hy rfl ha hb (by omega)) (ok_beq (s_differ h hw (m := 1) hz hy rfl ha hb (by omega)) (ok_beq (s_differ h hw (m := 2) hz hy rfl ha hb (by omega)) (ok_beq (s_differ h hw (m := 3) hz hy rfl ha hb (by omega)) ?_)))
  exact ok_bind (s_addsRow ζ hr hR) (fun ζ' h => ok_some ⟨rw_e4 h.1 (four rfl rfl rfl rfl), h.2⟩)
/-- one more saying: its row, or none where it is null -/
theorem s_addsSaying {A : Nat → Nat → Int} {ζ : ZS} (h : Rf A ζ) (hw : Wa A) (hs : Ws A) {k R s : Nat} {ρ : Nat → V4} {z : Int} (hz : z = s) (hsn : (s : Int) < A 9 0) (hk : A 0 20 = k) (hr : Rw ζ k R ρ) (hR : R < 64) : Ok (g_X12_addsSaying z ζ) (fun ζ' => ((Rw ζ' k (R + 1) (rx R ρ (sr A s))) ∨ (Rw ζ' k R ρ ∧ sr A s = fun _ => 0)) ∧ Fx Wr ζ ζ') := by
  subst hz
  have q := hs.2 s hsn
  have q0 := hs.1
  have qk := hw.1
  have c : ∀ {x y : Nat}, 6 ≤ x → x ≤ 18 → ζ.1 x y = A x y := fun h1 h2 => rf_c h h1 h2
  unfold g_X12_addsSaying g_X12_addsSaying_159
  rw [show Int.toNat (s : Int) = s by omega, c (x := 11) (by omega) (by omega), c (x := 12) (by omega) (by omega), c (x := 13) (by omega) (by omega), c (x := 14) (by omega) (by omega), c (x := 15) (by omega) (by omega)]
  refine ok_gk (by omega) (by omega) (ok_gk (by omega) (by omega) (ok_gk (by omega) (by omega) ?_))
  have eA : A 14 s = ((A 14 s).toNat : Int) := by omega
  have eB : ¬ (A 11 s = 6 ∨ A 11 s = 7) → A 15 s = ((A 15 s).toNat : Int) := fun g => by have := q.2.2.2.2.2.1 (by omega); omega
  have rA : (A 14 s).toNat < 8 := by omega
  have rB : ¬ (A 11 s = 6 ∨ A 11 s = 7) → (A 15 s).toNat < 8 := fun g => by have := q.2.2.2.2.2.1 (by omega); omega
  refine ok_gI (by omega) (by omega) (by omega) (by omega) (fun g3 => ?_) (fun g3 => ?_)
  · exact ok_bind (s_addsPair ζ eA (eB (by omega)) rA (rB (by omega)) hr hR) (fun ζ' hq => ok_some ⟨Or.inl (by unfold sr; rw [if_pos g3]; exact hq.1), hq.2⟩)
  refine ok_gI (by omega) (by omega) (by omega) (by omega) (fun g4 => ?_) (fun g4 => ?_)
  · exact ok_bind (s_addsPair ζ eA (eB (by omega)) rA (rB (by omega)) hr hR) (fun ζ' hq => ok_some ⟨Or.inl (by unfold sr; rw [if_neg g3, if_pos g4]; exact hq.1), hq.2⟩)
  refine ok_gI (by omega) (by omega) (by omega) (by omega) (fun g5 => ?_) (fun g5 => ?_)
  · have r5 := q.2.2.2.2.1 g5
    refine ok_gk (by omega) (by omega) (ok_gw (by omega) (by omega) (ok_gk (by omega) (by omega) (ok_gw (by omega) (by omega) ?_)))
    exact ok_bind (s_addsPair ζ eA (eB (by omega)) rA (rB (by omega)) hr hR) (fun ζ' hq => ok_some ⟨Or.inl (by unfold sr; rw [if_neg g3, if_neg g4, if_pos g5]; exact hq.1), hq.2⟩)
  refine ok_gI (by omega) (by omega) (by omega) (by omega) (fun g6 => ?_) (fun g6 => ?_)
  · have r6 := q.2.2.2.1 (Or.inl g6)
    refine ok_gk (by omega) (by omega) ?_
    exact ok_bind (s_addsShare ζ (A := A) eA rA (by omega) hk (by omega) (by omega) hr hR) (fun ζ' hq => ok_some ⟨Or.inl (by unfold sr; rw [if_neg g3, if_neg g4, if_neg g5, if_pos g6]; exact hq.1), hq.2⟩)
  refine ok_gI (by omega) (by omega) (by omega) (by omega) (fun g7 => ?_) (fun g7 => ?_)
  · have r6 := q.2.2.2.1 (Or.inr g7)
    refine ok_gk (by omega) (by omega) ?_
    exact ok_bind (s_addsShare ζ (A := A) eA rA (by omega) hk (by omega) (by omega) hr hR) (fun ζ' hq => ok_some ⟨Or.inl (by unfold sr; rw [if_neg g3, if_neg g4, if_neg g5, if_neg g6, if_pos g7]; exact hq.1), hq.2⟩)
  have rB' := rB (by omega)
  have eB' := eB (by omega)
  have t1 := hw.2.1 (A 14 s).toNat rA
  have t2 := hw.2.1 (A 15 s).toNat rB'
  rw [c (x := 16) (by omega) (by omega), c (x := 16) (by omega) (by omega)]
  refine ok_gk (by omega) (by omega) (ok_gI (by omega) (by omega) (by omega) (by omega) (fun z1 => ?_) (fun z1 => ?_))
  · refine ok_some ⟨Or.inr ⟨hr, ?_⟩, fx_refl _ _⟩
    unfold sr told
    rw [if_neg g3, if_neg g4, if_neg g5, if_neg g6, if_neg g7, decide_eq_false (by omega : ¬ A 16 (A 14 s).toNat ≠ 0)]
    rfl
  · refine ok_gk (by omega) (by omega) (ok_gI (by omega) (by omega) (by omega) (by omega) (fun z2 => ?_) (fun z2 => ?_))
    · refine ok_some ⟨Or.inr ⟨hr, ?_⟩, fx_refl _ _⟩
      unfold sr told
      rw [if_neg g3, if_neg g4, if_neg g5, if_neg g6, if_neg g7, decide_eq_false (by omega : ¬ A 16 (A 15 s).toNat ≠ 0), Bool.and_false]
      rfl
    · refine ok_bind (s_addsBetter h hw eA eB' rA rB' hr hR) (fun ζ' hq => ok_some ⟨Or.inl ?_, hq.2⟩)
      unfold sr told
      rw [if_neg g3, if_neg g4, if_neg g5, if_neg g6, if_neg g7, decide_eq_true z1, decide_eq_true z2]
      exact hq.1
