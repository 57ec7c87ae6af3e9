/-! choice: what is read out of the tokens -/
section
variable {s : Nat → Int} {N : Nat}
theorem rnF_all (k : Int) : ∀ (n p i : Nat), p ≤ i → i < rnF s N k n p → knd (s i) = k
  | 0, p, i, h1, h2 => by have : i < p := h2; omega
  | n + 1, p, i, h1, h2 => by
    unfold rnF at h2
    split at h2
    case isTrue c =>
      by_cases e : i = p
      · rw [e]; exact c.2
      · exact rnF_all k n (p + 1) i (by omega) h2
    case isFalse => omega
theorem rnp_all {k : Int} {p i : Nat} (h1 : p ≤ i) (h2 : i < rnp s N k p) : knd (s i) = k := rnF_all k _ p i h1 h2
theorem fld_b {b o : Int} {q : Nat} (hb : 1 ≤ b) : ∀ n, (∀ i, i < n → 0 ≤ s (q + i) - o ∧ s (q + i) - o ≤ b - 1) → 0 ≤ fld b o s q n ∧ fld b o s q n ≤ b ^ n - 1
  | 0, _ => ⟨Int.le_refl _, by rw [Int.pow_zero]; exact Int.le_refl 0⟩
  | n + 1, h => by
    have a := fld_b hb n (fun i hi => h i (by omega))
    have c := h n (by omega)
    have m1 : 0 ≤ b * fld b o s q n := Int.mul_nonneg (by omega) a.1
    have m2 : b * fld b o s q n ≤ b * (b ^ n - 1) := Int.mul_le_mul_of_nonneg_left a.2 (by omega)
    have m3 : b * (b ^ n - 1) = b ^ (n + 1) - b := by rw [Int.mul_sub, Int.mul_one, Int.pow_succ, Int.mul_comm]
    refine ⟨?_, ?_⟩
    · show 0 ≤ b * fld b o s q n + (s (q + n) - o); omega
    · show b * fld b o s q n + (s (q + n) - o) ≤ b ^ (n + 1) - 1; omega
theorem tK_c {p : Nat} : tK s N p = 1 ∨ tK s N p = 2 → knd (s (skp s N p)) = tK s N p ∧ ¬ N ≤ skp s N p ∧ tE s N p = rnp s N (tK s N p) (skp s N p) := by
  intro h
  have e : tK s N p = if N ≤ skp s N p then 0 else if knd (s (skp s N p)) = 1 ∧ 8 < tE s N p - skp s N p then 4 else if knd (s (skp s N p)) = 2 ∧ 3 < tE s N p - skp s N p then 4 else knd (s (skp s N p)) := rfl
  by_cases c : N ≤ skp s N p
  · rw [if_pos c] at e; omega
  · rw [if_neg c] at e
    have e2 : knd (s (skp s N p)) = tK s N p := by
      revert e
      split
      · intro e; omega
      · split
        · intro e; omega
        · intro e; exact e.symm
    refine ⟨e2, c, ?_⟩
    unfold tE
    rw [if_neg c, e2, if_pos h]
theorem tK_l {p : Nat} : (tK s N p = 1 → tE s N p - skp s N p ≤ 8) ∧ (tK s N p = 2 → tE s N p - skp s N p ≤ 3) := by
  have e : tK s N p = if N ≤ skp s N p then 0 else if knd (s (skp s N p)) = 1 ∧ 8 < tE s N p - skp s N p then 4 else if knd (s (skp s N p)) = 2 ∧ 3 < tE s N p - skp s N p then 4 else knd (s (skp s N p)) := rfl
  refine ⟨fun h => ?_, fun h => ?_⟩
  · have a := (tK_c (Or.inl h)).1
    have c := (tK_c (Or.inl h)).2.1
    rw [if_neg c, a, h] at e
    by_cases g : 8 < tE s N p - skp s N p
    · rw [if_pos ⟨rfl, g⟩] at e; omega
    · omega
  · have a := (tK_c (Or.inr h)).1
    have c := (tK_c (Or.inr h)).2.1
    rw [if_neg c, a, h, if_neg (by omega)] at e
    by_cases g : 3 < tE s N p - skp s N p
    · rw [if_pos ⟨rfl, g⟩] at e; omega
    · omega
theorem tV_2 {p : Nat} (h : tK s N p = 2) : 0 ≤ tV s N p ∧ tV s N p ≤ 999 := by
  have e : tV s N p = fld 10 48 s (skp s N p) (tE s N p - skp s N p) := by unfold tV; rw [if_neg (by omega), if_pos h]
  have c := tK_c (Or.inr h)
  have l := tK_l.2 h
  have b := fld_b (s := s) (b := 10) (o := 48) (q := skp s N p) (by omega) (tE s N p - skp s N p) (fun i hi => by
    have := knd_2.mp ((rnp_all (s := s) (N := N) (k := 2) (p := skp s N p) (i := skp s N p + i) (by omega) (by have := c.2.2; rw [h] at this; omega)))
    omega)
  rw [e]
  have pw : ∀ n : Nat, n < 4 → (10 : Int) ^ n ≤ 1000 := by decide
  have p3 := pw _ (show tE s N p - skp s N p < 4 by omega)
  omega
theorem tV_1 {p : Nat} (h : tK s N p = 1) : 0 ≤ tV s N p ∧ tV s N p ≤ 3512479453920 := by
  have e : tV s N p = fld 37 96 s (skp s N p) (tE s N p - skp s N p) := by unfold tV; rw [if_pos h]
  have c := tK_c (Or.inl h)
  have l := tK_l.1 h
  have b := fld_b (s := s) (b := 37) (o := 96) (q := skp s N p) (by omega) (tE s N p - skp s N p) (fun i hi => by
    have := knd_1.mp ((rnp_all (s := s) (N := N) (k := 1) (p := skp s N p) (i := skp s N p + i) (by omega) (by have := c.2.2; rw [h] at this; omega)))
    omega)
  rw [e]
  have pw : ∀ n : Nat, n < 9 → (37 : Int) ^ n ≤ 3512479453921 := by decide
  have p3 := pw _ (show tE s N p - skp s N p < 9 by omega)
  omega
theorem tK_r {p : Nat} : 0 ≤ tK s N p ∧ tK s N p ≤ 4 := by
  unfold tK
  repeat' split
  all_goals first | omega | skip
  unfold knd
  repeat' split
  all_goals omega
theorem tV_3 {p : Nat} (h : tK s N p = 3) : tV s N p = 59 := by
  have e : tV s N p = s (skp s N p) := by unfold tV; rw [if_neg (by omega), if_neg (by omega)]
  rw [e]
  have e : tK s N p = if N ≤ skp s N p then 0 else if knd (s (skp s N p)) = 1 ∧ 8 < tE s N p - skp s N p then 4 else if knd (s (skp s N p)) = 2 ∧ 3 < tE s N p - skp s N p then 4 else knd (s (skp s N p)) := rfl
  rw [h] at e
  revert e
  split
  · intro e; omega
  · split
    · intro e; omega
    · split
      · intro e; omega
      · unfold knd
        repeat' split
        all_goals (intro e; omega)
end
/-- fault, place behind, draft -/
abbrev Rz := Int × Nat × (Nat → Nat → Int)
abbrev isV (s : Nat → Int) (N p : Nat) (c : Int) : Prop := tK s N p = 1 ∧ tV s N p = c
def tnF (s : Nat → Int) (N : Nat) (lo hi : Int) (p : Nat) : Int := if tK s N p ≠ 2 then 1 + 16 * (skp s N p : Int) else if tV s N p < lo ∨ hi < tV s N p then 4 + 16 * (skp s N p : Int) else 0
def toF (s : Nat → Int) (N : Nat) (o hi : Int) (p : Nat) : Int := if tK s N p = 2 ∧ tV s N p = o then 3 + 16 * (skp s N p : Int) else tnF s N 0 hi p
def sayD (D : Nat → Nat → Int) (g i c d x y : Int) : Nat → Nat → Int := up (up (up (up (up (up (up D 10 (D 9 0).toNat g) 11 (D 9 0).toNat i) 12 (D 9 0).toNat c) 13 (D 9 0).toNat d) 14 (D 9 0).toNat x) 15 (D 9 0).toNat y) 9 0 (D 9 0 + 1)
def spM (s : Nat → Int) (N : Nat) (k : Int) (j p : Nat) (D : Nat → Nat → Int) : Rz :=
  if tK s N p = 2 ∧ tV s N p < k ∧ (if j = 0 then D 6 (tV s N p).toNat ≠ 0 else 0 ≤ D (6 + j) (tV s N p).toNat) then (3 + 16 * (skp s N p : Int), p, D)
  else if tnF s N 0 (k - 1) p ≠ 0 then (tnF s N 0 (k - 1) p, p, D)
  else if j = 0 then (0, tE s N p, up D 6 (tV s N p).toNat 1)
  else if tnF s N 0 100 (tE s N p) ≠ 0 then (tnF s N 0 100 (tE s N p), p, D)
  else (0, tE s N (tE s N p), up D (6 + j) (tV s N p).toNat (tV s N (tE s N p)))
def spF (s : Nat → Int) (N : Nat) (k g : Int) (p : Nat) (D : Nat → Nat → Int) : Rz :=
  if tnF s N 1 100 p ≠ 0 then (tnF s N 1 100 p, p, D)
  else if tnF s N 0 (k - 1) (tE s N p) ≠ 0 then (tnF s N 0 (k - 1) (tE s N p), p, D)
  else if tnF s N 1 100 (tE s N (tE s N p)) ≠ 0 then (tnF s N 1 100 (tE s N (tE s N p)), p, D)
  else if toF s N (tV s N (tE s N p)) (k - 1) (tE s N (tE s N (tE s N p))) ≠ 0 then (toF s N (tV s N (tE s N p)) (k - 1) (tE s N (tE s N (tE s N p))), p, D)
  else (0, tE s N (tE s N (tE s N (tE s N p))), sayD D g 5 (tV s N p) (tV s N (tE s N (tE s N p))) (tV s N (tE s N p)) (tV s N (tE s N (tE s N (tE s N p)))))
def spB (s : Nat → Int) (N : Nat) (k g i : Int) (p : Nat) (D : Nat → Nat → Int) : Rz :=
  if tnF s N 0 (k - 1) p ≠ 0 then (tnF s N 0 (k - 1) p, p, D)
  else if tnF s N 0 100 (tE s N p) ≠ 0 then (tnF s N 0 100 (tE s N p), p, D)
  else (0, tE s N (tE s N p), sayD D g i (tV s N (tE s N p)) 0 (tV s N p) 0)
def spP (s : Nat → Int) (N : Nat) (hi g i : Int) (p : Nat) (D : Nat → Nat → Int) : Rz :=
  if tnF s N 0 hi p ≠ 0 then (tnF s N 0 hi p, p, D)
  else if toF s N (tV s N p) hi (tE s N p) ≠ 0 then (toF s N (tV s N p) hi (tE s N p), p, D)
  else (0, tE s N (tE s N p), sayD D g i 0 0 (tV s N p) (tV s N (tE s N p)))
def wix (s : Nat → Int) (N p : Nat) : Int := if isV s N p 149099362 then 8 else if isV s N p 679747 then 7 else if isV s N p 22745289 then 6 else if isV s N p 989988 then 5 else if isV s N p 38660676 then 4 else if isV s N p 679695 then 3 else -1
/-- p: the place of the word behind the person -/
def spS (s : Nat → Int) (N : Nat) (k g : Int) (p : Nat) (D : Nat → Nat → Int) : Rz :=
  if wix s N p < 0 then (1 + 16 * (skp s N p : Int), p, D)
  else if wix s N p = 5 then spF s N k g (tE s N p) D
  else if wix s N p = 6 ∨ wix s N p = 7 then spB s N k g (wix s N p) (tE s N p) D
  else spP s N (if wix s N p = 8 then 7 else k - 1) g (wix s N p) (tE s N p) D
def spT (s : Nat → Int) (N : Nat) (k : Int) (p : Nat) (D : Nat → Nat → Int) : Rz :=
  if isV s N p 615403 then spM s N k 0 (tE s N p) D
  else if isV s N p 4160 then spM s N k 1 (tE s N p) D
  else if isV s N p 687961 then spM s N k 2 (tE s N p) D
  else if ¬ (tK s N p = 1 ∧ 1 ≤ tV s N p ∧ tV s N p ≤ 8) then (1 + 16 * (skp s N p : Int), p, D)
  else if D 9 0 = 12 then (5 + 16 * (skp s N p : Int), p, D)
  else spS s N k (tV s N p - 1) (tE s N p) D
/-- a whole statement -/
def spA (s : Nat → Int) (N : Nat) (k : Int) (p : Nat) (D : Nat → Nat → Int) : Rz :=
  if (spT s N k p D).1 ≠ 0 then spT s N k p D
  else if tK s N (spT s N k p D).2.1 = 3 then (0, tE s N (spT s N k p D).2.1, (spT s N k p D).2.2)
  else (1 + 16 * (skp s N (spT s N k p D).2.1 : Int), p, D)
def spL (s : Nat → Int) (N : Nat) (k : Int) : Nat → Nat → (Nat → Nat → Int) → Int × (Nat → Nat → Int)
  | 0, _, D => (0, D)
  | n + 1, p, D => if tK s N p = 0 then (0, D) else if (spA s N k p D).1 ≠ 0 then ((spA s N k p D).1, D) else spL s N k n (spA s N k p D).2.1 (spA s N k p D).2.2
def dr0 : Nat → Nat → Int := fun x _ => if x = 7 ∨ x = 8 then -1 else 0
