/-! choice: tokens; the reference cuts them all first -/
abbrev blc (c : Int) : Prop := c = 10 ∨ c = 32
def knd (c : Int) : Int := if 97 ≤ c ∧ c ≤ 122 then 1 else if 48 ≤ c ∧ c ≤ 57 then 2 else if c = 59 then 3 else 4
def skF (s : Nat → Int) (N : Nat) : Nat → Nat → Nat
  | 0, p => p
  | n + 1, p => if p < N ∧ blc (s p) then skF s N n (p + 1) else p
def skp (s : Nat → Int) (N p : Nat) : Nat := skF s N (N - p) p
def rnF (s : Nat → Int) (N : Nat) (k : Int) : Nat → Nat → Nat
  | 0, p => p
  | n + 1, p => if p < N ∧ knd (s p) = k then rnF s N k n (p + 1) else p
def rnp (s : Nat → Int) (N : Nat) (k : Int) (p : Nat) : Nat := rnF s N k (N - p) p
def tE (s : Nat → Int) (N p : Nat) : Nat := if N ≤ skp s N p then N else if knd (s (skp s N p)) = 1 ∨ knd (s (skp s N p)) = 2 then rnp s N (knd (s (skp s N p))) (skp s N p) else skp s N p + 1
def tK (s : Nat → Int) (N p : Nat) : Int := if N ≤ skp s N p then 0 else if knd (s (skp s N p)) = 1 ∧ 8 < tE s N p - skp s N p then 4 else if knd (s (skp s N p)) = 2 ∧ 3 < tE s N p - skp s N p then 4 else knd (s (skp s N p))
def fld (b o : Int) (s : Nat → Int) (q : Nat) : Nat → Int
  | 0 => 0
  | n + 1 => b * fld b o s q n + (s (q + n) - o)
def tV (s : Nat → Int) (N p : Nat) : Int := if tK s N p = 1 then fld 37 96 s (skp s N p) (tE s N p - skp s N p) else if tK s N p = 2 then fld 10 48 s (skp s N p) (tE s N p - skp s N p) else s (skp s N p)
def pos (s : Nat → Int) (N : Nat) : Nat → Nat
  | 0 => 0
  | t + 1 => tE s N (pos s N t)
section
variable {s : Nat → Int} {N : Nat}
theorem skp_e (p : Nat) : skp s N p = if p < N ∧ blc (s p) then skp s N (p + 1) else p := by
  unfold skp
  by_cases c : p < N
  · obtain ⟨k, hk⟩ : ∃ k, N - p = k + 1 := ⟨N - p - 1, by omega⟩
    rw [hk, show N - (p + 1) = k by omega]
    rfl
  · rw [if_neg (fun q => c q.1), show N - p = 0 by omega]
    rfl
theorem rnp_e (k : Int) (p : Nat) : rnp s N k p = if p < N ∧ knd (s p) = k then rnp s N k (p + 1) else p := by
  unfold rnp
  by_cases c : p < N
  · obtain ⟨j, hj⟩ : ∃ j, N - p = j + 1 := ⟨N - p - 1, by omega⟩
    rw [hj, show N - (p + 1) = j by omega]
    rfl
  · rw [if_neg (fun q => c q.1), show N - p = 0 by omega]
    rfl
theorem skF_b : ∀ (n p : Nat), p ≤ N → p ≤ skF s N n p ∧ skF s N n p ≤ N
  | 0, p, h => ⟨Nat.le_refl _, h⟩
  | n + 1, p, h => by
    unfold skF
    split
    case isTrue c => have := skF_b n (p + 1) (by omega); omega
    case isFalse => omega
theorem skp_b {p : Nat} (h : p ≤ N) : p ≤ skp s N p ∧ skp s N p ≤ N := skF_b _ _ h
theorem rnF_b (k : Int) : ∀ (n p : Nat), p ≤ N → p ≤ rnF s N k n p ∧ rnF s N k n p ≤ N
  | 0, p, h => ⟨Nat.le_refl _, h⟩
  | n + 1, p, h => by
    unfold rnF
    split
    case isTrue c => have := rnF_b k n (p + 1) (by omega); omega
    case isFalse => omega
theorem rnp_b {k : Int} {p : Nat} (h : p ≤ N) : p ≤ rnp s N k p ∧ rnp s N k p ≤ N := rnF_b _ _ _ h
theorem tE_b {p : Nat} (h : p ≤ N) : p ≤ tE s N p ∧ tE s N p ≤ N ∧ skp s N p ≤ tE s N p ∧ (skp s N p < N → skp s N p < tE s N p) := by
  have a := skp_b (s := s) h
  unfold tE
  split
  · omega
  · split
    case isTrue c =>
      have b := rnp_b (s := s) (k := knd (s (skp s N p))) a.2
      have e := rnp_e (s := s) (N := N) (knd (s (skp s N p))) (skp s N p)
      rw [if_pos ⟨by omega, rfl⟩] at e
      have b2 := rnp_b (s := s) (k := knd (s (skp s N p))) (show skp s N p + 1 ≤ N by omega)
      omega
    case isFalse c => omega
theorem pos_b : ∀ t, pos s N t ≤ N
  | 0 => Nat.zero_le _
  | t + 1 => (tE_b (pos_b t)).2.1
theorem tK_0 {p : Nat} (h : p ≤ N) : tK s N p = 0 ↔ skp s N p = N := by
  have a := skp_b (s := s) h
  unfold tK
  split
  · exact ⟨fun _ => by omega, fun _ => rfl⟩
  · refine ⟨fun e => ?_, fun e => by omega⟩
    revert e
    split
    · intro e; omega
    · split
      · intro e; omega
      · unfold knd
        repeat' split
        all_goals (intro e; omega)
end
theorem s_isL (ζ : ZS) {z : Int} (hz : r32 z) : g_X12_isLetter z ζ = some (bi (decide (97 ≤ z) && decide (z ≤ 122)), ζ) := by
  apply ok_eq
  unfold g_X12_isLetter g_X12_isLetter_16 g_X12_isLetter_17
  refine ok_gI hz.1 hz.2 (by omega) (by omega) (fun h => ?_) (fun h => ok_gI (by omega) (by omega) hz.1 hz.2 (fun g => ?_) (fun g => ?_))
  · exact ok_gz (Or.inl rfl) (ok_some (by rw [decide_eq_false (show ¬ 97 ≤ z by omega)]; rfl))
  · exact ok_gz (Or.inl rfl) (ok_some (by rw [decide_eq_false (show ¬ z ≤ 122 by omega), Bool.and_false]; rfl))
  · exact ok_gz (Or.inr rfl) (ok_some (by rw [decide_eq_true (show 97 ≤ z by omega), decide_eq_true (show z ≤ 122 by omega)]; rfl))
theorem s_isD (ζ : ZS) {z : Int} (hz : r32 z) : g_X12_isDigit z ζ = some (bi (decide (48 ≤ z) && decide (z ≤ 57)), ζ) := by
  apply ok_eq
  unfold g_X12_isDigit g_X12_isDigit_16 g_X12_isDigit_17
  refine ok_gI hz.1 hz.2 (by omega) (by omega) (fun h => ?_) (fun h => ok_gI (by omega) (by omega) hz.1 hz.2 (fun g => ?_) (fun g => ?_))
  · exact ok_gz (Or.inl rfl) (ok_some (by rw [decide_eq_false (show ¬ 48 ≤ z by omega)]; rfl))
  · exact ok_gz (Or.inl rfl) (ok_some (by rw [decide_eq_false (show ¬ z ≤ 57 by omega), Bool.and_false]; rfl))
  · exact ok_gz (Or.inr rfl) (ok_some (by rw [decide_eq_true (show 48 ≤ z by omega), decide_eq_true (show z ≤ 57 by omega)]; rfl))
theorem s_isS (ζ : ZS) {z : Int} (hz : r32 z) : g_X12_isSignOf z ζ = some (bi (decide (z = 59)), ζ) := by
  apply ok_eq
  unfold g_X12_isSignOf g_X12_isSignOf_11
  refine ok_gI hz.1 hz.2 (by omega) (by omega) (fun h => ?_) (fun h => ?_)
  · exact ok_gz (Or.inr rfl) (ok_some (by rw [decide_eq_true h]; rfl))
  · exact ok_gz (Or.inl rfl) (ok_some (by rw [decide_eq_false h]; rfl))
theorem s_rank (ζ : ZS) {z : Int} (h1 : 97 ≤ z) (h2 : z ≤ 122) : g_X12_rank z ζ = some (z - 96, ζ) := by
  apply ok_eq
  unfold g_X12_rank g_X12_rank_18
  refine ok_beq (s_isL ζ ⟨by omega, by omega⟩) (ok_bi (fun e => ?_) (fun _ => ok_some rfl))
  rw [decide_eq_true h1, decide_eq_true h2] at e
  cases e
theorem knd_1 {c : Int} : knd c = 1 ↔ (97 ≤ c ∧ c ≤ 122) := by
  unfold knd
  repeat' split
  all_goals omega
theorem knd_2 {c : Int} : knd c = 2 ↔ (48 ≤ c ∧ c ≤ 57) := by
  unfold knd
  repeat' split
  all_goals omega
def Wcu (x y : Nat) : Prop := (x = 0 ∧ (y = 2 ∨ y = 3 ∨ y = 7 ∨ y = 8)) ∨ x = 2 ∨ x = 3 ∨ x = 4
/-- token i as the reference keeps it -/
def Ent (s : Nat → Int) (N : Nat) (ζ : ZS) (i : Nat) : Prop := ζ.1 2 i = tK s N (pos s N i) ∧ ζ.1 3 i = skp s N (pos s N i) ∧ (tK s N (pos s N i) ≠ 4 → tK s N (pos s N i) ≠ 0 → ζ.2.1 4 i = tV s N (pos s N i))
def Lyd (s : Nat → Int) (N : Nat) (ζ ζ1 : ZS) (t : Nat) : Prop := Fx Wcu ζ ζ1 ∧ ζ1.1 0 3 = N ∧ ζ1.1 0 2 = 0 ∧ ∀ i, i < t → Ent s N ζ1 i ∧ tK s N (pos s N i) ≠ 0
theorem lyd_put {s : Nat → Int} {N : Nat} {ζ ζ1 : ZS} {t : Nat} {a b v : Int} (h : Lyd s N ζ ζ1 t) (ha : a = tK s N (pos s N t)) (hb : b = skp s N (pos s N t)) (hv : tK s N (pos s N t) ≠ 4 → v = tV s N (pos s N t)) (h0 : tK s N (pos s N t) ≠ 0) : Lyd s N ζ (zJ (zI (zI ζ1 3 t b) 2 t a) 4 t v) (t + 1) := by
  obtain ⟨hf, h3, h2, he⟩ := h
  refine ⟨fx_J (fx_I (fx_I hf (by unfold Wcu; omega)) (by unfold Wcu; omega)) (by unfold Wcu; omega), ?_, ?_, fun i hi => ?_⟩
  · rw [zJ_1, zI_1, if_neg (by omega), zI_1, if_neg (by omega)]; exact h3
  · rw [zJ_1, zI_1, if_neg (by omega), zI_1, if_neg (by omega)]; exact h2
  · unfold Ent
    rw [zJ_1, zJ_2, zI_1, zI_1, zI_1, zI_1, zI_2, zI_2]
    by_cases c : i = t
    · subst c
      rw [if_pos ⟨rfl, rfl⟩, if_neg (by omega), if_pos ⟨rfl, rfl⟩, if_pos ⟨rfl, rfl⟩]
      exact ⟨⟨ha, hb, fun g _ => hv g⟩, h0⟩
    · rw [if_neg (by omega), if_neg (by omega), if_neg (by omega), if_neg (by omega), if_neg (by omega)]
      exact he i (by omega)
