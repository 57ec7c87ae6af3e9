/-! the reference: what it holds, values, who is in -/
/-- what stays of the reference between calls (with what is raised) -/
def psl (A : Nat → Nat → Int) (c k : Nat) : Prop := (c = 0 ∧ (k = 2 ∨ k = 20 ∨ k = 23 ∨ k = 24 ∨ k = 32 ∨ (A 0 32 ≠ -1 ∧ (k = 33 ∨ k = 34)))) ∨ c = 1 ∨ (6 ≤ c ∧ c ≤ 18)
def Rf (A : Nat → Nat → Int) (ζ : ZS) : Prop := ∀ c k, psl A c k → ζ.1 c k = A c k
theorem rf_fx {A : Nat → Nat → Int} {ζ ζ' : ZS} {W : Nat → Nat → Prop} (h : Rf A ζ) (hf : Fx W ζ ζ') (hw : ∀ c k, psl A c k → ¬ W c k) : Rf A ζ' := fun c k hp => by rw [(hf.1 c k (hw c k hp)).1]; exact h c k hp
def unc (A : Nat → Nat → Int) (t m : Nat) : Int := if A 6 m = 0 then A 17 (4 * t + m) else 100 - A 17 (4 * t + m)
def val (A : Nat → Nat → Int) (t m : Nat) : Int := if A 0 20 ≤ (m : Int) then 0 else if 0 ≤ A 7 m ∧ A 7 m < unc A t m then A 7 m else unc A t m
def told (A : Nat → Nat → Int) (t : Nat) : Bool := decide (A 16 t ≠ 0)
def okm (A : Nat → Nat → Int) (t m : Nat) : Bool := decide (A 0 20 ≤ m) || decide (A 8 m < 0) || decide (A 8 m ≤ unc A t m)
def inb (A : Nat → Nat → Int) (t : Nat) : Bool := told A t && okm A t 0 && okm A t 1 && okm A t 2 && okm A t 3
/-- of any number: a thing told, a thing that is in -/
def thz (A : Nat → Nat → Int) (z : Int) : Bool := decide (0 ≤ z) && decide (z ≤ 7) && told A z.toNat
def inz (A : Nat → Nat → Int) (z : Int) : Bool := decide (0 ≤ z) && decide (z ≤ 7) && inb A z.toNat
def bi (b : Bool) : Int := if b = true then 1 else 0
theorem bi_r (b : Bool) : bi b = 0 ∨ bi b = 1 := by cases b; exact Or.inl rfl; exact Or.inr rfl
theorem ok_bi {α : Type} {P : α → Prop} {X Y : Option α} {b : Bool} (h0 : b = false → Ok X P) (h1 : b = true → Ok Y P) : Ok (gI (bi b) 0 (bi b = 0) X Y) P := by
  cases b
  · exact ok_gI (by decide) (by decide) (by decide) (by decide) (fun _ => h0 rfl) (fun q => absurd rfl q)
  · exact ok_gI (by decide) (by decide) (by decide) (by decide) (fun q => absurd q (by decide)) (fun _ => h1 rfl)
/-- numbers as they may be: measures, things, choice -/
def Wa (A : Nat → Nat → Int) : Prop := (1 ≤ A 0 20 ∧ A 0 20 ≤ 4) ∧ (∀ t, t < 8 → A 16 t = 0 ∨ A 16 t = 1) ∧ (∀ t m, t < 8 → m < 4 → 0 ≤ A 17 (4 * t + m) ∧ A 17 (4 * t + m) ≤ 100) ∧ (∀ m, m < 4 → (A 6 m = 0 ∨ A 6 m = 1) ∧ (-1 ≤ A 7 m ∧ A 7 m ≤ 100) ∧ (-1 ≤ A 8 m ∧ A 8 m ≤ 100) ∧ (A 0 20 ≤ m → A 6 m = 0 ∧ A 7 m = -1 ∧ A 8 m = -1))
theorem unc_bd {A : Nat → Nat → Int} (h : Wa A) {t m : Nat} (ht : t < 8) (hm : m < 4) : 0 ≤ unc A t m ∧ unc A t m ≤ 100 := by
  have := h.2.2.1 t m ht hm
  unfold unc
  split <;> omega
theorem val_bd {A : Nat → Nat → Int} (h : Wa A) {t m : Nat} (ht : t < 8) (hm : m < 4) : 0 ≤ val A t m ∧ val A t m ≤ 100 := by
  have := unc_bd h ht hm
  unfold val
  split
  · omega
  · split <;> omega
theorem val_0 {A : Nat → Nat → Int} {t m : Nat} (hk : A 0 20 ≤ m) : val A t m = 0 := by unfold val; rw [if_pos hk]
abbrev r32 (a : Int) : Prop := -2147483648 ≤ a ∧ a < 2147483648
theorem s_within (ζ : ZS) {v a b : Int} (hv : r32 v) (ha : r32 a) (hb : r32 b) : g_X12_within v a b ζ = some (bi (decide (a ≤ v) && decide (v ≤ b)), ζ) := by
  apply ok_eq
  unfold g_X12_within g_X12_within_14 g_X12_within_15
  refine ok_gI hv.1 hv.2 ha.1 ha.2 (fun h => ?_) (fun h => ?_)
  · exact ok_gz (Or.inl rfl) (ok_some (by rw [decide_eq_false (show ¬ a ≤ v by omega)]; rfl))
  · refine ok_gI hb.1 hb.2 hv.1 hv.2 (fun g => ?_) (fun g => ?_)
    · exact ok_gz (Or.inl rfl) (ok_some (by rw [decide_eq_false (show ¬ v ≤ b by omega), Bool.and_false]; rfl))
    · exact ok_gz (Or.inr rfl) (ok_some (by rw [decide_eq_true (show a ≤ v by omega), decide_eq_true (show v ≤ b by omega)]; rfl))
theorem rf_k {A : Nat → Nat → Int} {ζ : ZS} (h : Rf A ζ) : ζ.1 0 20 = A 0 20 := h 0 20 (by unfold psl; omega)
theorem rf_c {A : Nat → Nat → Int} {ζ : ZS} (h : Rf A ζ) {c k : Nat} (h1 : 6 ≤ c) (h2 : c ≤ 18) : ζ.1 c k = A c k := h c k (by unfold psl; omega)
theorem s_isThing {A : Nat → Nat → Int} {ζ : ZS} (h : Rf A ζ) (hw : Wa A) {z : Int} (hz : r32 z) : g_X12_isThing z ζ = some (bi (thz A z), ζ) := by
  apply ok_eq
  unfold g_X12_isThing g_X12_isThing_23 g_X12_isThing_24
  refine ok_beq (s_within ζ hz (by omega) (by omega)) (ok_bi (fun e => ?_) (fun e => ?_))
  · refine ok_gz (Or.inl rfl) (ok_some ?_)
    unfold thz
    rw [e]; rfl
  · have e' := e
    simp only [Bool.and_eq_true, decide_eq_true_eq] at e'
    have r := hw.2.1 z.toNat (by omega)
    rw [rf_c h (by omega) (by omega)]
    refine ok_gk (by omega) (by omega) (ok_gI (by omega) (by omega) (by omega) (by omega) (fun q => ?_) (fun q => ?_))
    · refine ok_gz (Or.inl rfl) (ok_some ?_)
      unfold thz told
      rw [e, decide_eq_false (by omega)]; rfl
    · refine ok_gz (Or.inr rfl) (ok_some ?_)
      unfold thz told
      rw [e, decide_eq_true q]; rfl
theorem s_uncapped {A : Nat → Nat → Int} {ζ : ZS} (h : Rf A ζ) (hw : Wa A) {t m : Nat} {z y : Int} (hz : z = t) (hy : y = m) (ht : t < 8) (hm : m < 4) : g_X12_uncapped z y ζ = some (unc A t m, ζ) := by
  subst hz; subst hy
  apply ok_eq
  unfold g_X12_uncapped g_X12_uncapped_35
  have r := (hw.2.2.2 m hm).1
  rw [rf_c h (by omega) (by omega), rf_c h (by omega) (by omega), show Int.toNat (m : Int) = m by omega, show Int.toNat (4 * (t : Int) + m) = 4 * t + m by omega]
  unfold unc
  refine ok_gk (by omega) (by omega) (ok_gI (by omega) (by omega) (by omega) (by omega) (fun q => ?_) (fun q => ?_))
  · exact ok_gk (by omega) (by omega) (ok_some (by rw [if_pos q]))
  · exact ok_gk (by omega) (by omega) (ok_some (by rw [if_neg q]))
theorem s_valueOf {A : Nat → Nat → Int} {ζ : ZS} (h : Rf A ζ) (hw : Wa A) {t m : Nat} {z y : Int} (hz : z = t) (hy : y = m) (ht : t < 8) (hm : (m : Int) < A 0 20) : g_X12_valueOf z y ζ = some (val A t m, ζ) := by
  subst hy
  have hm' := hm
  have hm : m < 4 := by have := hw.1; omega
  apply ok_eq
  unfold g_X12_valueOf g_X12_valueOf_35 g_X12_valueOf_36
  have r := hw.2.2.2 m hm
  have u := unc_bd hw ht hm
  refine ok_beq (s_uncapped h hw hz rfl ht hm) ?_
  rw [show Int.toNat (m : Int) = m by omega]
  have e : ζ.1 7 m = A 7 m := rf_c h (by omega) (by omega)
  rw [e]
  unfold val
  rw [if_neg (by omega)]
  refine ok_gk (by omega) (by omega) (ok_gI (by omega) (by omega) (by omega) (by omega) (fun q => ?_) (fun q => ?_))
  · exact ok_some (by rw [if_neg (by omega)])
  · refine ok_gk (by omega) (by omega) (ok_gI (by omega) (by omega) (by omega) (by omega) (fun q => ?_) (fun q => ?_))
    · exact ok_some (by rw [if_neg (by omega)])
    · exact ok_gk (by omega) (by omega) (ok_some (by rw [if_pos (by omega)]))
/-- all measures below j are met -/
def okj (A : Nat → Nat → Int) (t : Nat) : Nat → Bool
  | 0 => true
  | j + 1 => okj A t j && okm A t j
theorem okm_k {A : Nat → Nat → Int} {t m : Nat} (h : A 0 20 ≤ m) : okm A t m = true := by unfold okm; rw [decide_eq_true h]; rfl
theorem okj_4 {A : Nat → Nat → Int} {t k : Nat} (hk : A 0 20 = k) (h4 : k ≤ 4) : okj A t k = okj A t 4 := by
  have o : ∀ m, k ≤ m → okm A t m = true := fun m h => okm_k (by omega)
  rcases (show k = 0 ∨ k = 1 ∨ k = 2 ∨ k = 3 ∨ k = 4 by omega) with e | e | e | e | e <;> subst e <;> simp only [okj] <;> simp [o]
theorem s_isIn {A : Nat → Nat → Int} {ζ : ZS} (h : Rf A ζ) (hw : Wa A) {z : Int} (hz : r32 z) : g_X12_isIn z ζ = some (bi (inz A z), ζ) := by
  obtain ⟨k, hk⟩ : ∃ k : Nat, A 0 20 = k := ⟨(A 0 20).toNat, by have := hw.1; omega⟩
  have hk4 : k ≤ 4 := by have := hw.1; omega
  have e20 : ζ.1 0 20 = k := by rw [rf_k h, hk]
  unfold g_X12_isIn
  rw [s_isThing h hw hz]
  show g_X12_isIn_8 z FU (bi (thz A z)) 0 ζ = _
  have key : ∀ (n : Nat) (b : Bool) (y : Int) (j : Nat), y = j → j ≤ k → k - j < n → (b = (thz A z && okj A z.toNat j)) → g_X12_isIn_8 z n (bi b) y ζ = some (bi (thz A z && okj A z.toNat k), ζ) := by
    intro n
    induction n with
    | zero => intro _ _ _ _ _ h; omega
    | succ n ih =>
      intro b y j hy hj hn hb
      subst hy
      apply ok_eq
      unfold g_X12_isIn_8 g_X12_isIn_56 g_X12_isIn_44 g_X12_isIn_49
      have rb := bi_r b
      rw [e20]
      refine ok_gI (by omega) (by omega) (by omega) (by omega) (fun q => ?_) (fun q => ?_)
      · have e : j = k := by omega
        subst e
        exact ok_gz rb (ok_some (by rw [hb]))
      · refine ok_bi (fun q0 => ?_) (fun q1 => ?_)
        · refine ok_gz rb (ok_some ?_)
          -- false stays false
          have : ∀ x, j ≤ x → (thz A z && okj A z.toNat x) = false := by
            intro x hx
            induction x with
            | zero => rw [show j = 0 by omega] at hb; rw [← hb]; exact q0
            | succ x ihx =>
              by_cases e : j = x + 1
              · rw [← e, ← hb]; exact q0
              · have := ihx (by omega)
                simp only [okj]
                rw [← Bool.and_assoc, this]; rfl
          rw [this k (by omega), q0]
        · subst q1
          have hth : thz A z = true := by
            cases e : thz A z with
            | true => rfl
            | false => rw [e] at hb; simp at hb
          have hz7 : 0 ≤ z ∧ z ≤ 7 := by
            unfold thz at hth
            simp only [Bool.and_eq_true, decide_eq_true_eq] at hth
            exact hth.1
          have hoj : okj A z.toNat j = true := by rw [hth] at hb; simpa using hb.symm
          have r := hw.2.2.2 j (by omega)
          have u := unc_bd hw (t := z.toNat) (m := j) (by omega) (by omega)
          rw [show Int.toNat (j : Int) = j by omega]
          have e8 : ζ.1 8 j = A 8 j := rf_c h (by omega) (by omega)
          rw [e8]
          have go : ∀ b' : Bool, b' = okm A z.toNat j → Ok (g_X12_isIn_8 z n (bi b') ((j : Int) + 1) ζ) (fun x => x = (bi (thz A z && okj A z.toNat k), ζ)) := fun b' hb' => ok_of (ih b' _ (j + 1) (by omega) (by omega) (by omega) (by simp only [okj]; rw [hth, hoj, hb']; rfl))
          refine ok_gk (by omega) (by omega) (ok_gI (by omega) (by omega) (by omega) (by omega) (fun q => ?_) (fun q => ?_))
          · exact go true (by unfold okm; simp [q])
          · refine ok_beq (s_uncapped h hw (t := z.toNat) (by omega) rfl (by omega) (by omega)) (ok_gk (by omega) (by omega) ?_)
            show Ok (gI (unc A z.toNat j) (ζ.1 8 j) _ _ _) _
            rw [e8]
            refine ok_gI (by omega) (by omega) (by omega) (by omega) (fun q2 => ?_) (fun q2 => ?_)
            · refine go false ?_
              unfold okm
              rw [decide_eq_false (show ¬ A 0 20 ≤ (j : Int) by omega), decide_eq_false q, decide_eq_false (show ¬ A 8 j ≤ unc A z.toNat j by omega)]; rfl
            · refine go true ?_
              unfold okm
              rw [decide_eq_true (show A 8 j ≤ unc A z.toNat j by omega)]; simp
  rw [key FU (thz A z) 0 0 rfl (by omega) (by rw [FU_e]; omega) (by simp [okj]), okj_4 hk hk4]
  congr 2
  unfold thz inz inb
  simp [okj, Bool.and_assoc]
theorem inz_n {A : Nat → Nat → Int} {t : Nat} (h : t < 8) : inz A (t : Int) = inb A t := by
  unfold inz
  rw [decide_eq_true (show (0 : Int) ≤ t by omega), decide_eq_true (show (t : Int) ≤ 7 by omega), show Int.toNat (t : Int) = t by omega]; rfl
theorem s_isInN {A : Nat → Nat → Int} {ζ : ZS} (h : Rf A ζ) (hw : Wa A) {t : Nat} {z : Int} (hz : z = t) (ht : t < 8) : g_X12_isIn z ζ = some (bi (inb A t), ζ) := by
  rw [s_isIn h hw (by omega), hz, inz_n ht]
