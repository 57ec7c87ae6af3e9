/-! thing, row: reference and class -/
def thOK (A : Nat → Nat → Int) (t a b c d : Int) : Prop := (0 ≤ t ∧ t ≤ 7) ∧ (0 ≤ a ∧ a ≤ 100) ∧ (A 0 20 < 2 ∨ (0 ≤ b ∧ b ≤ 100)) ∧ (A 0 20 < 3 ∨ (0 ≤ c ∧ c ≤ 100)) ∧ (A 0 20 < 4 ∨ (0 ≤ d ∧ d ≤ 100))
def gvn (A : Nat → Nat → Int) (a b c d : Int) (m : Nat) : Int := if (m : Int) < A 0 20 then v4 a b c d m else 0
def thA (A : Nat → Nat → Int) (t a b c d : Int) : Nat → Nat → Int := fun x y => if x = 16 ∧ y = t.toNat then 1 else if x = 17 ∧ 4 * t.toNat ≤ y ∧ y < 4 * t.toNat + 4 then gvn A a b c d (y - 4 * t.toNat) else A x y
theorem thing_no {A : Nat → Nat → Int} {t a b c d : Int} {B : Nat → Nat → Int} {v : Int} (h : (thOK A t a b c d → B = thA A t a b c d ∧ v = 1) ∧ (¬ thOK A t a b c d → B = A ∧ v = 0)) : (thOK A t a b c d ∧ B = thA A t a b c d ∧ v = 1) ∨ (¬ thOK A t a b c d ∧ B = A ∧ v = 0) := by
  by_cases q : thOK A t a b c d
  · exact Or.inl ⟨q, h.1 q⟩
  · exact Or.inr ⟨q, h.2 q⟩
/-- what a thing told changes, and the answer -/
def QT (A : Nat → Nat → Int) (t a b c d : Int) (B : Nat → Nat → Int) (v : Int) : Prop := (thOK A t a b c d ∧ B = thA A t a b c d ∧ v = 1) ∨ (¬ thOK A t a b c d ∧ B = A ∧ v = 0)
theorem qt_fun {A : Nat → Nat → Int} {t a b c d : Int} {B C : Nat → Nat → Int} {v w : Int} (h : QT A t a b c d B v) (g : QT A t a b c d C w) : B = C ∧ v = w := by
  rcases h with ⟨p, q, r⟩ | ⟨p, q, r⟩ <;> rcases g with ⟨p', q', r'⟩ | ⟨p', q', r'⟩
  · exact ⟨q.trans q'.symm, r.trans r'.symm⟩
  · exact absurd p p'
  · exact absurd p' p
  · exact ⟨q.trans q'.symm, r.trans r'.symm⟩
theorem wall_thing {A : Nat → Nat → Int} (h : Wall A) {t a b c d : Int} (q : thOK A t a b c d) : Wall (thA A t a b c d) := by
  have ot : ∀ x y, x ≠ 16 → x ≠ 17 → thA A t a b c d x y = A x y := fun x y g1 g2 => by unfold thA; rw [if_neg (by omega), if_neg (by omega)]
  have gb : ∀ m, m < 4 → 0 ≤ gvn A a b c d m ∧ gvn A a b c d m ≤ 100 := by
    obtain ⟨q1, q2, q3, q4, q5⟩ := q
    intro m hm
    unfold gvn
    split
    · have hk := h.1.1
      unfold v4
      rcases (show m = 0 ∨ m = 1 ∨ m = 2 ∨ m = 3 by omega) with e | e | e | e <;> subst e <;> simp <;> omega
    · omega
  obtain ⟨h1, h2⟩ := h
  refine ⟨⟨h1.1, fun u hu => ?_, fun u m hu hm => ?_, h1.2.2.2⟩, h2⟩
  · show thA A t a b c d 16 u = 0 ∨ thA A t a b c d 16 u = 1
    unfold thA
    split
    · exact Or.inr rfl
    · rw [if_neg (by omega)]; exact h1.2.1 u hu
  · show 0 ≤ thA A t a b c d 17 (4 * u + m) ∧ thA A t a b c d 17 (4 * u + m) ≤ 100
    unfold thA
    rw [if_neg (by omega)]
    split
    · exact gb _ (by omega)
    · exact h1.2.2.1 u m hu hm
theorem s_th3 {ζ : ZS} {k : Int} {t : Nat} {c d zs0 zs1 : Int} (hk : ζ.1 0 20 = k) (hk4 : 1 ≤ k ∧ k ≤ 4) (ht : t < 8) (h1 : zs1 = ((4 * t + 1 : Nat) : Int)) : g_X12_thing_133 (t : Int) c d zs0 zs1 17 ζ = some (1, zI (zI (zI ζ 17 (4 * t + 1) zs0) 17 (4 * t + 2) (if k < 3 then 0 else c)) 17 (4 * t + 3) (if k < 4 then 0 else d)) := by
  subst h1
  apply ok_eq
  have l17 : ln 17 = 32 := rfl
  have rd : ∀ (ζ1 : ZS) (p : Nat) (v : Int), (zI ζ1 17 p v).1 0 20 = ζ1.1 0 20 := fun ζ1 p v => by rw [zI_1, if_neg (by omega)]
  unfold g_X12_thing_133 g_X12_thing_157 g_X12_thing_181
  rw [l17]
  simp only [rd, hk]
  rw [show Int.toNat ((4 * t + 1 : Nat) : Int) = 4 * t + 1 by omega, show Int.toNat (4 * (t : Int) + 2) = 4 * t + 2 by omega, show Int.toNat (4 * (t : Int) + 3) = 4 * t + 3 by omega]
  refine ok_gk (by omega) (by omega) (ok_gI (by omega) (by omega) (by omega) (by omega) (fun g => ?_) (fun g => ?_))
  · rw [if_neg (by omega)]
    refine ok_gk (by omega) (by omega) (ok_gI (by omega) (by omega) (by omega) (by omega) (fun g => ?_) (fun g => ?_))
    · rw [if_neg (by omega)]; exact ok_gk (by omega) (by omega) (ok_some rfl)
    · rw [if_pos (by omega)]; exact ok_gk (by omega) (by omega) (ok_some rfl)
  · rw [if_pos (by omega)]
    refine ok_gk (by omega) (by omega) (ok_gI (by omega) (by omega) (by omega) (by omega) (fun g => ?_) (fun g => ?_))
    · rw [if_neg (by omega)]; exact ok_gk (by omega) (by omega) (ok_some rfl)
    · rw [if_pos (by omega)]; exact ok_gk (by omega) (by omega) (ok_some rfl)
theorem bd_dec {a lo hi : Int} {X : Prop} (h : (decide (lo ≤ a) && decide (a ≤ hi)) = false → X) (h2 : (decide (lo ≤ a) && decide (a ≤ hi)) = true → X) : X := by
  cases e : (decide (lo ≤ a) && decide (a ≤ hi)) with
  | true => exact h2 e
  | false => exact h e
theorem bd_f {a lo hi : Int} (e : (decide (lo ≤ a) && decide (a ≤ hi)) = false) : ¬ (lo ≤ a ∧ a ≤ hi) := fun q => by rw [decide_eq_true q.1, decide_eq_true q.2] at e; cases e
theorem bd_t {a lo hi : Int} (e : (decide (lo ≤ a) && decide (a ≤ hi)) = true) : lo ≤ a ∧ a ≤ hi := by simp only [Bool.and_eq_true, decide_eq_true_eq] at e; exact e
theorem a_thing {A : Nat → Nat → Int} {ζ : ZS} (h : Rf A ζ) (hW : Wall A) {t a b c d : Int} (ht : r32 t) (ha : r32 a) (hb : r32 b) (hc : r32 c) (hd : r32 d) : Ok (g_X12_thing t a b c d ζ) (fun r => ∃ B, QT A t a b c d B r.1 ∧ RP B ζ (fun _ => True) r) := by
  have f0 : Fx (fun x _ => x < 25 ∧ x ≠ 5) ζ (zI ζ 0 0 0) := fx_I (fx_refl _ _) (by decide)
  have h0 := rf_0 h 0
  have hk := hW.1.1
  have e20 : (zI ζ 0 0 0).1 0 20 = A 0 20 := rf_k h0
  unfold g_X12_thing g_X12_thing_43
  generalize zI ζ 0 0 0 = ζ0 at f0 h0 e20 ⊢
  have no : ¬ thOK A t a b c d → Ok (some ((0 : Int), ζ0)) (fun r => ∃ B, QT A t a b c d B r.1 ∧ RP B ζ (fun _ => True) r) := fun g => ok_some ⟨A, Or.inr ⟨g, rfl, rfl⟩, trivial, h0, f0⟩
  have yes : thOK A t a b c d → Ok (g_X12_thing_95 t a b c d ζ0) (fun r => ∃ B, QT A t a b c d B r.1 ∧ RP B ζ (fun _ => True) r) := by
    intro q
    obtain ⟨T, hT⟩ : ∃ T : Nat, t = T := ⟨t.toNat, by have := q.1; omega⟩
    subst hT
    have hT8 : T < 8 := by have := q.1; omega
    have e20' : (zI (zI ζ0 16 (Int.toNat (T : Int)) 1) 17 (4 * T) a).1 0 20 = A 0 20 := by rw [zI_1, if_neg (by omega), zI_1, if_neg (by omega)]; exact e20
    unfold g_X12_thing_95
    rw [zand11, show Int.toNat (4 * (T : Int)) = 4 * T by omega, e20']
    have fin : ∀ b', b' = (if A 0 20 < 2 then 0 else b) → Ok (g_X12_thing_133 (T : Int) c d b' (4 * (T : Int) + 1) 17 (zI (zI ζ0 16 (Int.toNat (T : Int)) 1) 17 (4 * T) a)) (fun r => ∃ B, QT A T a b c d B r.1 ∧ RP B ζ (fun _ => True) r) := by
      intro b' hb'
      rw [s_th3 e20' hk hT8 (by omega)]
      refine ok_some ⟨_, Or.inl ⟨q, rfl, rfl⟩, trivial, fun x y hp => ?_, fx_I (fx_I (fx_I (fx_I (fx_I f0 (show 16 < 25 ∧ 16 ≠ 5 by decide)) (show 17 < 25 ∧ 17 ≠ 5 by decide)) (show 17 < 25 ∧ 17 ≠ 5 by decide)) (show 17 < 25 ∧ 17 ≠ 5 by decide)) (show 17 < 25 ∧ 17 ≠ 5 by decide)⟩
      have e32 : thA A T a b c d 0 32 = A 0 32 := rfl
      have hp' : psl A x y := by unfold psl at hp ⊢; rw [e32] at hp; exact hp
      show (zI (zI (zI (zI (zI ζ0 16 (Int.toNat (T : Int)) 1) 17 (4 * T) a) 17 (4 * T + 1) b') 17 (4 * T + 2) _) 17 (4 * T + 3) _).1 x y = _
      rw [zI_1, zI_1, zI_1, zI_1, zI_1, h0 x y hp', show Int.toNat (T : Int) = T by omega]
      unfold thA
      rw [show Int.toNat (T : Int) = T by omega]
      by_cases g16 : x = 16 ∧ y = T
      · rw [if_neg (by omega), if_neg (by omega), if_neg (by omega), if_neg (by omega), if_pos g16, if_pos g16]
      · rw [if_neg g16, if_neg g16]
        by_cases g17 : x = 17 ∧ 4 * T ≤ y ∧ y < 4 * T + 4
        · rw [if_pos g17]
          obtain ⟨g1, g2, g3⟩ := g17
          subst g1
          unfold gvn v4
          rcases (show y = 4 * T ∨ y = 4 * T + 1 ∨ y = 4 * T + 2 ∨ y = 4 * T + 3 by omega) with e | e | e | e
          · rw [if_neg (by omega), if_neg (by omega), if_neg (by omega), if_pos ⟨rfl, e⟩, show y - 4 * T = 0 by omega, if_pos (by omega), if_pos rfl]
          · rw [if_neg (by omega), if_neg (by omega), if_pos ⟨rfl, e⟩, show y - 4 * T = 1 by omega, hb']
            by_cases g : A 0 20 < 2
            · rw [if_pos g, if_neg (by omega)]
            · rw [if_neg g, if_pos (by omega)]; rfl
          · rw [if_neg (by omega), if_pos ⟨rfl, e⟩, show y - 4 * T = 2 by omega]
            by_cases g : A 0 20 < 3
            · rw [if_pos g, if_neg (by omega)]
            · rw [if_neg g, if_pos (by omega)]; rfl
          · rw [if_pos ⟨rfl, e⟩, show y - 4 * T = 3 by omega]
            by_cases g : A 0 20 < 4
            · rw [if_pos g, if_neg (by omega)]
            · rw [if_neg g, if_pos (by omega)]; rfl
        · rw [if_neg g17, if_neg (by omega), if_neg (by omega), if_neg (by omega), if_neg (by omega)]
    refine ok_gk (by omega) (by omega) (ok_gk (by omega) (by omega) (ok_gI (by omega) (by omega) (by omega) (by omega) (fun g => fin b (by rw [if_neg (by omega)])) (fun g => fin 0 (by rw [if_pos (by omega)]))))
  have st74 : (0 ≤ t ∧ t ≤ 7) ∧ (0 ≤ a ∧ a ≤ 100) ∧ (A 0 20 < 2 ∨ (0 ≤ b ∧ b ≤ 100)) ∧ (A 0 20 < 3 ∨ (0 ≤ c ∧ c ≤ 100)) → Ok (g_X12_thing_74 t a b c d ζ0) (fun r => ∃ B, QT A t a b c d B r.1 ∧ RP B ζ (fun _ => True) r) := by
    intro q
    unfold g_X12_thing_74 g_X12_thing_93
    rw [e20]
    refine ok_gI (by omega) (by omega) (by omega) (by omega) (fun g => yes (by unfold thOK; omega)) (fun g => ok_beq (s_within _ hd (by omega) (by omega)) (ok_bi (fun e => no (fun z => ?_)) (fun e => yes ?_)))
    · have := bd_f e; unfold thOK at z; omega
    · have := bd_t e; unfold thOK; omega
  have st48 : (0 ≤ t ∧ t ≤ 7) ∧ (0 ≤ a ∧ a ≤ 100) ∧ (A 0 20 < 2 ∨ (0 ≤ b ∧ b ≤ 100)) → Ok (g_X12_thing_48 t a b c d 1 ζ0) (fun r => ∃ B, QT A t a b c d B r.1 ∧ RP B ζ (fun _ => True) r) := by
    intro q
    unfold g_X12_thing_48 g_X12_thing_93
    rw [e20]
    refine ok_gI (by omega) (by omega) (by omega) (by omega) (fun g => absurd g (by omega)) (fun _ => ok_gI (by omega) (by omega) (by omega) (by omega) (fun g => st74 (by omega)) (fun g => ok_beq (s_within _ hc (by omega) (by omega)) (ok_bi (fun e => no (fun z => ?_)) (fun e => st74 ?_))))
    · have := bd_f e; unfold thOK at z; omega
    · have := bd_t e; omega
  have no47 : ¬ thOK A t a b c d → Ok (g_X12_thing_47 t a b c d ζ0) (fun r => ∃ B, QT A t a b c d B r.1 ∧ RP B ζ (fun _ => True) r) := by
    intro q
    unfold g_X12_thing_47 g_X12_thing_48 g_X12_thing_93
    exact ok_gI (by omega) (by omega) (by omega) (by omega) (fun g => no q) (fun g => absurd rfl g)
  refine ok_beq (s_within _ ht (by omega) (by omega)) (ok_bi (fun e => ?_) (fun e => ok_beq (s_within _ ha (by omega) (by omega)) (ok_bi (fun e2 => ?_) (fun e2 => ?_))))
  · exact no47 (fun z => by have := bd_f e; unfold thOK at z; omega)
  · exact no47 (fun z => by have := bd_f e2; unfold thOK at z; omega)
  · have t1 := bd_t e
    have t2 := bd_t e2
    refine ok_gI (by rw [e20]; omega) (by rw [e20]; omega) (by omega) (by omega) (fun g => st48 (by rw [e20] at g; omega)) (fun g => ok_beq (s_within _ hb (by omega) (by omega)) (ok_bi (fun e3 => no47 (fun z => ?_)) (fun e3 => st48 ?_)))
    · have := bd_f e3; rw [e20] at g; unfold thOK at z; omega
    · have := bd_t e3; omega
/-! the class -/
def gok (A : Nat → Nat → Int) (a b c d most : Int) : Prop := ∀ m : Nat, m < 4 → (m : Int) < A 0 20 → 0 ≤ v4 a b c d m ∧ v4 a b c d m ≤ most
theorem s_takeGiven {A : Nat → Nat → Int} {ζ : ZS} {a b c d most : Int} (hk : ζ.1 26 16 = A 0 20) (hk4 : 1 ≤ A 0 20 ∧ A 0 20 ≤ 4) (ha : r32 a) (hb : r32 b) (hc : r32 c) (hd : r32 d) (hm : r32 most) : Ok (g_X11_takeGiven a b c d most ζ) (fun r => Fx (We 146) ζ r.2 ∧ ((r.1 = 1 ∧ gok A a b c d most ∧ ∀ m, m < 4 → r.2.1 146 m = gvn A a b c d m) ∨ (r.1 = 0 ∧ ¬ gok A a b c d most))) := by
  have vr : ∀ m, m < 4 → r32 (v4 a b c d m) := by
    intro m hm
    unfold v4
    rcases (show m = 0 ∨ m = 1 ∨ m = 2 ∨ m = 3 by omega) with e | e | e | e <;> subst e
    · exact ha
    · exact hb
    · exact hc
    · exact hd
  have key : ∀ (n : Nat) (w : Int) (j : Nat) (ζ1 : ZS), w = j → j ≤ 4 → 4 - j < n → Fx (We 146) ζ ζ1 → (∀ m, m < j → m < 4 → ζ1.1 146 m = gvn A a b c d m) → (∀ m, j ≤ m → m < 4 → ζ1.1 146 m = v4 a b c d m) → (∀ m : Nat, m < j → (m : Int) < A 0 20 → 0 ≤ v4 a b c d m ∧ v4 a b c d m ≤ most) → Ok (g_X11_takeGiven_32 most n w ζ1) (fun r => Fx (We 146) ζ r.2 ∧ ((r.1 = 1 ∧ gok A a b c d most ∧ ∀ m, m < 4 → r.2.1 146 m = gvn A a b c d m) ∨ (r.1 = 0 ∧ ¬ gok A a b c d most))) := by
    intro n
    induction n with
    | zero => intro _ _ _ _ _ h; omega
    | succ n ih =>
      intro w j ζ1 hw hj hn hf h1 h2 h3
      subst hw
      unfold g_X11_takeGiven_32 g_X11_takeGiven_80 g_X11_takeGiven_82
      have ek : ζ1.1 26 16 = A 0 20 := by rw [(hf.1 26 16 (by unfold We; omega)).1]; exact hk
      rw [ek]
      refine ok_gI (by omega) (by omega) (by omega) (by omega) (fun g => ok_some ⟨hf, Or.inl ⟨rfl, fun m q1 q2 => h3 m (by omega) q2, fun m q => h1 m (by omega) q⟩⟩) (fun g => ?_)
      rw [show Int.toNat (j : Int) = j by omega]
      have v := vr j (by omega)
      refine ok_gI (by omega) (by omega) (by omega) (by omega) (fun g2 => ?_) (fun g2 => ?_)
      · rw [h2 j (by omega) (by omega)]
        refine ok_gk (by omega) (by omega) (ok_gI v.1 v.2 (by omega) (by omega) (fun g3 => ok_some ⟨hf, Or.inr ⟨rfl, fun q => ?_⟩⟩) (fun g3 => ok_gk (by omega) (by omega) (ok_gI v.1 v.2 hm.1 hm.2 (fun g4 => ?_) (fun g4 => ok_some ⟨hf, Or.inr ⟨rfl, fun q => ?_⟩⟩))))
        · have := q j (by omega) g2; omega
        · refine ih _ (j + 1) ζ1 (by omega) (by omega) (by omega) hf (fun m q1 q2 => ?_) (fun m q1 q2 => h2 m (by omega) q2) (fun m q1 q2 => ?_)
          · by_cases e : m = j
            · subst e; rw [h2 m (by omega) q2]; unfold gvn; rw [if_pos g2]
            · exact h1 m (by omega) q2
          · by_cases e : m = j
            · subst e; omega
            · exact h3 m (by omega) q2
        · have := q j (by omega) g2; omega
      · refine ok_gk (by omega) (by omega) (ih _ (j + 1) _ (by omega) (by omega) (by omega) (fx_I hf rfl) (fun m q1 q2 => ?_) (fun m q1 q2 => ?_) (fun m q1 q2 => ?_))
        · rw [zI_1]
          by_cases e : m = j
          · subst e; rw [if_pos ⟨rfl, rfl⟩]; unfold gvn; rw [if_neg g2]
          · rw [if_neg (by omega)]; exact h1 m (by omega) q2
        · rw [zI_1, if_neg (by omega)]; exact h2 m (by omega) q2
        · by_cases e : m = j
          · subst e; omega
          · exact h3 m (by omega) q2
  unfold g_X11_takeGiven
  have t0 : Int.toNat 0 = 0 := rfl
  have t1 : Int.toNat 1 = 1 := rfl
  have t2 : Int.toNat 2 = 2 := rfl
  have t3 : Int.toNat 3 = 3 := rfl
  rw [t0, t1, t2, t3]
  refine ok_gk (by omega) (by omega) (ok_gk (by omega) (by omega) (ok_gk (by omega) (by omega) (ok_gk (by omega) (by omega) (key FU 0 0 _ rfl (by omega) (by rw [FU_e]; omega) (fx_I (fx_I (fx_I (fx_I (fx_refl _ _) rfl) rfl) rfl) rfl) (fun m q => by omega) (fun m _ q2 => ?_) (fun m q => by omega)))))
  rw [zI_1, zI_1, zI_1, zI_1]
  unfold v4
  rcases (show m = 0 ∨ m = 1 ∨ m = 2 ∨ m = 3 by omega) with e | e | e | e <;> subst e <;> simp
theorem gok_th {A : Nat → Nat → Int} {t a b c d : Int} (hk : 1 ≤ A 0 20 ∧ A 0 20 ≤ 4) (ht : 0 ≤ t ∧ t ≤ 7) : gok A a b c d 100 ↔ thOK A t a b c d := by
  unfold gok thOK v4
  constructor
  · intro h
    have h0 := h 0 (by omega) (by omega)
    have h1 := h 1 (by omega)
    have h2 := h 2 (by omega)
    have h3 := h 3 (by omega)
    simp at h0 h1 h2 h3
    omega
  · intro h m hm hmk
    rcases (show m = 0 ∨ m = 1 ∨ m = 2 ∨ m = 3 by omega) with e | e | e | e <;> subst e <;> simp <;> omega
theorem s_tell {ζ : ZS} {t : Nat} {z : Int} (hz : z = t) (ht : t < 8) : Ok (g_X9_tell z 146 ζ) (fun ζ' => (∀ x y, ζ'.1 x y = if x = 30 ∧ y = 3 then zor (ζ.1 30 3) (zshl 1 (t : Int)) else if x = 32 + t ∧ y < 4 then ζ.1 146 y else ζ.1 x y) ∧ ζ'.2 = ζ.2) := by
  subst hz
  have l146 : ln 146 = 4 := rfl
  have key : ∀ (n : Nat) (w : Int) (j : Nat) (ζ1 : ZS), w = j → j ≤ 4 → 4 - j < n → (∀ x y, ζ1.1 x y = if x = 32 + t ∧ y < j then ζ.1 146 y else ζ.1 x y) → ζ1.2 = ζ.2 → Ok (g_X9_tell_2 (t : Int) 146 n w ζ1) (fun ζ' => (∀ x y, ζ'.1 x y = if x = 30 ∧ y = 3 then zor (ζ.1 30 3) (zshl 1 (t : Int)) else if x = 32 + t ∧ y < 4 then ζ.1 146 y else ζ.1 x y) ∧ ζ'.2 = ζ.2) := by
    intro n
    induction n with
    | zero => intro _ _ _ _ _ h; omega
    | succ n ih =>
      intro w j ζ1 hw hj hn h1 h2
      subst hw
      unfold g_X9_tell_2
      rw [l146]
      refine ok_gI (by omega) (by omega) (by omega) (by omega) (fun g => ok_some ⟨fun x y => ?_, h2⟩) (fun g => ?_)
      · rw [zI_1, h1 x y, h1 30 3, if_neg (show ¬ (30 = 32 + t ∧ 3 < j) by omega), show j = 4 by omega]
      · refine ok_gk (by omega) (by omega) (ok_gk (by omega) (by omega) (ok_gk (by omega) (by omega) (ih _ (j + 1) _ (by omega) (by omega) (by omega) (fun x y => ?_) h2)))
        rw [zI_1, show Int.toNat (j : Int) = j by omega, show 31 + 1 + Int.toNat (t : Int) = 32 + t by omega, h1 146 j, if_neg (show ¬ (146 = 32 + t ∧ j < j) by omega), h1 x y]
        by_cases e : x = 32 + t ∧ y = j
        · rw [if_pos e, if_pos ⟨e.1, by omega⟩, e.2]
        · rw [if_neg e]
          repeat' split
          all_goals first | rfl | (exfalso; omega)
  unfold g_X9_tell
  exact key FU 0 0 ζ rfl (by omega) (by rw [FU_e]; omega) (fun x y => by rw [if_neg (by omega)]) rfl
theorem cls_146 {A : Nat → Nat → Int} {ζ ζ' : ZS} (hs : Ws A) (h : Cls A ζ) (hf : Fx Wsc ζ ζ') : Cls A ζ' := by
  have e18 : ζ'.1 26 18 = ζ.1 26 18 := (hf.1 26 18 (by unfold Wsc; omega)).1
  rcases h.2.1 with g | g
  · exact cf_cls (cf_sc hs ⟨h.1, h.2.2 g, g⟩ hf)
  · exact cls_stale (cr_fx h.1 ⟨by rw [hf.2], by rw [hf.2]⟩ (fun x y q => (hf.1 x y (by unfold Wsc; omega)).1)) (by rw [e18]; exact g)
theorem b_thing {A : Nat → Nat → Int} {ζ : ZS} (h : Cls A ζ) (hW : Wall A) {t a b c d : Int} (ht : r32 t) (ha : r32 a) (hb : r32 b) (hc : r32 c) (hd : r32 d) : Ok (g_X11_thing t a b c d ζ) (fun r => ∃ B, QT A t a b c d B r.1 ∧ CP B ζ (fun _ => True) r) := by
  have hk := hW.1.1
  unfold g_X11_thing g_X11_thing_25
  have no : ∀ ζ1, Fx (We 146) ζ ζ1 → ¬ thOK A t a b c d → Ok (some ((0 : Int), ζ1)) (fun r => ∃ B, QT A t a b c d B r.1 ∧ CP B ζ (fun _ => True) r) := fun ζ1 f g => by
    have f' : Fx Wsc ζ ζ1 := fx_mono f (fun x y q => by unfold We at q; unfold Wsc; omega)
    exact ok_some ⟨A, Or.inr ⟨g, rfl, rfl⟩, trivial, cls_146 hW.2.1 h f', wsc_26 f'⟩
  refine ok_gI ht.1 ht.2 (by omega) (by omega) (fun g => no ζ (fx_refl _ _) (fun q => by unfold thOK at q; omega)) (fun g => ok_gI (by omega) (by omega) ht.1 ht.2 (fun g2 => no ζ (fx_refl _ _) (fun q => by unfold thOK at q; omega)) (fun g2 => ?_))
  refine ok_bind (s_takeGiven h.1.2.2.1 hk ha hb hc hd (by omega)) (fun r ⟨f1, hr⟩ => ?_)
  rcases hr with ⟨r1, r2, r3⟩ | ⟨r1, r2⟩
  · rw [r1]
    refine ok_gI (by omega) (by omega) (by omega) (by omega) (fun q => absurd q (by omega)) (fun _ => ?_)
    have tok := (gok_th hk (t := t) (by omega)).mp r2
    obtain ⟨T, hT⟩ : ∃ T : Nat, t = T := ⟨t.toNat, by omega⟩
    subst hT
    refine ok_bind (s_tell rfl (by omega)) (fun q ⟨e1, e2⟩ => ok_some ⟨thA A T a b c d, Or.inl ⟨tok, rfl, rfl⟩, trivial, ?_, ?_⟩)
    · have E : ∀ x y, (zI q 26 18 1).1 x y = if x = 26 ∧ y = 18 then 1 else if x = 30 ∧ y = 3 then zor (ζ.1 30 3) (zshl 1 (T : Int)) else if x = 32 + T ∧ y < 4 then r.2.1 146 y else r.2.1 x y := fun x y => by
        rw [zI_1, e1 x y, (f1.1 30 3 (by unfold We; omega)).1]
      refine cls_stale (cr_th h.1 ?_ (fun x y g1 g2 => ?_) (fun x y g => ?_) ⟨?_, fun u m g1 g2 => ?_⟩) (by rw [E, if_pos ⟨rfl, rfl⟩])
      · show q.2.2 = ζ.2.2
        rw [e2, f1.2]
      · unfold thA; rw [if_neg (by omega), if_neg (by omega)]
      · rw [E, if_neg (by omega), if_neg (by omega), if_neg (by omega)]
        exact (f1.1 x y (by unfold We; omega)).1
      · rw [E, if_neg (by omega), if_pos ⟨rfl, rfl⟩, h.1.2.1.1, z_in (told A) (n := 8) (by omega) (by omega)]
        congr 1
        refine msk_congr (fun i hi => ?_)
        unfold told thA
        rw [show Int.toNat (T : Int) = T by omega]
        by_cases e : i = T
        · rw [if_pos ⟨rfl, e⟩]; simp [e]
        · rw [if_neg (by omega), if_neg (by omega)]; simp [e]
      · rw [E, if_neg (by omega), if_neg (by omega)]
        by_cases e : u = T
        · rw [if_pos ⟨by omega, g2⟩]
          unfold thA
          rw [if_neg (by omega), show Int.toNat (T : Int) = T by omega, if_pos (by omega), r3 m g2, show 4 * u + m - 4 * T = m by omega]
        · rw [if_neg (by omega)]
          unfold thA
          rw [if_neg (by omega), show Int.toNat (T : Int) = T by omega, if_neg (by omega), (f1.1 _ _ (by unfold We; omega)).1]; exact h.1.2.1.2 u m g1 g2
    · refine fx_trans (wsc_26 (fx_mono f1 (fun x y q => by unfold We at q; unfold Wsc; omega))) (fx_I ⟨fun x y hx => ⟨?_, by rw [e2]⟩, by rw [e2]⟩ (show 26 ≤ 26 by decide))
      have hx : ¬ 26 ≤ x := hx
      rw [e1 x y, if_neg (by omega), if_neg (by omega)]
  · rw [r1]
    exact ok_gI (by omega) (by omega) (by omega) (by omega) (fun q => no r.2 f1 (fun z => r2 ((gok_th hk (by omega)).mpr z))) (fun q => absurd rfl q)
