/-! weights that are given: good, fits -/
theorem gok_iff {A : Nat → Nat → Int} {a b c d M : Int} (hk : 1 ≤ A 0 20 ∧ A 0 20 ≤ 4) : gok A a b c d M ↔ ((0 ≤ a ∧ a ≤ M) ∧ (A 0 20 < 2 ∨ (0 ≤ b ∧ b ≤ M)) ∧ (A 0 20 < 3 ∨ (0 ≤ c ∧ c ≤ M)) ∧ (A 0 20 < 4 ∨ (0 ≤ d ∧ d ≤ M))) := by
  unfold gok v4
  constructor
  · intro h
    have h0 := h 0 (by omega) (by omega)
    have h1 := h 1 (by omega)
    have h2 := h 2 (by omega)
    have h3 := h 3 (by omega)
    simp at h0 h1 h2 h3
    omega
  · intro h m hm hmk
    rcases (show m = 0 ∨ m = 1 ∨ m = 2 ∨ m = 3 by omega) with e | e | e | e <;> subst e <;> simp <;> omega
theorem gvn_e {A : Nat → Nat → Int} {a b c d : Int} (hk : 1 ≤ A 0 20 ∧ A 0 20 ≤ 4) : gvn A a b c d 0 = a ∧ gvn A a b c d 1 = (if A 0 20 < 2 then 0 else b) ∧ gvn A a b c d 2 = (if A 0 20 < 3 then 0 else c) ∧ gvn A a b c d 3 = (if A 0 20 < 4 then 0 else d) := by
  unfold gvn v4
  refine ⟨by rw [if_pos (by omega)]; rfl, ?_, ?_, ?_⟩
  · by_cases g : A 0 20 < 2
    · rw [if_pos g, if_neg (by omega)]
    · rw [if_neg g, if_pos (by omega)]; rfl
  · by_cases g : A 0 20 < 3
    · rw [if_pos g, if_neg (by omega)]
    · rw [if_neg g, if_pos (by omega)]; rfl
  · by_cases g : A 0 20 < 4
    · rw [if_pos g, if_neg (by omega)]
    · rw [if_neg g, if_pos (by omega)]; rfl
def wOK (A : Nat → Nat → Int) (a b c d : Int) : Prop := gok A a b c d 999 ∧ 0 < sm4 (gvn A a b c d)
theorem gvn_bd {A : Nat → Nat → Int} {a b c d M : Int} (hM : 0 ≤ M) (h : gok A a b c d M) : ∀ m, m < 4 → 0 ≤ gvn A a b c d m ∧ gvn A a b c d m ≤ M := fun m hm => by
  unfold gvn
  split
  · exact h m hm (by assumption)
  · omega
theorem gvn_z {A : Nat → Nat → Int} {a b c d : Int} : ∀ m : Nat, A 0 20 ≤ (m : Int) → gvn A a b c d m = 0 := fun m hm => by unfold gvn; rw [if_neg (by omega)]
theorem s_areWeights {A : Nat → Nat → Int} {ζ : ZS} (h : Rf A ζ) (hk : 1 ≤ A 0 20 ∧ A 0 20 ≤ 4) {a b c d : Int} (ha : r32 a) (hb : r32 b) (hc : r32 c) (hd : r32 d) : Ok (g_X12_areWeights a b c d ζ) (fun r => r.2 = ζ ∧ ∃ p : Bool, r.1 = bi p ∧ (p = true ↔ wOK A a b c d)) := by
  have e20 : ζ.1 0 20 = A 0 20 := rf_k h
  have gi := gok_iff (A := A) (a := a) (b := b) (c := c) (d := d) (M := 999) hk
  have ge := gvn_e (A := A) (a := a) (b := b) (c := c) (d := d) hk
  have no : ¬ gok A a b c d 999 → Ok (g_X12_areWeights_85 a b c d ζ) (fun r => r.2 = ζ ∧ ∃ p : Bool, r.1 = bi p ∧ (p = true ↔ wOK A a b c d)) := fun g => by
    unfold g_X12_areWeights_85 g_X12_areWeights_86 g_X12_areWeights_144 g_X12_areWeights_145
    exact ok_gI (by omega) (by omega) (by omega) (by omega) (fun _ => ok_gz (Or.inl rfl) (ok_some ⟨rfl, false, rfl, ⟨fun q => (by cases q), fun q => absurd q.1 g⟩⟩)) (fun q => absurd rfl q)
  have s81 : gok A a b c d 999 → Ok (g_X12_areWeights_81 a b c d ζ) (fun r => r.2 = ζ ∧ ∃ p : Bool, r.1 = bi p ∧ (p = true ↔ wOK A a b c d)) := fun g => by
    have q := gi.mp g
    have fin : ∀ s1 s0 : Int, s1 + s0 = sm4 (gvn A a b c d) → -10000 ≤ s1 + s0 ∧ s1 + s0 ≤ 10000 → Ok (g_X12_areWeights_136 s0 s1 ζ) (fun r => r.2 = ζ ∧ ∃ p : Bool, r.1 = bi p ∧ (p = true ↔ wOK A a b c d)) := fun s1 s0 e1 e2 => by
      unfold g_X12_areWeights_136 g_X12_areWeights_144 g_X12_areWeights_145
      exact ok_gI (by omega) (by omega) (by omega) (by omega) (fun c => ok_gz (Or.inl rfl) (ok_some ⟨rfl, false, rfl, ⟨fun q => (by cases q), fun q => (by have := q.2; omega)⟩⟩)) (fun c => ok_gz (Or.inr rfl) (ok_some ⟨rfl, true, rfl, ⟨fun _ => ⟨g, by omega⟩, fun _ => rfl⟩⟩))
    unfold g_X12_areWeights_81 g_X12_areWeights_86 g_X12_areWeights_107 g_X12_areWeights_121
    unfold sm4 at fin
    rw [ge.1, ge.2.1, ge.2.2.1, ge.2.2.2] at fin
    rw [e20]
    refine ok_gI (by omega) (by omega) (by omega) (by omega) (fun z => absurd z (by omega)) (fun _ => ?_)
    refine ok_gI (by omega) (by omega) (by omega) (by omega) (fun g2 => ?_) (fun g2 => ?_) <;> refine ok_gI (by omega) (by omega) (by omega) (by omega) (fun g3 => ?_) (fun g3 => ?_) <;> refine ok_gI (by omega) (by omega) (by omega) (by omega) (fun g4 => ?_) (fun g4 => ?_) <;> first | (exfalso; omega) | (refine fin _ _ ?_ ?_ <;> (repeat' split) <;> omega)
  have s61 : (0 ≤ a ∧ a ≤ 999) ∧ (A 0 20 < 2 ∨ (0 ≤ b ∧ b ≤ 999)) ∧ (A 0 20 < 3 ∨ (0 ≤ c ∧ c ≤ 999)) → Ok (g_X12_areWeights_61 a b c d ζ) (fun r => r.2 = ζ ∧ ∃ p : Bool, r.1 = bi p ∧ (p = true ↔ wOK A a b c d)) := fun q => by
    unfold g_X12_areWeights_61
    rw [e20]
    refine ok_gI (by omega) (by omega) (by omega) (by omega) (fun g => s81 (gi.mpr (by omega))) (fun g => ok_beq (s_within _ hd (by omega) (by omega)) (ok_bi (fun e => no (fun z => ?_)) (fun e => s81 (gi.mpr ?_))))
    · have := bd_f e; have := gi.mp z; omega
    · have := bd_t e; omega
  have s35 : (0 ≤ a ∧ a ≤ 999) ∧ (A 0 20 < 2 ∨ (0 ≤ b ∧ b ≤ 999)) → Ok (g_X12_areWeights_30 a b c d ζ) (fun r => r.2 = ζ ∧ ∃ p : Bool, r.1 = bi p ∧ (p = true ↔ wOK A a b c d)) := fun q => by
    unfold g_X12_areWeights_30 g_X12_areWeights_35
    rw [e20]
    refine ok_gI (by omega) (by omega) (by omega) (by omega) (fun z => absurd z (by omega)) (fun _ => ok_gI (by omega) (by omega) (by omega) (by omega) (fun g => s61 (by omega)) (fun g => ok_beq (s_within _ hc (by omega) (by omega)) (ok_bi (fun e => no (fun z => ?_)) (fun e => s61 ?_))))
    · have := bd_f e; have := gi.mp z; omega
    · have := bd_t e; omega
  have n34 : ¬ gok A a b c d 999 → Ok (g_X12_areWeights_34 a b c d ζ) (fun r => r.2 = ζ ∧ ∃ p : Bool, r.1 = bi p ∧ (p = true ↔ wOK A a b c d)) := fun g => by
    unfold g_X12_areWeights_34 g_X12_areWeights_35
    exact ok_gI (by omega) (by omega) (by omega) (by omega) (fun _ => no g) (fun q => absurd rfl q)
  unfold g_X12_areWeights
  refine ok_beq (s_within _ ha (by omega) (by omega)) (ok_bi (fun e => n34 (fun z => ?_)) (fun e => ?_))
  · have := bd_f e; have := gi.mp z; omega
  · have t1 := bd_t e
    dsimp only
    rw [e20]
    refine ok_gI (by omega) (by omega) (by omega) (by omega) (fun g => s35 (by omega)) (fun g => ok_beq (s_within _ hb (by omega) (by omega)) (ok_bi (fun e3 => n34 (fun z => ?_)) (fun e3 => s35 ?_)))
    · have := bd_f e3; have := gi.mp z; omega
    · have := bd_t e3; omega
def W24 (x _y : Nat) : Prop := x = 24
theorem rf_24 {A : Nat → Nat → Int} {ζ ζ' : ZS} (h : Rf A ζ) (hf : Fx W24 ζ ζ') : Rf A ζ' := rf_fx h hf (fun c k hp => by unfold psl at hp; unfold W24; omega)
theorem s_givesWeights {A : Nat → Nat → Int} {ζ : ZS} (h : Rf A ζ) (hk : 1 ≤ A 0 20 ∧ A 0 20 ≤ 4) {a b c d : Int} (ha : r32 a) (hb : r32 b) (hc : r32 c) (hd : r32 d) : Ok (g_X12_givesWeights a b c d ζ) (fun ζ' => (∀ m, m < 4 → ζ'.2.1 24 m = gvn A a b c d m) ∧ Fx W24 ζ ζ') := by
  have e20 : ζ.1 0 20 = A 0 20 := rf_k h
  have ge := gvn_e (A := A) (a := a) (b := b) (c := c) (d := d) hk
  have l24 : ln 24 = 4 := rfl
  have t0 : Int.toNat 0 = 0 := rfl
  have t1 : Int.toNat 1 = 1 := rfl
  have t2 : Int.toNat 2 = 2 := rfl
  have t3 : Int.toNat 3 = 3 := rfl
  have fin : ∀ b' c' d', b' = gvn A a b c d 1 → c' = gvn A a b c d 2 → d' = gvn A a b c d 3 → Ok (some (zJ (zJ (zJ (zJ ζ 24 0 a) 24 1 b') 24 2 c') 24 3 d')) (fun ζ' => (∀ m, m < 4 → ζ'.2.1 24 m = gvn A a b c d m) ∧ Fx W24 ζ ζ') := fun b' c' d' e1 e2 e3 => by
    refine ok_some ⟨fun m hm => ?_, fx_J (fx_J (fx_J (fx_J (fx_refl _ _) rfl) rfl) rfl) rfl⟩
    rw [zJ_2, zJ_2, zJ_2, zJ_2]
    rcases (show m = 0 ∨ m = 1 ∨ m = 2 ∨ m = 3 by omega) with e | e | e | e <;> subst e
    · rw [if_neg (by omega), if_neg (by omega), if_neg (by omega), if_pos ⟨rfl, rfl⟩]; exact ge.1.symm
    · rw [if_neg (by omega), if_neg (by omega), if_pos ⟨rfl, rfl⟩]; exact e1
    · rw [if_neg (by omega), if_pos ⟨rfl, rfl⟩]; exact e2
    · rw [if_pos ⟨rfl, rfl⟩]; exact e3
  have g68 : ∀ b' c', b' = gvn A a b c d 1 → c' = gvn A a b c d 2 → Ok (g_X12_givesWeights_47 d c' 2 24 (zJ (zJ ζ 24 0 a) 24 1 b')) (fun ζ' => (∀ m, m < 4 → ζ'.2.1 24 m = gvn A a b c d m) ∧ Fx W24 ζ ζ') := fun b' c' e1 e2 => by
    unfold g_X12_givesWeights_47 g_X12_givesWeights_68
    rw [l24, t2, t3, show (zJ (zJ (zJ ζ 24 0 a) 24 1 b') 24 2 c').1 0 20 = A 0 20 from e20]
    exact ok_gk (by omega) (by omega) (ok_gI (by omega) (by omega) (by omega) (by omega) (fun g => ok_gw hd.1 hd.2 (ok_gk (by omega) (by omega) (fin b' c' d e1 e2 (by rw [ge.2.2.2, if_neg (by omega)])))) (fun g => ok_gk (by omega) (by omega) (fin b' c' 0 e1 e2 (by rw [ge.2.2.2, if_pos (by omega)]))))
  have g47 : ∀ b', b' = gvn A a b c d 1 → Ok (g_X12_givesWeights_27 c d b' 1 24 (zJ ζ 24 0 a)) (fun ζ' => (∀ m, m < 4 → ζ'.2.1 24 m = gvn A a b c d m) ∧ Fx W24 ζ ζ') := fun b' e1 => by
    unfold g_X12_givesWeights_27
    rw [l24, t1, show (zJ (zJ ζ 24 0 a) 24 1 b').1 0 20 = A 0 20 from e20]
    exact ok_gk (by omega) (by omega) (ok_gI (by omega) (by omega) (by omega) (by omega) (fun g => ok_gw hc.1 hc.2 (g68 b' c e1 (by rw [ge.2.2.1, if_neg (by omega)]))) (fun g => g68 b' 0 e1 (by rw [ge.2.2.1, if_pos (by omega)])))
  unfold g_X12_givesWeights
  rw [t0, show (zJ ζ 24 0 a).1 0 20 = A 0 20 from e20]
  exact ok_gw ha.1 ha.2 (ok_gk (by omega) (by omega) (ok_gI (by omega) (by omega) (by omega) (by omega) (fun g => ok_gw hb.1 hb.2 (g47 b (by rw [ge.2.1, if_neg (by omega)]))) (fun g => g47 0 (by rw [ge.2.1, if_pos (by omega)]))))
def gvv (ζ : ZS) : V4 := fun m => ζ.2.1 24 m
theorem s_goodBy {A : Nat → Nat → Int} {ζ : ZS} (h : Rf A ζ) (hw : Wa A) {t : Nat} {z : Int} (hz : z = t) (ht : t < 8) (h0 : ∀ m : Nat, m < 4 → A 0 20 ≤ (m : Int) → gvv ζ m = 0) : g_X12_goodBy z ζ = some (dt (vv A t) (gvv ζ), ζ) := by
  have qk := hw.1
  obtain ⟨k, hk⟩ : ∃ k : Nat, A 0 20 = k := ⟨(A 0 20).toNat, by omega⟩
  have e20 : ζ.1 0 20 = k := by rw [rf_k h, hk]
  have key : ∀ (n : Nat) (acc w : Int) (j : Nat), w = j → j ≤ k → k - j < n → acc = psum (fun m => gvv ζ m * vv A t m) j → g_X12_goodBy_5 z n acc w ζ = some (psum (fun m => gvv ζ m * vv A t m) k, ζ) := by
    intro n
    induction n with
    | zero => intro _ _ _ _ _ h; omega
    | succ n ih =>
      intro acc w j hwj hj hn ha
      subst hwj
      apply ok_eq
      unfold g_X12_goodBy_5
      rw [e20, show Int.toNat (j : Int) = j by omega]
      refine ok_gI (by omega) (by omega) (by omega) (by omega) (fun g => ok_some ?_) (fun g => ?_)
      · have : j = k := by omega
        subst this
        rw [ha]
      · have vb := val_bd hw ht (m := j) (by omega)
        refine ok_gk (by omega) (by omega) (ok_beq (s_valueOf h hw hz rfl ht (by omega)) (ok_gw (by dsimp only; omega) (by dsimp only; omega) (ok_of (ih _ _ (j + 1) (by omega) (by omega) (by omega) ?_))))
        rw [ha]
        rfl
  unfold g_X12_goodBy
  rw [key FU 0 0 0 rfl (by omega) (by rw [FU_e]; omega) rfl, psum_dt (by omega) (fun m g1 g2 => h0 m g2 (by omega))]
theorem s_doesFit {ζ : ZS} {k R : Nat} {ρ : Nat → V4} (hw : Rw ζ k R ρ) (hr : Rk k R ρ) (hR : R ≤ 64) (hz : ∀ m, k ≤ m → m < 4 → gvv ζ m = 0) (hb : ∀ m, m < 4 → 0 ≤ gvv ζ m ∧ gvv ζ m ≤ 6000000) : Ok (g_X12_doesFit ζ) (fun r => r.2 = ζ ∧ ∃ p : Bool, r.1 = bi p ∧ (p = true ↔ InC (Ak k R ρ) (gvv ζ))) := by
  obtain ⟨h20, h26, hrow⟩ := hw
  have k4 := hr.2.1
  have ir : InC (Ak k R ρ) (gvv ζ) ↔ ∀ b, b < R → 0 ≤ dt (ρ b) (gvv ζ) := ⟨fun g b hb => g _ (List.mem_append_right _ (mem_fl.mpr ⟨b, hb, rfl⟩)), fun g => in_rows hr hz g⟩
  have key : ∀ (n : Nat) (p : Bool) (w : Int) (b : Nat), w = b → b ≤ R → R - b < n → (p = true ↔ ∀ b', b' < b → 0 ≤ dt (ρ b') (gvv ζ)) → Ok (g_X12_doesFit_4 n (bi p) w ζ) (fun r => r.2 = ζ ∧ ∃ p : Bool, r.1 = bi p ∧ (p = true ↔ InC (Ak k R ρ) (gvv ζ))) := by
    intro n
    induction n with
    | zero => intro _ _ _ _ _ h; omega
    | succ n ih =>
      intro p w b hwb hb0 hn hp
      subst hwb
      unfold g_X12_doesFit_4
      rw [h26]
      refine ok_gI (by omega) (by omega) (by omega) (by omega) (fun g => ok_gz (bi_r p) (ok_some ⟨rfl, p, rfl, hp.trans ?_⟩)) (fun g => ?_)
      · rw [ir]
        exact ⟨fun q b' hb' => q b' (by omega), fun q b' hb' => q b' (by omega)⟩
      · have hbR : b < R := by omega
        have db := dt_bd (hr.2.2.2.2 b hbR) hb
        have inner : ∀ (m : Nat) (acc w : Int) (j : Nat), w = j → j ≤ k → k - j < m → acc = psum (fun x => rr ζ b x * gvv ζ x) j → Ok (g_X12_doesFit_17 (bi p) (b : Int) (g_X12_doesFit_4 n) m acc w ζ) (fun r => r.2 = ζ ∧ ∃ p : Bool, r.1 = bi p ∧ (p = true ↔ InC (Ak k R ρ) (gvv ζ))) := by
          intro m
          induction m with
          | zero => intro _ _ _ _ _ h; omega
          | succ m ih2 =>
            intro acc w j hwj hj hm ha
            subst hwj
            unfold g_X12_doesFit_17 g_X12_doesFit_68 g_X12_doesFit_69
            rw [h20]
            refine ok_gI (by omega) (by omega) (by omega) (by omega) (fun g1 => ?_) (fun g1 => ?_)
            · have ej : j = k := by omega
              subst ej
              rw [psum_dt' k4 (fun x g1 g2 => hz x g1 g2), dt_e4l (hrow b hbR)] at ha
              have next : ∀ p' : Bool, (p' = true ↔ ∀ b', b' < b + 1 → 0 ≤ dt (ρ b') (gvv ζ)) → Ok (g_X12_doesFit_4 n (bi p') ((b : Int) + 1) ζ) (fun r => r.2 = ζ ∧ ∃ p : Bool, r.1 = bi p ∧ (p = true ↔ InC (Ak j R ρ) (gvv ζ))) := fun p' hp' => ih p' _ (b + 1) (by omega) (by omega) (by omega) hp'
              refine ok_bi (fun e => next false ⟨fun q => (by cases q), fun q => ?_⟩) (fun e => ok_gJ (by omega) (by omega) (by omega) (by omega) (fun g2 => next false ⟨fun q => (by cases q), fun q => ?_⟩) (fun g2 => next true ⟨fun _ b' hb' => ?_, fun _ => rfl⟩))
              · rw [hp.mpr (fun b' hb' => q b' (by omega))] at e; cases e
              · have := q b (by omega); omega
              · by_cases c : b' = b
                · subst c; omega
                · exact hp.mp e b' (by omega)
            · rw [show Int.toNat (4 * (b : Int) + j) = 4 * b + j by omega, show Int.toNat (j : Int) = j by omega]
              refine ok_gk (by omega) (by omega) (ok_gk (by omega) (by omega) (ih2 _ _ (j + 1) (by omega) (by omega) (by omega) ?_))
              rw [ha]; rfl
        exact inner FU 0 0 0 rfl (by omega) (by rw [FU_e]; omega) rfl
  unfold g_X12_doesFit
  exact key FU true 0 0 rfl (by omega) (by rw [FU_e]; omega) ⟨fun _ b' hb' => by omega, fun _ => rfl⟩
/-- a fraction in lowest terms: above (what 0) or below -/
def red (a b what : Int) : Int := if what = 0 then Int.tdiv a ((Nat.gcd a.natAbs b.natAbs : Nat) : Int) else Int.tdiv b ((Nat.gcd a.natAbs b.natAbs : Nat) : Int)
def QG (A : Nat → Nat → Int) (t a b c d what v : Int) : Prop := ((thz A t = true ∧ wOK A a b c d ∧ (0 ≤ what ∧ what ≤ 1)) ∧ v = red (dt (vv A t.toNat) (gvn A a b c d)) (sm4 (gvn A a b c d)) what) ∨ (¬ (thz A t = true ∧ wOK A a b c d ∧ (0 ≤ what ∧ what ≤ 1)) ∧ v = -1)
theorem qg_fun {A : Nat → Nat → Int} {t a b c d what v w : Int} (h : QG A t a b c d what v) (g : QG A t a b c d what w) : v = w := by
  rcases h with ⟨p, q⟩ | ⟨p, q⟩ <;> rcases g with ⟨p', q'⟩ | ⟨p', q'⟩
  · exact q.trans q'.symm
  · exact absurd p p'
  · exact absurd p' p
  · omega
theorem gcd_pos {a b : Int} (hb : 0 < b) : 0 < ((Nat.gcd a.natAbs b.natAbs : Nat) : Int) := by
  have : 0 < Nat.gcd a.natAbs b.natAbs := Nat.gcd_pos_of_pos_right _ (by omega)
  omega
theorem gcd_le {a b : Int} (hb : 0 < b) : ((Nat.gcd a.natAbs b.natAbs : Nat) : Int) ≤ b := by
  have : Nat.gcd a.natAbs b.natAbs ≤ b.natAbs := Nat.gcd_le_right _ (by omega)
  omega
theorem vg_bd {A : Nat → Nat → Int} (hw : Wa A) {t : Nat} (ht : t < 8) {a b c d : Int} (h : gok A a b c d 999) : (0 ≤ dt (vv A t) (gvn A a b c d) ∧ dt (vv A t) (gvn A a b c d) ≤ 2400000000) ∧ 0 ≤ sm4 (gvn A a b c d) ∧ sm4 (gvn A a b c d) ≤ 3996 := by
  have q := gvn_bd (by omega) h
  refine ⟨vv_nn hw ht (fun m hm => ⟨(q m hm).1, by have := (q m hm).2; omega⟩), ?_⟩
  have q0 := q 0 (by omega)
  have q1 := q 1 (by omega)
  have q2 := q 2 (by omega)
  have q3 := q 3 (by omega)
  unfold sm4
  omega
theorem thz_r {A : Nat → Nat → Int} {z : Int} (h : thz A z = true) : 0 ≤ z ∧ z ≤ 7 := by
  unfold thz at h
  simp only [Bool.and_eq_true, decide_eq_true_eq] at h
  exact h.1
theorem dt_c4 {r v w : V4} (h : ∀ m, m < 4 → v m = w m) : dt r v = dt r w := by
  unfold dt
  rw [h 0 (by omega), h 1 (by omega), h 2 (by omega), h 3 (by omega)]
theorem a_good {A : Nat → Nat → Int} {ζ : ZS} (h : Rf A ζ) (hW : Wall A) {t a b c d what : Int} (ht : r32 t) (ha : r32 a) (hb : r32 b) (hc : r32 c) (hd : r32 d) (hwh : r32 what) : Ok (g_X12_good t a b c d what ζ) (RP A ζ (QG A t a b c d what)) := by
  have f0 : Fx (fun x _ => x < 25 ∧ x ≠ 5) ζ (zI ζ 0 0 0) := fx_I (fx_refl _ _) (by decide)
  have h0 := rf_0 h 0
  have hk := hW.1.1
  have t0 : Int.toNat 0 = 0 := rfl
  have t1 : Int.toNat 1 = 1 := rfl
  have t2 : Int.toNat 2 = 2 := rfl
  have t3 : Int.toNat 3 = 3 := rfl
  unfold g_X12_good g_X12_good_36 g_X12_good_111
  rw [t0, t1, t2, t3]
  refine ok_beq (s_isThing h0 hW.1 ht) (ok_bi (fun e => ok_some (rp_same h (Or.inr ⟨fun q => (by rw [e] at q; cases q.1), rfl⟩))) (fun e => ?_))
  refine ok_bind (s_areWeights h0 hk ha hb hc hd) (fun r ⟨r1, p, r2, r3⟩ => ?_)
  rw [r2, r1]
  refine ok_bi (fun e2 => ok_some (rp_same h (Or.inr ⟨fun q => (by have := r3.mpr q.2.1; rw [e2] at this; cases this), rfl⟩))) (fun e2 => ?_)
  have wk := r3.mp e2
  refine ok_beq (s_within _ hwh (by omega) (by omega)) (ok_bi (fun e3 => ok_some (rp_same h (Or.inr ⟨fun q => bd_f e3 q.2.2, rfl⟩))) (fun e3 => ?_))
  have tr := thz_r e
  refine ok_bind (s_givesWeights h0 hk ha hb hc hd) (fun ζ1 ⟨g1, f1⟩ => ?_)
  have h1 := rf_24 h0 f1
  have gz0 : ∀ m : Nat, m < 4 → A 0 20 ≤ (m : Int) → gvv ζ1 m = 0 := fun m hm hkm => by unfold gvv; rw [g1 m hm]; exact gvn_z m hkm
  refine ok_beq (s_goodBy h1 hW.1 (show t = (t.toNat : Int) by omega) (by omega) gz0) ?_
  dsimp only
  rw [g1 0 (by omega), g1 1 (by omega), g1 2 (by omega), g1 3 (by omega), dt_c4 (v := gvv ζ1) (w := gvn A a b c d) (fun m hm => g1 m hm)]
  have bb := vg_bd hW.1 (t := t.toNat) (by omega) wk.1
  have sp := wk.2
  change Ok (gk 0 4 (gk 1 4 (gk 2 4 (gk 3 4 ((g_X12_common (dt (vv A t.toNat) (gvn A a b c d)) (sm4 (gvn A a b c d)) ζ1).bind fun q11 => gI what 0 (what = 0) (gdJ (dt (vv A t.toNat) (gvn A a b c d)) q11.1 (some (Int.tdiv (dt (vv A t.toNat) (gvn A a b c d)) q11.1, q11.2))) (gdJ (sm4 (gvn A a b c d)) q11.1 (some (Int.tdiv (sm4 (gvn A a b c d)) q11.1, q11.2)))))))) _
  have gp := gcd_pos (a := dt (vv A t.toNat) (gvn A a b c d)) sp
  have gl := gcd_le (a := dt (vv A t.toNat) (gvn A a b c d)) sp
  have f2 : Fx (fun x _ => x < 25 ∧ x ≠ 5) ζ ζ1 := fx_trans f0 (fx_mono f1 (fun x y q => by unfold W24 at q; show x < 25 ∧ x ≠ 5; omega))
  refine ok_gk (by omega) (by omega) (ok_gk (by omega) (by omega) (ok_gk (by omega) (by omega) (ok_gk (by omega) (by omega) (ok_beq (s_rcd ζ1 (by omega) (by omega)) ?_))))
  refine ok_gI hwh.1 hwh.2 (by omega) (by omega) (fun g => ok_gdJ (by omega) (by omega) gp (by dsimp only; omega) (ok_some ⟨Or.inl ⟨⟨e, wk, bd_t e3⟩, ?_⟩, h1, f2⟩)) (fun g => ok_gdJ (by omega) (by omega) gp (by dsimp only; omega) (ok_some ⟨Or.inl ⟨⟨e, wk, bd_t e3⟩, ?_⟩, h1, f2⟩))
  · unfold red; rw [if_pos g]
  · unfold red; rw [if_neg g]
def QF (A : Nat → Nat → Int) (a b c d v : Int) : Prop := (wOK A a b c d ∧ ((v = 1 ∧ Sc A (hrd A) (gvn A a b c d)) ∨ (v = 0 ∧ ¬ Sc A (hrd A) (gvn A a b c d)))) ∨ (¬ wOK A a b c d ∧ v = -1)
theorem qf_fun {A : Nat → Nat → Int} {a b c d v w : Int} (h : QF A a b c d v) (g : QF A a b c d w) : v = w := by
  rcases h with ⟨p, q⟩ | ⟨p, q⟩ <;> rcases g with ⟨p', q'⟩ | ⟨p', q'⟩
  · rcases q with ⟨x, y⟩ | ⟨x, y⟩ <;> rcases q' with ⟨x', y'⟩ | ⟨x', y'⟩
    · omega
    · exact absurd y y'
    · exact absurd y' y
    · omega
  · exact absurd p p'
  · exact absurd p' p
  · omega
theorem sc_c4 {A : Nat → Nat → Int} {P : Nat → Bool} {v w : V4} (h : ∀ m, m < 4 → v m = w m) : Sc A P v ↔ Sc A P w := by
  unfold Sc
  constructor
  · rintro ⟨a, b, c⟩
    exact ⟨fun i hi => by rw [← h i hi]; exact a i hi, fun i hi hk => by rw [← h i hi]; exact b i hi hk, fun s h1 h2 => by rw [← dt_c4 h]; exact c s h1 h2⟩
  · rintro ⟨a, b, c⟩
    exact ⟨fun i hi => by rw [h i hi]; exact a i hi, fun i hi hk => by rw [h i hi]; exact b i hi hk, fun s h1 h2 => by rw [dt_c4 h]; exact c s h1 h2⟩
theorem a_fits {A : Nat → Nat → Int} {ζ : ZS} (h : Rf A ζ) (hW : Wall A) {a b c d : Int} (ha : r32 a) (hb : r32 b) (hc : r32 c) (hd : r32 d) : Ok (g_X12_fits a b c d ζ) (RP A ζ (QF A a b c d)) := by
  have f0 : Fx (fun x _ => x < 25 ∧ x ≠ 5) ζ (zI ζ 0 0 0) := fx_I (fx_refl _ _) (by decide)
  have h0 := rf_0 h 0
  have hk := hW.1.1
  obtain ⟨k, hkk⟩ : ∃ k : Nat, A 0 20 = k := ⟨(A 0 20).toNat, by omega⟩
  unfold g_X12_fits g_X12_fits_48
  refine ok_bind (s_areWeights h0 hk ha hb hc hd) (fun r ⟨r1, p, r2, r3⟩ => ?_)
  rw [r2, r1]
  refine ok_bi (fun e2 => ok_some (rp_same h (Or.inr ⟨fun q => (by have := r3.mpr q; rw [e2] at this; cases this), rfl⟩))) (fun e2 => ?_)
  have wk := r3.mp e2
  refine ok_beq (s_heard h0 hW.2.1 hW.2.2.1) (ok_bind (s_laysRows h0 hW.1 hW.2.1 hkk rfl) (fun ζ1 ⟨R, ρ, g1, g2, g3, g4, f1⟩ => ?_))
  have h1 := rf_Wr h0 f1
  refine ok_bind (s_givesWeights h1 hk ha hb hc hd) (fun ζ2 ⟨w1, f2⟩ => ?_)
  have h2 := rf_24 h1 f2
  have rw2 : Rw ζ2 k R ρ := ⟨by rw [(f2.1 0 20 (by unfold W24; omega)).1]; exact g1.1, by rw [(f2.1 0 26 (by unfold W24; omega)).1]; exact g1.2.1, fun b hb m hm => by unfold rr; rw [(f2.1 19 _ (by unfold W24; omega)).2]; exact g1.2.2 b hb m hm⟩
  have gb := gvn_bd (by omega) wk.1
  have kk := g2.2.1
  refine ok_bind (s_doesFit rw2 g2 (by omega) (fun m m1 m2 => by unfold gvv; rw [w1 m m2]; exact gvn_z m (by omega)) (fun m hm => by unfold gvv; rw [w1 m hm]; have := gb m hm; omega)) (fun q ⟨q1, pp, q2, q3⟩ => ?_)
  rw [q2, q1]
  have f3 : Fx (fun x _ => x < 25 ∧ x ≠ 5) ζ ζ2 := fx_trans f0 (fx_trans (fx_mono f1 (fun x y q => by unfold Wr at q; show x < 25 ∧ x ≠ 5; omega)) (fx_mono f2 (fun x y q => by unfold W24 at q; show x < 25 ∧ x ≠ 5; omega)))
  have es : InC (Ak k R ρ) (gvv ζ2) ↔ Sc A (hrd A) (gvn A a b c d) := (g4 _).trans (sc_c4 (fun m hm => w1 m hm))
  refine ok_bi (fun e => ok_some ⟨Or.inl ⟨wk, Or.inr ⟨rfl, fun z => ?_⟩⟩, h2, f3⟩) (fun e => ok_some ⟨Or.inl ⟨wk, Or.inl ⟨rfl, es.mp (q3.mp e)⟩⟩, h2, f3⟩)
  rw [q3.mpr (es.mpr z)] at e; cases e
