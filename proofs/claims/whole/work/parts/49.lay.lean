/-! the reference: the rows of a set of sayings, its corners -/
theorem int_msk {a : Int} {n : Nat} (h0 : 0 ≤ a) (h1 : a < ((2 ^ n : Nat) : Int)) : a = ((msk (fun i => a.toNat.testBit i) n : Nat) : Int) := by
  have := msk_of (a := a.toNat) (n := n) (p := fun i => a.toNat.testBit i) (by omega) (fun i _ => rfl)
  omega
theorem rf_Wr {A : Nat → Nat → Int} {ζ ζ' : ZS} (h : Rf A ζ) (hf : Fx Wr ζ ζ') : Rf A ζ' := rf_fx h hf (fun c k hp => by unfold psl at hp; unfold Wr; omega)
theorem rf_Wl {A : Nat → Nat → Int} {ζ ζ' : ZS} {lv : Nat} (h : Rf A ζ) (hf : Fx (Wl lv) ζ ζ') : Rf A ζ' := rf_fx h hf (fun c k hp => by unfold psl at hp; unfold Wl; omega)
theorem inc_un {k : Nat} (h1 : 1 ≤ k) (h4 : k ≤ 4) {w : V4} : InC (Ak k k un) w ↔ (∀ i, i < 4 → 0 ≤ w i) ∧ ∀ i, i < 4 → k ≤ i → w i = 0 := by
  constructor
  · exact fun h => ⟨Ak_pos w h, Ak_zero h⟩
  · rintro ⟨p, z⟩
    refine in_rows (Rk_whole h1 h4) (fun m g1 g2 => z m g2 g1) (fun b hb => ?_)
    rw [dt_un (by omega)]; exact p b (by omega)
theorem inc_rx {k R : Nat} {ρ : Nat → V4} {r w : V4} : InC (Ak k (R + 1) (rx R ρ r)) w ↔ (InC (Ak k R ρ) w ∧ 0 ≤ dt r w) := by
  rw [← Ak_rx]
  constructor
  · exact fun h => ⟨InC_tail h, h r (by simp)⟩
  · rintro ⟨h, h0⟩ a ha
    rcases List.mem_cons.mp ha with e | ha
    · rw [e]; exact h0
    · exact h a ha
theorem s_beginsRows {ζ : ZS} {k : Nat} (hk : ζ.1 0 20 = k) (h1 : 1 ≤ k) (h4 : k ≤ 4) : Ok (g_X12_beginsRows ζ) (fun ζ' => Rw ζ' k k un ∧ Fx Wr ζ ζ') := by
  have key : ∀ (n : Nat) (y : Int) (j : Nat) (ζ1 : ZS), y = j → j ≤ k → k - j < n → Rw ζ1 k j un → Fx Wr ζ ζ1 → Ok (g_X12_beginsRows_7 n y ζ1) (fun ζ' => Rw ζ' k k un ∧ Fx Wr ζ ζ') := by
    intro n
    induction n with
    | zero => intro _ _ _ _ _ h; omega
    | succ n ih =>
      intro y j ζ1 hy hj hn hr hf
      subst hy
      unfold g_X12_beginsRows_7
      rw [hr.1]
      refine ok_gI (by omega) (by omega) (by omega) (by omega) (fun h => ?_) (fun h => ?_)
      · rw [show j = k by omega] at hr
        exact ok_some ⟨hr, hf⟩
      · refine ok_beq (s_one ζ1 (by omega) (by omega)) (ok_beq (s_one ζ1 (by omega) (by omega)) (ok_beq (s_one ζ1 (by omega) (by omega)) (ok_beq (s_one ζ1 (by omega) (by omega)) ?_)))
        refine ok_bind (s_addsRow ζ1 hr (by omega)) (fun ζ2 h2 => ih _ (j + 1) ζ2 (by omega) (by omega) (by omega) ⟨h2.1.1, h2.1.2.1, fun b hb m hm => ?_⟩ (fx_trans hf h2.2))
        rw [h2.1.2.2 b hb m hm]
        unfold rx
        by_cases e : b = j
        · subst e
          rw [if_pos rfl]
          revert m
          refine four ?_ ?_ ?_ ?_
          · exact ife (c := 0) (x := 0) (n := 1) rfl
          · exact ife (c := 1) (x := 1) (n := 1) rfl
          · exact ife (c := 2) (x := 2) (n := 1) rfl
          · exact ife (c := 3) (x := 3) (n := 1) rfl
        · rw [if_neg e]
  unfold g_X12_beginsRows
  refine key FU 0 0 _ rfl (by omega) (by rw [FU_e]; omega) ⟨?_, ?_, fun b hb => by omega⟩ (fx_I (fx_refl _ _) (by unfold Wr; omega))
  · rw [zI_1, if_neg (by omega)]; exact hk
  · rw [zI_1, if_pos ⟨rfl, rfl⟩]; rfl
theorem s_laysRows {A : Nat → Nat → Int} {ζ : ZS} (h : Rf A ζ) (hw : Wa A) (hs : Ws A) {k : Nat} (hk : A 0 20 = k) {P : Nat → Bool} {z : Int} (hz : z = ((msk P 12 : Nat) : Int)) :
    Ok (g_X12_laysRows z ζ) (fun ζ' => ∃ R ρ, Rw ζ' k R ρ ∧ Rk k R ρ ∧ R ≤ k + 12 ∧ (∀ w, InC (Ak k R ρ) w ↔ Sc A P w) ∧ Fx Wr ζ ζ') := by
  subst hz
  have qk := hw.1
  have q9 := hs.1
  obtain ⟨n9, hn9⟩ : ∃ n : Nat, A 9 0 = n := ⟨(A 9 0).toNat, by omega⟩
  have key : ∀ (n : Nat) (y : Int) (s R : Nat) (ρ : Nat → V4) (ζ1 : ZS), y = s → s ≤ n9 → n9 - s < n → Rw ζ1 k R ρ → Rk k R ρ → R ≤ k + s → (∀ w, InC (Ak k R ρ) w ↔ ((∀ i, i < 4 → 0 ≤ w i) ∧ (∀ i : Nat, i < 4 → A 0 20 ≤ (i : Int) → w i = 0) ∧ ∀ s' : Nat, s' < s → P s' = true → 0 ≤ dt (sr A s') w)) → Fx Wr ζ ζ1 →
      Ok (g_X12_laysRows_6 ((msk P 12 : Nat) : Int) n y ζ1) (fun ζ' => ∃ R ρ, Rw ζ' k R ρ ∧ Rk k R ρ ∧ R ≤ k + 12 ∧ (∀ w, InC (Ak k R ρ) w ↔ Sc A P w) ∧ Fx Wr ζ ζ') := by
    intro n
    induction n with
    | zero => intro _ _ _ _ _ _ _ h; omega
    | succ n ih =>
      intro y s R ρ ζ1 hy hsn hn hr hR hRs hsem hf
      subst hy
      have h1 := rf_Wr h hf
      unfold g_X12_laysRows_6 g_X12_laysRows_30
      have e0 : Int.toNat 0 = 0 := rfl
      rw [e0, rf_c h1 (by omega) (by omega), hn9]
      refine ok_gk (by omega) (by omega) (ok_gI (by omega) (by omega) (by omega) (by omega) (fun g => ?_) (fun g => ?_))
      · refine ok_some ⟨R, ρ, hr, hR, by omega, fun w => (hsem w).trans ?_, hf⟩
        unfold Sc
        rw [hn9]
        exact ⟨fun ⟨a, b, c⟩ => ⟨a, b, fun s' g1 => c s' (by omega)⟩, fun ⟨a, b, c⟩ => ⟨a, b, fun s' g1 => c s' (by omega)⟩⟩
      · have hsh := z_sh P (n := 12) (t := s) (by omega) (by omega)
        rw [hsh]
        have more : P s = false → ∀ w : V4, ((∀ i, i < 4 → 0 ≤ w i) ∧ (∀ i : Nat, i < 4 → A 0 20 ≤ (i : Int) → w i = 0) ∧ ∀ s' : Nat, s' < s → P s' = true → 0 ≤ dt (sr A s') w) ↔ ((∀ i, i < 4 → 0 ≤ w i) ∧ (∀ i : Nat, i < 4 → A 0 20 ≤ (i : Int) → w i = 0) ∧ ∀ s' : Nat, s' < s + 1 → P s' = true → 0 ≤ dt (sr A s') w) := by
          intro hp w
          refine ⟨fun ⟨a, b, c⟩ => ⟨a, b, fun s' g1 g2 => ?_⟩, fun ⟨a, b, c⟩ => ⟨a, b, fun s' g1 => c s' (by omega)⟩⟩
          by_cases e : s' = s
          · rw [e, hp] at g2; cases g2
          · exact c s' (by omega) g2
        have with_ : ∀ w : V4, (((∀ i, i < 4 → 0 ≤ w i) ∧ (∀ i : Nat, i < 4 → A 0 20 ≤ (i : Int) → w i = 0) ∧ ∀ s' : Nat, s' < s → P s' = true → 0 ≤ dt (sr A s') w) ∧ 0 ≤ dt (sr A s) w) → ((∀ i, i < 4 → 0 ≤ w i) ∧ (∀ i : Nat, i < 4 → A 0 20 ≤ (i : Int) → w i = 0) ∧ ∀ s' : Nat, s' < s + 1 → P s' = true → 0 ≤ dt (sr A s') w) := by
          rintro w ⟨⟨a, b, c⟩, d⟩
          refine ⟨a, b, fun s' g1 g2 => ?_⟩
          by_cases e : s' = s
          · rw [e]; exact d
          · exact c s' (by omega) g2
        cases hp : P s with
        | false =>
          refine ok_gI (by decide) (by decide) (by decide) (by decide) (fun g => absurd g (by decide)) (fun _ => ?_)
          exact ih _ (s + 1) R ρ ζ1 (by omega) (by omega) (by omega) hr hR (by omega) (fun w => (hsem w).trans (more hp w)) hf
        | true =>
          refine ok_gI (by decide) (by decide) (by decide) (by decide) (fun _ => ?_) (fun g => absurd rfl g)
          refine ok_bind (s_addsSaying h1 hw hs rfl (by omega) hk hr (by omega)) (fun ζ2 ⟨hc, hf2⟩ => ?_)
          rcases hc with hc | ⟨hc, hz⟩
          · refine ih _ (s + 1) (R + 1) _ ζ2 (by omega) (by omega) (by omega) hc (Rk_rx hR (sr_bd hw hs (by omega))) (by omega) (fun w => ?_) (fx_trans hf hf2)
            rw [inc_rx, hsem w]
            exact ⟨with_ w, fun ⟨a, b, c⟩ => ⟨⟨a, b, fun s' g1 => c s' (by omega)⟩, c s (by omega) hp⟩⟩
          · refine ih _ (s + 1) R ρ ζ2 (by omega) (by omega) (by omega) hc hR (by omega) (fun w => ?_) (fx_trans hf hf2)
            rw [hsem w]
            refine ⟨fun g => with_ w ⟨g, ?_⟩, fun ⟨a, b, c⟩ => ⟨a, b, fun s' g1 => c s' (by omega)⟩⟩
            rw [hz]; simp [dt]
  unfold g_X12_laysRows
  refine ok_bind (s_beginsRows (k := k) (by rw [rf_k h, hk]) (by omega) (by omega)) (fun ζ1 ⟨hr, hf⟩ => ?_)
  refine key FU 0 0 k un ζ1 rfl (by omega) (by rw [FU_e]; omega) hr (Rk_whole (by omega) (by omega)) (by omega) (fun w => ?_) hf
  rw [inc_un (by omega) (by omega)]
  exact ⟨fun ⟨a, b⟩ => ⟨a, fun i g1 g2 => b i g1 (by omega), fun s' g1 => by omega⟩, fun ⟨a, b, _⟩ => ⟨a, fun i g1 g2 => b i g1 (by omega)⟩⟩
/-- who is heard -/
def voc (A : Nat → Nat → Int) (p : Nat) : Bool := (A 0 23).toNat.testBit p
def hrd (A : Nat → Nat → Int) (s : Nat) : Bool := decide ((s : Int) < A 9 0) && voc A (A 10 s).toNat
def Wv (A : Nat → Nat → Int) : Prop := 0 ≤ A 0 23 ∧ A 0 23 ≤ 255
theorem voc_msk {A : Nat → Nat → Int} (h : Wv A) : A 0 23 = ((msk (voc A) 8 : Nat) : Int) := int_msk h.1 (show A 0 23 < 256 by have := h.2; omega)
theorem s_isHeard {A : Nat → Nat → Int} {ζ : ZS} (h : Rf A ζ) (hs : Ws A) (hv : Wv A) {s : Nat} {z : Int} (hz : z = s) (hsn : (s : Int) < A 9 0) : g_X12_isHeard z ζ = some (bi (voc A (A 10 s).toNat), ζ) := by
  subst hz
  have q := hs.2 s hsn
  have q0 := hs.1
  apply ok_eq
  unfold g_X12_isHeard g_X12_isHeard_22
  have e : A 10 s = ((A 10 s).toNat : Int) := by omega
  rw [show Int.toNat (s : Int) = s by omega, rf_c h (c := 10) (by omega) (by omega), h 0 23 (by unfold psl; omega), voc_msk hv, e, z_sh _ (by omega) (by omega), ← e]
  cases hp : voc A (A 10 s).toNat with
  | false => exact ok_gk (by omega) (by omega) (ok_gI (by decide) (by decide) (by decide) (by decide) (fun g => absurd g (by decide)) (fun _ => ok_gz (Or.inl rfl) (ok_some rfl)))
  | true => exact ok_gk (by omega) (by omega) (ok_gI (by decide) (by decide) (by decide) (by decide) (fun _ => ok_gz (Or.inr rfl) (ok_some rfl)) (fun g => absurd rfl g))
theorem s_heard {A : Nat → Nat → Int} {ζ : ZS} (h : Rf A ζ) (hs : Ws A) (hv : Wv A) : g_X12_heard ζ = some (((msk (hrd A) 12 : Nat) : Int), ζ) := by
  have q9 := hs.1
  obtain ⟨n9, hn9⟩ : ∃ n : Nat, A 9 0 = n := ⟨(A 9 0).toNat, by omega⟩
  have key : ∀ (n : Nat) (acc y : Int) (s : Nat), y = s → s ≤ n9 → n9 - s < n → acc = ((msk (fun i => decide (i < s) && hrd A i) 12 : Nat) : Int) → g_X12_heard_4 n acc y ζ = some (((msk (hrd A) 12 : Nat) : Int), ζ) := by
    intro n
    induction n with
    | zero => intro _ _ _ _ _ h; omega
    | succ n ih =>
      intro acc y s hy hsn hn ha
      subst hy; subst ha
      apply ok_eq
      unfold g_X12_heard_4 g_X12_heard_30
      have e0 : Int.toNat 0 = 0 := rfl
      rw [e0, rf_c h (by omega) (by omega), hn9]
      refine ok_gk (by omega) (by omega) (ok_gI (by omega) (by omega) (by omega) (by omega) (fun g => ok_some ?_) (fun g => ?_))
      · congr 2
        apply msk_congr
        intro i hi
        by_cases c : i < s
        · simp [c]
        · have : hrd A i = false := by unfold hrd; rw [decide_eq_false (by omega)]; rfl
          rw [this]; simp
      · refine ok_beq (s_isHeard h hs hv rfl (by omega)) (ok_bi (fun e => ?_) (fun e => ?_))
        · refine ok_of (ih _ _ (s + 1) (by omega) (by omega) (by omega) ?_)
          rw [z_or0 _ (by omega)]
          congr 1
          apply msk_congr
          intro i hi
          by_cases c : i = s
          · subst c
            have : hrd A i = false := by unfold hrd; rw [e]; simp
            rw [this]; simp
          · by_cases c2 : i < s
            · simp [c2, show i < s + 1 by omega]
            · simp [c2, show ¬ i < s + 1 by omega]
        · refine ok_of (ih _ _ (s + 1) (by omega) (by omega) (by omega) ?_)
          rw [z_in _ (by omega) (by omega)]
          congr 1
          apply msk_congr
          intro i hi
          by_cases c : i = s
          · subst c
            have : hrd A i = true := by unfold hrd; rw [e, decide_eq_true (by omega)]; rfl
            rw [this]; simp
          · by_cases c2 : i < s
            · simp [c, c2, show i < s + 1 by omega]
            · simp [c, c2, show ¬ i < s + 1 by omega]
  unfold g_X12_heard
  refine key FU 0 0 0 rfl (by omega) (by rw [FU_e]; omega) ?_
  rw [msk_0 _ (fun i _ => by simp)]; rfl
/-- the level 0 stands for a set of sayings -/
def L0s (A : Nat → Nat → Int) (P : Nat → Bool) (ζ : ZS) : Prop := ∃ (k R n : Nat) (ρ : Nat → V4), A 0 20 = (k : Int) ∧ Rw ζ k R ρ ∧ Rk k R ρ ∧ R ≤ k + 12 ∧ (∀ w, InC (Ak k R ρ) w ↔ Sc A P w) ∧ Lv ζ 0 k R n ρ
def Wq (x y : Nat) : Prop := Wr x y ∨ Wl 0 x y
theorem s_lay {A : Nat → Nat → Int} {ζ : ZS} (h : Rf A ζ) (hw : Wa A) (hs : Ws A) {P : Nat → Bool} {z : Int} (hz : z = ((msk P 12 : Nat) : Int)) : Ok ((g_X12_laysRows z ζ).bind (fun q => g_X12_findCorners q)) (fun ζ' => L0s A P ζ' ∧ Fx Wq ζ ζ') := by
  have qk := hw.1
  obtain ⟨k, hk⟩ : ∃ k : Nat, A 0 20 = k := ⟨(A 0 20).toNat, by omega⟩
  refine ok_bind (s_laysRows h hw hs hk hz) (fun ζ1 ⟨R, ρ, hr, hR, hRs, hsem, hf⟩ => ?_)
  have := hR.2.2.1
  refine ok_mono (s_findCorners ζ1 hr hR (by omega)) (fun ζ2 ⟨n, hL, hf2⟩ => ⟨⟨k, R, n, ρ, hk, rw_fx hr hf2, hR, hRs, hsem, hL⟩, fx_trans (fx_mono hf (fun _ _ => Or.inl)) (fx_mono hf2 (fun _ _ => Or.inr))⟩)
theorem rf_Wq {A : Nat → Nat → Int} {ζ ζ' : ZS} (h : Rf A ζ) (hf : Fx Wq ζ ζ') : Rf A ζ' := rf_fx h hf (fun c k hp => by unfold psl at hp; unfold Wq Wr Wl; omega)
/-- there are weights that fit -/
def Can (A : Nat → Nat → Int) (P : Nat → Bool) : Prop := ∃ w, Sc A P w ∧ nv w
theorem l0_can {A : Nat → Nat → Int} {P : Nat → Bool} {ζ : ZS} (h : L0s A P ζ) : 0 < ζ.1 20 0 ↔ Can A P := by
  obtain ⟨k, R, n, ρ, hk, hr, hR, hRs, hsem, hL⟩ := h
  rw [hL.1]
  have := isc_ne hL.2.2
  constructor
  · intro g
    obtain ⟨x, hx, hn⟩ := this.mp (by omega)
    exact ⟨x, (hsem x).mp hx, hn⟩
  · rintro ⟨x, hx, hn⟩
    have := this.mpr ⟨x, (hsem x).mpr hx, hn⟩
    omega
