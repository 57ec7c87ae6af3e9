/-! the reference: leads at corners, better -/
def seen (A : Nat → Nat → Int) (t m : Nat) : Int := if (t : Int) = A 0 32 ∧ (m : Int) = A 0 33 then A 0 34 else val A t m
def abv (A : Nat → Nat → Int) (a b : Nat) : V4 := fun m => if A 0 20 ≤ (m : Int) then 0 else seen A a m - seen A b m
/-- what is raised is a thing's value -/
def Wx (A : Nat → Nat → Int) : Prop := (-1 ≤ A 0 32 ∧ A 0 32 ≤ 7) ∧ (A 0 32 ≠ -1 → (0 ≤ A 0 33 ∧ A 0 33 ≤ 3) ∧ 0 ≤ A 0 34 ∧ A 0 34 ≤ 100)
theorem seen_bd {A : Nat → Nat → Int} (hw : Wa A) (hx : Wx A) {t m : Nat} (ht : t < 8) (hm : m < 4) : 0 ≤ seen A t m ∧ seen A t m ≤ 100 := by
  have := val_bd hw ht hm
  unfold seen
  split
  · rename_i g
    exact (hx.2 (by omega)).2
  · exact this
theorem abv_bd {A : Nat → Nat → Int} (hw : Wa A) (hx : Wx A) {a b : Nat} (ha : a < 8) (hb : b < 8) : bd (abv A a b) := by
  intro m hm
  have h1 := seen_bd hw hx ha hm
  have h2 := seen_bd hw hx hb hm
  unfold abv
  split <;> omega
/-- nothing raised -/
theorem abv_lead {A : Nat → Nat → Int} (h : A 0 32 = -1) (a b : Nat) : abv A a b = leadv A a b := by
  funext m
  unfold abv leadv seen
  rw [if_neg (show ¬ ((a : Int) = A 0 32 ∧ (m : Int) = A 0 33) by omega), if_neg (show ¬ ((b : Int) = A 0 32 ∧ (m : Int) = A 0 33) by omega)]
  split
  · rename_i g
    rw [val_0 g, val_0 g]; rfl
  · rfl
theorem s_seenAs {A : Nat → Nat → Int} {ζ : ZS} (h : Rf A ζ) (hw : Wa A) (hx : Wx A) {t m : Nat} {z y : Int} (hz : z = t) (hy : y = m) (ht : t < 8) (hm : (m : Int) < A 0 20) : g_X12_seenAs z y ζ = some (seen A t m, ζ) := by
  subst hz; subst hy
  have qk := hw.1
  apply ok_eq
  unfold g_X12_seenAs g_X12_seenAs_23 g_X12_seenAs_29
  rw [h 0 32 (by unfold psl; omega)]
  have q1 := hx.1
  unfold seen
  refine ok_gI (by omega) (by omega) (by omega) (by omega) (fun g => ?_) (fun g => ?_)
  · have q2 := (hx.2 (by omega)).1
    rw [h 0 33 (by unfold psl; omega), h 0 34 (by unfold psl; omega)]
    refine ok_gI (by omega) (by omega) (by omega) (by omega) (fun g2 => ?_) (fun g2 => ?_)
    · exact ok_some (by rw [if_pos ⟨g, g2⟩])
    · exact ok_beq (s_valueOf h hw rfl rfl ht hm) (ok_some (by rw [if_neg (fun q => g2 q.2)]))
  · exact ok_beq (s_valueOf h hw rfl rfl ht hm) (ok_some (by rw [if_neg (fun q => g q.1)]))
theorem s_above {A : Nat → Nat → Int} {ζ : ZS} (h : Rf A ζ) (hw : Wa A) (hx : Wx A) {a b m : Nat} {z y x : Int} (hz : z = a) (hy : y = b) (hxm : x = m) (ha : a < 8) (hb : b < 8) (hm : m < 4) : g_X12_above z y x ζ = some (abv A a b m, ζ) := by
  subst hxm
  have qk := hw.1
  have h1 := seen_bd hw hx ha hm
  have h2 := seen_bd hw hx hb hm
  apply ok_eq
  unfold g_X12_above g_X12_above_26
  rw [rf_k h]
  unfold abv
  refine ok_gI (by omega) (by omega) (by omega) (by omega) (fun g => ok_some (by rw [if_pos g])) (fun g => ?_)
  exact ok_beq (s_seenAs h hw hx hz rfl ha (by omega)) (ok_beq (s_seenAs h hw hx hy rfl hb (by omega)) (ok_gw (by dsimp only; omega) (by dsimp only; omega) (ok_some (by rw [if_neg g]))))
def Wrr (R : Nat) (x y : Nat) : Prop := (x = 19 ∧ 4 * R ≤ y) ∨ (x = 0 ∧ y = 26)
theorem s_addsRow2 (ζ : ZS) {k R : Nat} {ρ : Nat → V4} {a b c d : Int} (hw : Rw ζ k R ρ) (hR : R < 64) : Ok (g_X12_addsRow a b c d ζ) (fun ζ' => Rw ζ' k (R + 1) (rx R ρ (v4 a b c d)) ∧ Fx (Wrr R) ζ ζ') := by
  obtain ⟨ζ', e, h⟩ := s_addsRow ζ (a := a) (b := b) (c := c) (d := d) hw hR
  refine ⟨ζ', e, h.1, ?_⟩
  have : Ok (g_X12_addsRow a b c d ζ) (fun ζ' => Fx (Wrr R) ζ ζ') := by
    unfold g_X12_addsRow
    simp only [zJ_1, hw.2.1]
    refine ok_gk (by omega) (by omega) (ok_gk (by omega) (by omega) (ok_gk (by omega) (by omega) (ok_gk (by omega) (by omega) (ok_some ?_))))
    exact fx_I (fx_J (fx_J (fx_J (fx_J (fx_refl _ _) (by unfold Wrr; omega)) (by unfold Wrr; omega)) (by unfold Wrr; omega)) (by unfold Wrr; omega)) (by unfold Wrr; omega)
  obtain ⟨ζ2, e2, h2⟩ := this
  rw [e] at e2
  cases e2
  exact h2
theorem s_addsAbove {A : Nat → Nat → Int} {ζ : ZS} (h : Rf A ζ) (hw : Wa A) (hx : Wx A) {k R a b : Nat} {ρ : Nat → V4} {z y : Int} (hz : z = a) (hy : y = b) (ha : a < 8) (hb : b < 8) (hr : Rw ζ k R ρ) (hR : R < 64) : Ok (g_X12_addsAbove z y ζ) (fun ζ' => Rw ζ' k (R + 1) (rx R ρ (abv A a b)) ∧ Fx (Wrr R) ζ ζ') := by
  unfold g_X12_addsAbove
  refine ok_beq (s_above h hw hx (m := 0) hz hy rfl ha hb (by omega)) (ok_beq (s_above h hw hx (m := 1) hz hy rfl ha hb (by omega)) (ok_beq (s_above h hw hx (m := 2) hz hy rfl ha hb (by omega)) (ok_beq (s_above h hw hx (m := 3) hz hy rfl ha hb (by omega)) ?_)))
  exact ok_bind (s_addsRow2 ζ hr hR) (fun ζ' h => ok_some ⟨rw_e4 h.1 (four rfl rfl rfl rfl), h.2⟩)
theorem s_weightAt (ζ : ZS) {lv c m : Nat} {z y x : Int} (hz : z = lv) (hy : y = c) (hx : x = m) (hl : lv < 12) (hc : c < 72) (hm : m < 4) : g_X12_weightAt z y x ζ = some (rf ζ lv c m, ζ) := by
  subst hz; subst hy; subst hx
  apply ok_eq
  unfold g_X12_weightAt
  rw [show Int.toNat (4 * (72 * (lv : Int) + c) + m) = 4 * (72 * lv + c) + m by omega]
  exact ok_gk (by omega) (by omega) (ok_some rfl)
theorem s_aboveAt {A : Nat → Nat → Int} {ζ : ZS} (h : Rf A ζ) (hw : Wa A) (hx : Wx A) {a b lv c : Nat} {z y w u : Int} (hz : z = a) (hy : y = b) (hwl : w = lv) (hu : u = c) (ha : a < 8) (hb : b < 8) (hl : lv < 12) (hc : c < 72) (h0 : ∀ m : Nat, m < 4 → A 0 20 ≤ (m : Int) → rf ζ lv c m = 0) : g_X12_aboveAt z y w u ζ = some (dt (abv A a b) (rf ζ lv c), ζ) := by
  have qk := hw.1
  obtain ⟨k, hk⟩ : ∃ k : Nat, A 0 20 = k := ⟨(A 0 20).toNat, by omega⟩
  have key : ∀ (n : Nat) (acc x : Int) (j : Nat), x = j → j ≤ k → acc = psum (fun m => rf ζ lv c m * abv A a b m) j → k - j < n → g_X12_aboveAt_6 z y w u n acc x ζ = some (psum (fun m => rf ζ lv c m * abv A a b m) k, ζ) := by
    intro n
    induction n with
    | zero => intro _ _ _ _ _ _ h; omega
    | succ n ih =>
      intro acc x j hxj hj hacc hn
      subst hxj
      apply ok_eq
      unfold g_X12_aboveAt_6
      rw [rf_k h, hk]
      refine ok_gI (by omega) (by omega) (by omega) (by omega) (fun g => ?_) (fun g => ?_)
      · refine ok_some ?_
        rw [hacc, show j = k by omega]
      · refine ok_beq (s_weightAt ζ hwl hu rfl hl hc (by omega)) (ok_beq (s_above h hw hx hz hy rfl ha hb (by omega)) ?_)
        refine ok_of (ih _ _ (j + 1) (by omega) (by omega) ?_ (by omega))
        rw [hacc]; rfl
  unfold g_X12_aboveAt
  rw [key FU 0 0 0 rfl (by omega) rfl (by rw [FU_e]; omega), psum_dt (by omega) (fun m g1 g2 => h0 m g2 (by omega))]
/-- a level stands for a set of weights; the rows up to it lie there -/
def Lb (A : Nat → Nat → Int) (ζ : ZS) (lv : Nat) (X : V4 → Prop) (q : Nat) : Prop := ∃ (k R n : Nat) (ρ : Nat → V4), A 0 20 = (k : Int) ∧ (∀ b, b < R → e4 (rr ζ b) (ρ b)) ∧ Rk k R ρ ∧ R ≤ k + q ∧ (∀ w, InC (Ak k R ρ) w ↔ X w) ∧ Lv ζ lv k R n ρ
/-- and they are the rows of now -/
def Lw (A : Nat → Nat → Int) (ζ : ZS) (lv : Nat) (X : V4 → Prop) (q : Nat) : Prop := Lb A ζ lv X q ∧ ζ.1 0 26 = ζ.1 21 lv
theorem l0_lw {A : Nat → Nat → Int} {P : Nat → Bool} {ζ : ZS} (h : L0s A P ζ) : Lw A ζ 0 (Sc A P) 12 := by
  obtain ⟨k, R, n, ρ, hk, hr, hR, hRs, hsem, hL⟩ := h
  exact ⟨⟨k, R, n, ρ, hk, hr.2.2, hR, hRs, hsem, hL⟩, hr.2.1.trans hL.2.1.symm⟩
/-- how many corners, and what holds of them -/
theorem lb_n {A : Nat → Nat → Int} {ζ : ZS} {lv q : Nat} {X : V4 → Prop} (h : Lb A ζ lv X q) (hq : q ≤ 20) : ∃ n : Nat, ζ.1 20 lv = n ∧ n ≤ 44 ∧ (0 < n ↔ ∃ w, X w ∧ nv w) ∧ (∀ i, i < n → X (rf ζ lv i) ∧ nv (rf ζ lv i) ∧ (∀ m, m < 4 → 0 ≤ rf ζ lv i m ∧ rf ζ lv i m ≤ 6000000) ∧ ∀ m : Nat, m < 4 → A 0 20 ≤ (m : Int) → rf ζ lv i m = 0) ∧ ∀ r : V4, (∀ i, i < n → 0 ≤ dt r (rf ζ lv i)) ↔ ∀ w, X w → 0 ≤ dt r w := by
  obtain ⟨k, R, n, ρ, hk, hr, hR, hRs, hsem, hL⟩ := h
  have h4 := hR.2.1
  refine ⟨n, hL.1, (cntR hR (by omega) hL.2.2.1 hL.2.2.2.1).1, ?_, fun i hi => ⟨(hsem _).mp (hL.2.2.1 i hi).1.1, (hL.2.2.1 i hi).1.2.1, ex_bd Ak_pos (Ak_bd hR) (hL.2.2.1 i hi).1 (hL.2.2.1 i hi).2, fun m g1 g2 => Ak_zero (hL.2.2.1 i hi).1.1 m g1 (by omega)⟩, fun r => ?_⟩
  · rw [isc_ne hL.2.2]
    exact ⟨fun ⟨x, a, b⟩ => ⟨x, (hsem x).mp a, b⟩, fun ⟨x, a, b⟩ => ⟨x, (hsem x).mpr a, b⟩⟩
  · rw [isc_al hL.2.2]
    exact ⟨fun g w hw => g w ((hsem w).mpr hw), fun g w hw => g w ((hsem w).mp hw)⟩
/-- a set within which a row is 0 or more by all weights -/
def Al (X : V4 → Prop) (r : V4) : Prop := ∀ w, X w → 0 ≤ dt r w
def So (X : V4 → Prop) (r : V4) : Prop := ∃ w, X w ∧ nv w ∧ 0 ≤ dt r w
theorem dt_negr (r v : V4) : dt (fun i => -(r i)) v = -(dt r v) := by simp only [dt]; grind
/-- by some weights: by some corner -/
theorem isc_so {A : List V4} {n : Nat} {f : Nat → V4} (h : IsC A n f) (r : V4) : (∃ i, i < n ∧ 0 ≤ dt r (f i)) ↔ ∃ w, InC A w ∧ nv w ∧ 0 ≤ dt r w := by
  constructor
  · rintro ⟨i, hi, h0⟩
    exact ⟨_, (h.1 i hi).1.1, (h.1 i hi).1.2.1, h0⟩
  · rintro ⟨w, hw, hn, h0⟩
    apply Classical.byContradiction
    intro c
    have neg : ∀ i, i < n → dt r (f i) < 0 := fun i hi => by
      have : ¬ 0 ≤ dt r (f i) := fun g => c ⟨i, hi, g⟩
      omega
    obtain ⟨N, l, hN, hl, he⟩ := h.2.2.2 w hw
    have e1 : dt r (sv l) = N * dt r w := dt_mul r w _ N (fun i hi => (he i hi).symm)
    have le : dt r (sv l) ≤ 0 := dt_svneg r l (fun p hp => by
      obtain ⟨g1, i, hi, e⟩ := hl p hp
      rw [e]; exact ⟨g1, neg i hi⟩)
    have nn := Int.mul_nonneg (Int.le_of_lt hN) h0
    have z : dt r (sv l) = 0 := by omega
    -- then all parts are 0
    have all0 : ∀ l' : List (Int × V4), (∀ p ∈ l', 0 ≤ p.1 ∧ ∃ i, i < n ∧ p.2 = f i) → dt r (sv l') = 0 → ∀ p ∈ l', p.1 = 0 := by
      intro l'
      induction l' with
      | nil => intro _ _ p hp; cases hp
      | cons q l' ih =>
        intro hq h0 p hp
        rw [dt_sv] at h0
        obtain ⟨g1, i, hi, e⟩ := hq q (by simp)
        have le2 : dt r (sv l') ≤ 0 := dt_svneg r l' (fun p hp => by
          obtain ⟨g1, i, hi, e⟩ := hq p (List.mem_cons_of_mem _ hp)
          rw [e]; exact ⟨g1, neg i hi⟩)
        have ng := neg i hi
        rw [← e] at ng
        have le3 : q.1 * dt r q.2 ≤ 0 := by
          have := Int.mul_nonneg g1 (show 0 ≤ -(dt r q.2) by omega)
          rw [Int.mul_neg] at this
          omega
        rcases List.mem_cons.mp hp with e2 | hp
        · rw [e2]
          exact (Int.mul_eq_zero.mp (show q.1 * dt r q.2 = 0 by omega)).resolve_right (by omega)
        · exact ih (fun p hp => hq p (List.mem_cons_of_mem _ hp)) (by omega) p hp
    have a0 := all0 l hl z
    have sz : ∀ l' : List (Int × V4), (∀ p ∈ l', p.1 = 0) → ∀ i, sv l' i = 0 := by
      intro l'
      induction l' with
      | nil => intro _ i; rfl
      | cons q l' ih =>
        intro hq i
        show q.1 * q.2 i + sv l' i = 0
        rw [hq q (by simp), ih (fun p hp => hq p (List.mem_cons_of_mem _ hp)) i]; simp
    obtain ⟨i, hi, hne⟩ := hn
    have := he i hi
    rw [sz l a0 i] at this
    exact hne ((Int.mul_eq_zero.mp this).resolve_left (by omega))
theorem lb_so {A : Nat → Nat → Int} {ζ : ZS} {lv q n : Nat} {X : V4 → Prop} (h : Lb A ζ lv X q) (hn : ζ.1 20 lv = n) (r : V4) : (∃ i, i < n ∧ 0 ≤ dt r (rf ζ lv i)) ↔ So X r := by
  obtain ⟨k, R, n', ρ, hk, hr, hR, hRs, hsem, hL⟩ := h
  have e : n' = n := by have := hL.1; omega
  subst e
  rw [isc_so hL.2.2]
  exact ⟨fun ⟨w, a, b, c⟩ => ⟨w, (hsem w).mp a, b, c⟩, fun ⟨w, a, b, c⟩ => ⟨w, (hsem w).mpr a, b, c⟩⟩
theorem cs_n {ζ : ZS} {c k q : Nat} {X : V4 → Prop} (h : Cs ζ c k X q) (hq : q ≤ 19) : ∃ n : Nat, ζ.1 c 3 = k ∧ 1 ≤ k ∧ k ≤ 4 ∧ ζ.1 c 5 = n ∧ n ≤ 42 ∧ (0 < n ↔ ∃ w, X w ∧ nv w) ∧ (∀ i, i < n → X (cw ζ c i) ∧ nv (cw ζ c i) ∧ (∀ m, m < 4 → 0 ≤ cw ζ c i m ∧ cw ζ c i m ≤ 6000000) ∧ ∀ m, k ≤ m → m < 4 → cw ζ c i m = 0) ∧ (∀ r : V4, (∀ i, i < n → 0 ≤ dt r (cw ζ c i)) ↔ Al X r) ∧ ∀ r : V4, (∃ i, i < n ∧ 0 ≤ dt r (cw ζ c i)) ↔ So X r := by
  obtain ⟨R, n, ρ, hc, hr, hRq, hsem⟩ := h
  refine ⟨n, hc.1, hr.1, hr.2.1, hc.2.2.1, cs_44 hc hr hRq hq, ?_, fun i hi => ⟨(hsem _).mp (hc.2.2.2.2.1 i hi).1.1, (hc.2.2.2.2.1 i hi).1.2.1, cn_bd hc hr hi, fun m g1 g2 => Ak_zero (hc.2.2.2.2.1 i hi).1.1 m g2 g1⟩, fun r => ?_, fun r => ?_⟩
  · rw [isc_ne hc.2.2.2.2]
    exact ⟨fun ⟨x, a, b⟩ => ⟨x, (hsem x).mp a, b⟩, fun ⟨x, a, b⟩ => ⟨x, (hsem x).mpr a, b⟩⟩
  · rw [isc_al hc.2.2.2.2]
    exact ⟨fun g w hw => g w ((hsem w).mpr hw), fun g w hw => g w ((hsem w).mp hw)⟩
  · rw [isc_so hc.2.2.2.2]
    exact ⟨fun ⟨w, a, b, c⟩ => ⟨w, (hsem w).mp a, b, c⟩, fun ⟨w, a, b, c⟩ => ⟨w, (hsem w).mpr a, b, c⟩⟩
theorem cs_prod (ζ : ZS) (c e : Nat) {k q n i : Nat} {X : V4 → Prop} {z : Int} {r : V4} (h : Cs ζ c k X q) (hq : q ≤ 19) (hz : z = i) (hn : ζ.1 c 5 = n) (hi : i < n) (hl : ln e = 4) (hrow : ∀ m, m < 4 → ζ.1 e m = r m) (hbd : bd r) : g_X1_product c z e ζ = some (dt r (cw ζ c i), ζ) := by
  obtain ⟨R, n', ρ, hc, hr, hRq, hsem⟩ := h
  have e5 : n' = n := by have := hc.2.2.1; omega
  subst e5
  have n42 := cs_44 hc hr hRq hq
  rw [s_prod ζ c e hz hc hr (by omega) hi hl (fun m hm => by show -100 ≤ ζ.1 e m ∧ ζ.1 e m ≤ 100; rw [hrow m hm]; exact hbd m hm), dt_e4l (s := r) (fun m hm => hrow m hm)]
