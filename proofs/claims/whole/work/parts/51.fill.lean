/-! the class: who is told, who is in, leads, rows of sayings -/
theorem bit_test {α : Type} {Q : α → Prop} {X Y : Option α} {p : Nat → Bool} {n t : Nat} {a b : Int} (ha : a = ((msk p n : Nat) : Int)) (hb : b = t) (hn : n ≤ 31) (ht : t < n) (h0 : p t = false → Ok X Q) (h1 : p t = true → Ok Y Q) : Ok (gI (zand a (zshl 1 b)) 0 (zand a (zshl 1 b) = 0) X Y) Q := by
  subst ha; subst hb
  have e := z_bit p hn ht
  have e0 := z_bit0 p hn ht
  have l := two_31 (t := t) (by omega)
  cases hp : p t with
  | false =>
    have : zand ((msk p n : Nat) : Int) (zshl 1 (t : Int)) = 0 := e0.mpr hp
    rw [this]
    exact ok_gI (by decide) (by decide) (by decide) (by decide) (fun _ => h0 hp) (fun q => absurd rfl q)
  | true =>
    rw [hp, if_pos rfl] at e
    have p0 : 0 < 2 ^ t := Nat.two_pow_pos t
    rw [e]
    exact ok_gI (by omega) (by omega) (by omega) (by omega) (fun q => by omega) (fun _ => h1 hp)
theorem s_isTold {A : Nat → Nat → Int} {ζ : ZS} (h : ζ.1 30 3 = ((msk (told A) 8 : Nat) : Int)) {z : Int} (hz : r32 z) : g_X9_isTold z ζ = some (bi (thz A z), ζ) := by
  apply ok_eq
  unfold g_X9_isTold g_X9_isTold_25 g_X9_isTold_26
  refine ok_gI hz.1 hz.2 (by omega) (by omega) (fun g => ?_) (fun g => ?_)
  · exact ok_gz (Or.inl rfl) (ok_some (by unfold thz; rw [decide_eq_false (by omega)]; rfl))
  · refine ok_gI (by omega) (by omega) hz.1 hz.2 (fun g2 => ?_) (fun g2 => ?_)
    · exact ok_gz (Or.inl rfl) (ok_some (by unfold thz; rw [decide_eq_false (by omega : ¬ z ≤ 7), Bool.and_false]; rfl))
    · have e : thz A z = told A z.toNat := by unfold thz; rw [decide_eq_true (by omega), decide_eq_true (by omega : z ≤ 7)]; rfl
      refine bit_test (p := told A) (n := 8) (t := z.toNat) h (by omega) (by omega) (by omega) (fun q => ?_) (fun q => ?_)
      · exact ok_gz (Or.inl rfl) (ok_some (by rw [e, q]; rfl))
      · exact ok_gz (Or.inr rfl) (ok_some (by rw [e, q]; rfl))
theorem s_isInC {A : Nat → Nat → Int} {ζ : ZS} (h : ζ.1 30 4 = ((msk (inb A) 8 : Nat) : Int)) {z : Int} (hz : r32 z) : g_X9_isIn z ζ = some (bi (inz A z), ζ) := by
  apply ok_eq
  unfold g_X9_isIn g_X9_isIn_25 g_X9_isIn_26
  refine ok_gI hz.1 hz.2 (by omega) (by omega) (fun g => ?_) (fun g => ?_)
  · exact ok_gz (Or.inl rfl) (ok_some (by unfold inz; rw [decide_eq_false (by omega)]; rfl))
  · refine ok_gI (by omega) (by omega) hz.1 hz.2 (fun g2 => ?_) (fun g2 => ?_)
    · exact ok_gz (Or.inl rfl) (ok_some (by unfold inz; rw [decide_eq_false (by omega : ¬ z ≤ 7), Bool.and_false]; rfl))
    · have e : inz A z = inb A z.toNat := by unfold inz; rw [decide_eq_true (by omega), decide_eq_true (by omega : z ≤ 7)]; rfl
      refine bit_test (p := inb A) (n := 8) (t := z.toNat) h (by omega) (by omega) (by omega) (fun q => ?_) (fun q => ?_)
      · exact ok_gz (Or.inl rfl) (ok_some (by rw [e, q]; rfl))
      · exact ok_gz (Or.inr rfl) (ok_some (by rw [e, q]; rfl))
def We (e : Nat) (x _y : Nat) : Prop := x = e
theorem s_fillLead {A : Nat → Nat → Int} {ζ : ZS} {a b e : Nat} {z y : Int} (hv : ∀ t m, t < 8 → m < 4 → ζ.1 (41 + t) m = val A t m) (hz : z = a) (hy : y = b) (ha : a < 8) (hb : b < 8) (he : e < 41 ∨ 48 < e) (hl : ln e = 4) : Ok (g_X9_fillLead z y e ζ) (fun ζ' => (∀ m, m < 4 → ζ'.1 e m = leadv A a b m) ∧ Fx (We e) ζ ζ') := by
  subst hz; subst hy
  have key : ∀ (n : Nat) (w : Int) (m : Nat) (ζ1 : ZS), w = m → m ≤ 4 → 4 - m < n → (∀ m', m' < m → ζ1.1 e m' = leadv A a b m') → Fx (We e) ζ ζ1 → Ok (g_X9_fillLead_3 a b e n w ζ1) (fun ζ' => (∀ m, m < 4 → ζ'.1 e m = leadv A a b m) ∧ Fx (We e) ζ ζ') := by
    intro n
    induction n with
    | zero => intro _ _ _ _ _ h; omega
    | succ n ih =>
      intro w m ζ1 hw hm hn hold hf
      subst hw
      unfold g_X9_fillLead_3
      refine ok_gI (by omega) (by omega) (by omega) (by omega) (fun h => ?_) (fun h => ?_)
      · exact ok_some ⟨fun m' h' => hold m' (by omega), hf⟩
      · rw [show Int.toNat (a : Int) = a by omega, show Int.toNat (b : Int) = b by omega, show Int.toNat (m : Int) = m by omega, hl]
        have e1 : ζ1.1 (40 + 1 + a) m = val A a m := by rw [(hf.1 _ _ (by unfold We; omega)).1]; exact hv a m ha (by omega)
        have e2 : ζ1.1 (40 + 1 + b) m = val A b m := by rw [(hf.1 _ _ (by unfold We; omega)).1]; exact hv b m hb (by omega)
        rw [e1, e2]
        refine ok_gk (by omega) (by omega) (ok_gk (by omega) (by omega) (ok_gk (by omega) (by omega) (ok_gk (by omega) (by omega) (ok_gk (by omega) (by omega) (ih _ (m + 1) _ (by omega) (by omega) (by omega) (fun m' hm' => ?_) (fx_I hf rfl))))))
        rw [zI_1]
        by_cases g : m' = m
        · rw [if_pos ⟨rfl, g⟩, g]; rfl
        · rw [if_neg (by omega)]; exact hold m' (by omega)
  exact key FU 0 0 ζ rfl (by omega) (by rw [FU_e]; omega) (fun m' h => by omega) (fx_refl _ _)
set_option maxHeartbeats 4000000 in
theorem s_fillRow {A : Nat → Nat → Int} {ζ : ZS} {c s e : Nat} {z k4 : Int} (hw : Wa A) (hs : Ws A) (hc : cell2 c) (hch : Ch A ζ c) (hto : ζ.1 30 3 = ((msk (told A) 8 : Nat) : Int)) (hv : ∀ t m, t < 8 → m < 4 → ζ.1 (41 + t) m = val A t m) (hz : z = s) (hsn : (s : Int) < A 9 0) (hk : k4 = A 0 20) (he : 48 < e ∧ e < 150) (hl : ln e = 4) : Ok (g_X0_fillRow c z e k4 ζ) (fun ζ' => (∀ m, m < 4 → ζ'.1 e m = sr A s m) ∧ Fx (We e) ζ ζ') := by
  subst hz; subst hk
  unfold cell2 at hc
  have qk := hw.1
  have q9 := hs.1
  have q := hs.2 s hsn
  obtain ⟨c4, c6, k3, k4, k5, k6, k7, k8⟩ := hch.2.2 s hsn
  have es : Int.toNat (s : Int) = s := by omega
  have kinds : (A 11 s = 3 ∨ A 11 s = 4 ∨ A 11 s = 5 → ζ.1 (c + 5) s = 0) ∧ (A 11 s = 6 → ζ.1 (c + 5) s = 1) ∧ (A 11 s = 7 → ζ.1 (c + 5) s = 2) ∧ (A 11 s = 8 → ζ.1 (c + 5) s = 3) := ⟨fun g => by rcases g with g | g | g; exact (k3 g).1; exact (k4 g).1; exact (k5 g).1, fun g => (k6 g).1, fun g => (k7 g).1, fun g => (k8 g).1⟩
  have kr : 0 ≤ ζ.1 (c + 5) s ∧ ζ.1 (c + 5) s ≤ 3 := by omega
  -- behind the loop
  have last : ∀ (n : Nat) (al : Int) (ζ1 : ZS), Fx (We e) ζ ζ1 → al = (if A 11 s = 6 then -(A 12 s) else if A 11 s = 7 then A 12 s else 0) → (∀ m, m < 4 → ζ1.1 e m = if (m : Int) < A 0 20 then al else 0) → Ok (g_X0_fillRow_46 c (s : Int) e (A 0 20) al (n + 1) 4 ζ1) (fun ζ' => (∀ m, m < 4 → ζ'.1 e m = sr A s m) ∧ Fx (We e) ζ ζ') := by
    intro n al ζ1 hf hal hrow
    have sm : ∀ x y, x ≠ e → ζ1.1 x y = ζ.1 x y := fun x y h => (hf.1 x y h).1
    unfold g_X0_fillRow_46 g_X0_fillRow_211
    rw [es, hl, sm (c + 5) s (by omega), sm (c + 6) s (by omega), c6]
    have rA : (A 14 s).toNat < 8 := by omega
    have n8 : A 11 s ≠ 8 → (A 14 s).toNat < 4 := fun g => by have := (q.2.2.2.2.2.2 g).1; omega
    refine ok_gI (by omega) (by omega) (by omega) (by omega) (fun _ => ok_gk (by omega) (by omega) ?_) (fun h => absurd (by omega) h)
    refine ok_gI (by omega) (by omega) (by omega) (by omega) (fun g1 => ?_) (fun g1 => ?_)
    · have s6 : A 11 s = 6 := by omega
      have := n8 (by omega)
      rw [if_pos s6] at hal
      refine ok_gk (by omega) (by omega) (ok_gk (by omega) (by omega) (ok_gk (by omega) (by omega) (ok_some ⟨fun m hm => ?_, fx_I hf rfl⟩)))
      have hsr : sr A s m = sharev A (A 14 s).toNat (A 12 s) 1 m := by
        unfold sr
        rw [if_neg (by omega), if_neg (by omega), if_neg (by omega), if_pos s6]
      rw [zI_1, hrow _ this, hrow m hm, hal, hsr]
      unfold sharev
      by_cases em : m = (A 14 s).toNat
      · rw [if_pos ⟨rfl, em⟩, if_pos em, ← em]
        split <;> omega
      · rw [if_neg (fun g => em g.2), if_neg em]
        split <;> omega
    refine ok_gk (by omega) (by omega) (ok_gI (by omega) (by omega) (by omega) (by omega) (fun g2 => ?_) (fun g2 => ?_))
    · have s7 : A 11 s = 7 := by omega
      have := n8 (by omega)
      rw [if_neg (by omega), if_pos s7] at hal
      refine ok_gk (by omega) (by omega) (ok_gk (by omega) (by omega) (ok_gk (by omega) (by omega) (ok_some ⟨fun m hm => ?_, fx_I hf rfl⟩)))
      have hsr : sr A s m = sharev A (A 14 s).toNat (A 12 s) (-1) m := by
        unfold sr
        rw [if_neg (by omega), if_neg (by omega), if_neg (by omega), if_neg (by omega), if_pos s7]
      rw [zI_1, hrow _ this, hrow m hm, hal, hsr]
      unfold sharev
      by_cases em : m = (A 14 s).toNat
      · rw [if_pos ⟨rfl, em⟩, if_pos em, ← em]
        split <;> omega
      · rw [if_neg (fun g => em g.2), if_neg em]
        split <;> omega
    have hal0 : al = 0 := by rw [hal, if_neg (by omega), if_neg (by omega)]
    have hrow0 : ∀ m, m < 4 → ζ1.1 e m = 0 := fun m hm => by rw [hrow m hm, hal0]; split <;> rfl
    refine ok_gk (by omega) (by omega) (ok_gI (by omega) (by omega) (by omega) (by omega) (fun g3 => ?_) (fun g3 => ?_))
    · have h345 : A 11 s = 3 ∨ A 11 s = 4 ∨ A 11 s = 5 := by omega
      have a4 := n8 (by omega)
      have b15 : ζ.1 (c + 7) s = A 15 s := by rcases h345 with g | g | g; exact (k3 g).2.1; exact (k4 g).2.1; exact (k5 g).2.1
      have b4 : 0 ≤ A 15 s ∧ A 15 s < 4 ∧ A 14 s ≠ A 15 s := by
        have x1 := q.2.2.2.2.2.1 (by omega)
        have x2 := (q.2.2.2.2.2.2 (by omega)).2 (by omega)
        omega
      simp only [zI_1]
      rw [if_neg (show ¬ (c + 7 = e ∧ s = (A 14 s).toNat) by omega), if_neg (show ¬ (c + 9 = e ∧ s = (A 14 s).toNat) by omega), sm (c + 7) s (by omega), sm (c + 8) s (by omega), sm (c + 9) s (by omega), b15]
      refine ok_gk (by omega) (by omega) (ok_gk (by omega) (by omega) (ok_gk (by omega) (by omega) (ok_gk (by omega) (by omega) (ok_gk (by omega) (by omega) (ok_gk (by omega) (by omega) (ok_some ⟨fun m hm => ?_, fx_I (fx_I hf rfl) rfl⟩))))))
      have pv : ∀ x y : Int, ζ.1 (c + 8) s = x → ζ.1 (c + 9) s = y → (zI (zI ζ1 e (A 14 s).toNat (ζ.1 (c + 8) s)) e (A 15 s).toNat (-(ζ.1 (c + 9) s))).1 e m = pairv (A 14 s).toNat x (A 15 s).toNat y m := by
        intro x y hx hy
        rw [hx, hy, zI_1, zI_1]
        unfold pairv
        by_cases e1 : m = (A 15 s).toNat
        · rw [if_pos ⟨rfl, e1⟩, if_pos e1, if_neg (by omega)]; omega
        · rw [if_neg (fun g => e1 g.2), if_neg e1]
          by_cases e2 : m = (A 14 s).toNat
          · rw [if_pos ⟨rfl, e2⟩, if_pos e2]; omega
          · rw [if_neg (fun g => e2 g.2), if_neg e2, hrow0 m hm]; rfl
      unfold sr
      rcases h345 with g | g | g
      · rw [if_pos g]; exact pv 1 1 (k3 g).2.2.1 (k3 g).2.2.2
      · rw [if_neg (by omega), if_pos g]; exact pv 1 2 (k4 g).2.2.1 (k4 g).2.2.2
      · rw [if_neg (by omega), if_neg (by omega), if_pos g]; exact pv _ _ (k5 g).2.2.1 (k5 g).2.2.2
    · have s8 : A 11 s = 8 := by omega
      have x1 := q.2.2.2.2.2.1 (by omega)
      have hto1 : ζ1.1 30 3 = ((msk (told A) 8 : Nat) : Int) := by rw [sm 30 3 (by omega)]; exact hto
      have tA : thz A (A 14 s) = told A (A 14 s).toNat := by unfold thz; rw [decide_eq_true (by omega : 0 ≤ A 14 s), decide_eq_true (by omega : A 14 s ≤ 7)]; rfl
      have tB : thz A (A 15 s) = told A (A 15 s).toNat := by unfold thz; rw [decide_eq_true (by omega : 0 ≤ A 15 s), decide_eq_true (by omega : A 15 s ≤ 7)]; rfl
      have zero : (told A (A 14 s).toNat && told A (A 15 s).toNat) = false → ∀ m, m < 4 → ζ1.1 e m = sr A s m := by
        intro g m hm
        rw [hrow0 m hm]
        unfold sr
        rw [if_neg (by omega), if_neg (by omega), if_neg (by omega), if_neg (by omega), if_neg (by omega), g]
        rfl
      refine ok_gk (by omega) (by omega) (ok_beq (s_isTold hto1 (by omega)) (ok_bi (fun g => ok_some ⟨zero (by rw [← tA, g]; rfl), hf⟩) (fun gA => ?_)))
      rw [sm (c + 7) s (by omega), (k8 s8).2]
      refine ok_gk (by omega) (by omega) (ok_beq (s_isTold hto1 (by omega)) (ok_bi (fun g => ok_some ⟨zero (by rw [← tB, g, Bool.and_false]), hf⟩) (fun gB => ?_)))
      rw [sm (c + 6) s (by omega), c6, sm (c + 7) s (by omega), (k8 s8).2]
      refine ok_gk (by omega) (by omega) (ok_gk (by omega) (by omega) (ok_bind (s_fillLead (A := A) (a := (A 14 s).toNat) (b := (A 15 s).toNat) (fun t m h1 h2 => by rw [sm _ _ (by omega)]; exact hv t m h1 h2) (by omega) (by omega) (by omega) (by omega) (by omega) hl) (fun ζ2 hq => ok_some ⟨fun m hm => ?_, fx_trans hf hq.2⟩)))
      rw [hq.1 m hm]
      unfold sr
      rw [if_neg (by omega), if_neg (by omega), if_neg (by omega), if_neg (by omega), if_neg (by omega), ← tA, ← tB, gA, gB]
      rfl
  have key : ∀ (n : Nat) (al w : Int) (m : Nat) (ζ1 : ZS), w = m → m ≤ 4 → 4 - m < n → Fx (We e) ζ ζ1 → al = (if A 11 s = 6 then -(A 12 s) else if A 11 s = 7 then A 12 s else 0) → (∀ m', m' < m → ζ1.1 e m' = if (m' : Int) < A 0 20 then al else 0) → Ok (g_X0_fillRow_46 c (s : Int) e (A 0 20) al n w ζ1) (fun ζ' => (∀ m, m < 4 → ζ'.1 e m = sr A s m) ∧ Fx (We e) ζ ζ') := by
    intro n
    induction n with
    | zero => intro _ _ _ _ _ _ h; omega
    | succ n ih =>
      intro al w m ζ1 hww hm hn hf hal hrow
      by_cases c4 : m = 4
      · subst c4; subst hww
        exact last n al ζ1 hf hal hrow
      · subst hww
        unfold g_X0_fillRow_46 g_X0_fillRow_68
        rw [hl, show Int.toNat (m : Int) = m by omega]
        refine ok_gI (by omega) (by omega) (by omega) (by omega) (fun h => by omega) (fun _ => ok_gI (by omega) (by omega) (by omega) (by omega) (fun g => ?_) (fun g => ?_))
        · refine ok_gk (by omega) (by omega) (ih _ _ (m + 1) _ (by omega) (by omega) (by omega) (fx_I hf rfl) hal (fun m' hm' => ?_))
          rw [zI_1]
          by_cases e1 : m' = m
          · rw [if_pos ⟨rfl, e1⟩, if_neg (by omega)]
          · rw [if_neg (by omega)]; exact hrow m' (by omega)
        · refine ok_gk (by omega) (by omega) (ih _ _ (m + 1) _ (by omega) (by omega) (by omega) (fx_I hf rfl) hal (fun m' hm' => ?_))
          rw [zI_1]
          by_cases e1 : m' = m
          · rw [if_pos ⟨rfl, e1⟩, if_pos (by omega)]
          · rw [if_neg (by omega)]; exact hrow m' (by omega)
  unfold g_X0_fillRow g_X0_fillRow_43
  rw [es]
  have go : ∀ al : Int, al = (if A 11 s = 6 then -(A 12 s) else if A 11 s = 7 then A 12 s else 0) → Ok (g_X0_fillRow_46 c (s : Int) e (A 0 20) al FU 0 ζ) (fun ζ' => (∀ m, m < 4 → ζ'.1 e m = sr A s m) ∧ Fx (We e) ζ ζ') := fun al hal => key FU al 0 0 ζ rfl (by omega) (by rw [FU_e]; omega) (fx_refl _ _) hal (fun m' h => by omega)
  refine ok_gk (by omega) (by omega) (ok_gI (by omega) (by omega) (by omega) (by omega) (fun g1 => ?_) (fun g1 => ?_))
  · have s6 : A 11 s = 6 := by omega
    exact ok_gk (by omega) (by omega) (go _ (by rw [if_pos s6, (k6 s6).2]))
  · refine ok_gk (by omega) (by omega) (ok_gI (by omega) (by omega) (by omega) (by omega) (fun g2 => ?_) (fun g2 => ?_))
    · have s7 : A 11 s = 7 := by omega
      exact ok_gk (by omega) (by omega) (go _ (by rw [if_neg (by omega), if_pos s7, (k7 s7).2]))
    · exact go 0 (by rw [if_neg (by omega), if_neg (by omega)])
/-- the sayings of a set of persons -/
def sof (A : Nat → Nat → Int) (Q : Nat → Bool) (s : Nat) : Bool := decide ((s : Int) < A 9 0) && Q (A 10 s).toNat
theorem s_sayingsOf {A : Nat → Nat → Int} {ζ : ZS} {c : Nat} {z : Int} {Q : Nat → Bool} (hs : Ws A) (hch : Ch A ζ c) (hz : z = ((msk Q 8 : Nat) : Int)) : g_X0_sayingsOf c z ζ = some (((msk (sof A Q) 12 : Nat) : Int), ζ) := by
  subst hz
  have q9 := hs.1
  obtain ⟨n9, hn9⟩ : ∃ n : Nat, A 9 0 = n := ⟨(A 9 0).toNat, by omega⟩
  have key : ∀ (n : Nat) (acc y : Int) (s : Nat), y = s → s ≤ n9 → n9 - s < n → acc = ((msk (fun i => decide (i < s) && sof A Q i) 12 : Nat) : Int) → g_X0_sayingsOf_4 c ((msk Q 8 : Nat) : Int) n acc y ζ = some (((msk (sof A Q) 12 : Nat) : Int), ζ) := by
    intro n
    induction n with
    | zero => intro _ _ _ _ _ h; omega
    | succ n ih =>
      intro acc y s hy hsn hn ha
      subst hy; subst ha
      apply ok_eq
      unfold g_X0_sayingsOf_4 g_X0_sayingsOf_31
      rw [hch.2.1, hn9, show Int.toNat (s : Int) = s by omega]
      refine ok_gI (by omega) (by omega) (by omega) (by omega) (fun g => ok_some ?_) (fun g => ?_)
      · congr 2
        apply msk_congr
        intro i hi
        by_cases cc : i < s
        · simp [cc]
        · have : sof A Q i = false := by unfold sof; rw [decide_eq_false (by omega)]; rfl
          rw [this]; simp
      · have hsl : (s : Int) < A 9 0 := by omega
        have q := hs.2 s hsl
        have e10 := (hch.2.2 s hsl).1
        refine ok_gk (by omega) (by omega) (bit_test (p := Q) (n := 8) (t := (A 10 s).toNat) rfl (by rw [e10]; omega) (by omega) (by omega) (fun e => ?_) (fun e => ?_))
        · refine ok_of (ih _ _ (s + 1) (by omega) (by omega) (by omega) ?_)
          congr 1
          apply msk_congr
          intro i hi
          by_cases cc : i = s
          · subst cc
            have : sof A Q i = false := by unfold sof; rw [e]; simp
            rw [this]; simp
          · by_cases c2 : i < s
            · simp [c2, show i < s + 1 by omega]
            · simp [c2, show ¬ i < s + 1 by omega]
        · refine ok_of (ih _ _ (s + 1) (by omega) (by omega) (by omega) ?_)
          rw [z_in _ (by omega) (by omega)]
          congr 1
          apply msk_congr
          intro i hi
          by_cases cc : i = s
          · subst cc
            have : sof A Q i = true := by unfold sof; rw [e, decide_eq_true hsl]; rfl
            rw [this]; simp
          · by_cases c2 : i < s
            · simp [cc, c2, show i < s + 1 by omega]
            · simp [cc, c2, show ¬ i < s + 1 by omega]
  unfold g_X0_sayingsOf
  refine key FU 0 0 0 rfl (by omega) (by rw [FU_e]; omega) ?_
  rw [msk_0 _ (fun i _ => by simp)]; rfl
