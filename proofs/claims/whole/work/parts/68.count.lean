/-! how many; corners in order -/
theorem bc_lt {p q : Nat → Bool} : ∀ {n : Nat}, (∀ i, i < n → p i = true → q i = true) → bc p n ≤ bc q n
  | 0, _ => Nat.le_refl _
  | n + 1, h => by
    have ih := bc_lt (n := n) (fun i hi => h i (by omega))
    simp only [bc]
    by_cases c : p n = true
    · rw [if_pos c, if_pos (h n (by omega) c)]; omega
    · rw [if_neg c]; omega
theorem bc_rem {q : Nat → Bool} {a : Nat} : ∀ {m : Nat}, a < m → q a = true → bc q m = bc (fun j => q j && !decide (j = a)) m + 1
  | 0, h, _ => by omega
  | m + 1, h, hq => by
    simp only [bc]
    by_cases c : a = m
    · subst c
      rw [if_pos hq]
      have e : bc (fun j => q j && !decide (j = a)) a = bc q a := bc_congr (fun i hi => by simp [show i ≠ a by omega])
      rw [e]
      simp
    · have ih := bc_rem (m := m) (show a < m by omega) hq
      rw [ih]
      have : (q m && !decide (m = a)) = q m := by simp [show m ≠ a by omega]
      simp only [this]
      omega
theorem bc_inj : ∀ (n : Nat) {m : Nat} {p q : Nat → Bool} (F : Nat → Nat), (∀ i, i < n → p i = true → F i < m ∧ q (F i) = true) → (∀ i j, i < n → j < n → F i = F j → i = j) → bc p n ≤ bc q m := by
  intro n
  induction n with
  | zero => intro m p q F _ _; exact Nat.zero_le _
  | succ n ih =>
    intro m p q F h1 h2
    simp only [bc]
    by_cases c : p n = true
    · rw [if_pos c]
      have a := h1 n (by omega) c
      rw [bc_rem a.1 a.2]
      have := ih (m := m) (p := p) (q := fun j => q j && !decide (j = F n)) F (fun i hi g => ?_) (fun i j hi hj => h2 i j (by omega) (by omega))
      · omega
      · have b := h1 i (by omega) g
        refine ⟨b.1, ?_⟩
        have : F i ≠ F n := fun e => by have := h2 i n (by omega) (by omega) e; omega
        simp [b.2, this]
    · rw [if_neg c]
      exact ih F (fun i hi => h1 i (by omega)) (fun i j hi hj => h2 i j (by omega) (by omega))
/-- a set of weights has n corners -/
def Nc (X : V4 → Prop) (n : Nat) : Prop := ∃ (L : List V4) (f : Nat → V4), (∀ w, InC L w ↔ X w) ∧ IsC L n f
def Xp (X : V4 → Prop) : Prop := ∀ w, X w → ∀ i, i < 4 → 0 ≤ w i
theorem nc_fun {X : V4 → Prop} (hp : Xp X) {n m : Nat} (h : Nc X n) (g : Nc X m) : n = m := by
  obtain ⟨L, f, h1, h2⟩ := h
  obtain ⟨M, e, g1, g2⟩ := g
  exact isc_n (fun w hw => hp w ((h1 w).mp hw)) h2 (isc_congr (fun w => (g1 w).trans (h1 w).symm) g2)
theorem lb_nc {A : Nat → Nat → Int} {ζ : ZS} {lv q : Nat} {X : V4 → Prop} (h : Lb A ζ lv X q) : ∃ n : Nat, ζ.1 20 lv = n ∧ Nc X n := by
  obtain ⟨k, R, n, ρ, a1, a2, a3, a4, a5, a6⟩ := h
  exact ⟨n, a6.1, _, _, a5, a6.2.2⟩
theorem cs_nc {ζ : ZS} {c k q : Nat} {X : V4 → Prop} (h : Cs ζ c k X q) : ∃ n : Nat, ζ.1 c 5 = n ∧ Nc X n := by
  obtain ⟨R, n, ρ, a1, a2, a3, a4⟩ := h
  exact ⟨n, a1.2.2.1, _, _, a4, a1.2.2.2.2⟩
theorem s_bits (ζ : ZS) {p : Nat → Bool} {z : Int} (hz : z = ((msk p 12 : Nat) : Int)) : g_X12_bits z ζ = some (((bc p 12 : Nat) : Int), ζ) := by
  have key : ∀ (n : Nat) (a w : Int) (j : Nat), w = j → j ≤ 12 → 12 - j < n → a = ((bc p j : Nat) : Int) → g_X12_bits_4 z n a w ζ = some (((bc p 12 : Nat) : Int), ζ) := by
    intro n
    induction n with
    | zero => intro _ _ _ _ _ h; omega
    | succ n ih =>
      intro a w j hw hj hn ha
      subst hw
      apply ok_eq
      unfold g_X12_bits_4
      refine ok_gI (by omega) (by omega) (by omega) (by omega) (fun g => ok_some ?_) (fun g => ok_of (ih _ _ (j + 1) (by omega) (by omega) (by omega) ?_))
      · have : j = 12 := by omega
        subst this
        rw [ha]
      · rw [hz, z_sh p (by omega) (show j < 12 by omega), ha]
        simp only [bc]
        split <;> rfl
  unfold g_X12_bits
  exact key FU 0 0 0 rfl (by omega) (by rw [FU_e]; omega) rfl
theorem s_toldMany {A : Nat → Nat → Int} {ζ : ZS} (h : Rf A ζ) (hw : Wa A) : g_X12_toldMany ζ = some (((bc (told A) 8 : Nat) : Int), ζ) := by
  have key : ∀ (n : Nat) (a w : Int) (j : Nat), w = j → j ≤ 8 → 8 - j < n → a = ((bc (told A) j : Nat) : Int) → g_X12_toldMany_4 n a w ζ = some (((bc (told A) 8 : Nat) : Int), ζ) := by
    intro n
    induction n with
    | zero => intro _ _ _ _ _ h; omega
    | succ n ih =>
      intro a w j hwj hj hn ha
      subst hwj
      apply ok_eq
      unfold g_X12_toldMany_4 g_X12_toldMany_25
      refine ok_gI (by omega) (by omega) (by omega) (by omega) (fun g => ok_some ?_) (fun g => ?_)
      · have : j = 8 := by omega
        subst this
        rw [ha]
      · have r := hw.2.1 j (by omega)
        rw [show Int.toNat (j : Int) = j by omega, rf_c h (by omega) (by omega)]
        refine ok_gk (by omega) (by omega) (ok_gI (by omega) (by omega) (by omega) (by omega) (fun q => ok_of (ih _ _ (j + 1) (by omega) (by omega) (by omega) ?_)) (fun q => ok_of (ih _ _ (j + 1) (by omega) (by omega) (by omega) ?_)))
        · simp only [bc]; rw [ha, show told A j = false by unfold told; simp [q]]; rfl
        · simp only [bc]; rw [ha, show told A j = true by unfold told; simp [q]]; rfl
  unfold g_X12_toldMany
  exact key FU 0 0 0 rfl (by omega) (by rw [FU_e]; omega) rfl
theorem s_inMany {A : Nat → Nat → Int} {ζ : ZS} (h : Rf A ζ) (hw : Wa A) : g_X12_inMany ζ = some (((bc (inb A) 8 : Nat) : Int), ζ) := by
  have key : ∀ (n : Nat) (a w : Int) (j : Nat), w = j → j ≤ 8 → 8 - j < n → a = ((bc (inb A) j : Nat) : Int) → g_X12_inMany_4 n a w ζ = some (((bc (inb A) 8 : Nat) : Int), ζ) := by
    intro n
    induction n with
    | zero => intro _ _ _ _ _ h; omega
    | succ n ih =>
      intro a w j hwj hj hn ha
      subst hwj
      apply ok_eq
      unfold g_X12_inMany_4 g_X12_inMany_24
      refine ok_gI (by omega) (by omega) (by omega) (by omega) (fun g => ok_some ?_) (fun g => ok_beq (s_isInN h hw rfl (by omega)) (ok_bi (fun q => ok_of (ih _ _ (j + 1) (by omega) (by omega) (by omega) ?_)) (fun q => ok_of (ih _ _ (j + 1) (by omega) (by omega) (by omega) ?_))))
      · have : j = 8 := by omega
        subst this
        rw [ha]
      · simp only [bc]; rw [ha, q]; rfl
      · simp only [bc]; rw [ha, q]; rfl
  unfold g_X12_inMany
  exact key FU 0 0 0 rfl (by omega) (by rw [FU_e]; omega) rfl
def QK (A : Nat → Nat → Int) (z v : Int) : Prop := (z = 0 ∧ v = A 0 20) ∨ (z = 1 ∧ v = ((bc (told A) 8 : Nat) : Int)) ∨ (z = 2 ∧ v = ((bc (inb A) 8 : Nat) : Int)) ∨ (z = 3 ∧ v = A 9 0) ∨ (z = 4 ∧ v = ((bc (hrd A) 12 : Nat) : Int)) ∨ (z = 5 ∧ v = A 0 2) ∨ (z = 6 ∧ ∃ n : Nat, Nc (Sc A (hrd A)) n ∧ v = n) ∨ (z = 7 ∧ v = A 0 24) ∨ ((z < 0 ∨ 7 < z) ∧ v = -1)
theorem sc_xp {A : Nat → Nat → Int} {P : Nat → Bool} : Xp (Sc A P) := fun _ h => h.1
theorem qk_fun {A : Nat → Nat → Int} {z v w : Int} (h : QK A z v) (g : QK A z w) : v = w := by
  unfold QK at h g
  by_cases c : z = 6
  · subst c
    have h' : ∃ n : Nat, Nc (Sc A (hrd A)) n ∧ v = n := by
      rcases h with q | q | q | q | q | q | q | q | q
      all_goals first | exact q.2 | (exfalso; have := q.1; omega)
    have g' : ∃ n : Nat, Nc (Sc A (hrd A)) n ∧ w = n := by
      rcases g with q | q | q | q | q | q | q | q | q
      all_goals first | exact q.2 | (exfalso; have := q.1; omega)
    obtain ⟨n, a, b⟩ := h'
    obtain ⟨m, a', b'⟩ := g'
    have := nc_fun sc_xp a a'
    omega
  · rcases h with q | q | q | q | q | q | q | q | q
    all_goals first | exact absurd q.1 c | (rcases g with r | r | r | r | r | r | r | r | r; all_goals first | exact absurd r.1 c | omega)
theorem a_count {A : Nat → Nat → Int} {ζ : ZS} (h : Rf A ζ) (hW : Wall A) {z : Int} (hz : r32 z) : Ok (g_X12_count z ζ) (RP A ζ (QK A z)) := by
  have f0 : Fx (fun x _ => x < 25 ∧ x ≠ 5) ζ (zI ζ 0 0 0) := fx_I (fx_refl _ _) (by decide)
  have h0 := rf_0 h 0
  have t0 : Int.toNat 0 = 0 := rfl
  have rd : ∀ k, (k = 2 ∨ k = 20 ∨ k = 24) → (zI ζ 0 0 0).1 0 k = A 0 k := fun k hk => h0 0 k (by unfold psl; omega)
  unfold g_X12_count g_X12_count_104
  rw [t0]
  refine ok_gI hz.1 hz.2 (by omega) (by omega) (fun g => ok_some ⟨Or.inl ⟨g, rd 20 (by omega)⟩, h0, f0⟩) (fun n0 => ?_)
  refine ok_gI hz.1 hz.2 (by omega) (by omega) (fun g => ok_beq (s_toldMany h0 hW.1) (ok_some ⟨Or.inr (Or.inl ⟨g, rfl⟩), h0, f0⟩)) (fun n1 => ?_)
  refine ok_gI hz.1 hz.2 (by omega) (by omega) (fun g => ok_beq (s_inMany h0 hW.1) (ok_some ⟨Or.inr (Or.inr (Or.inl ⟨g, rfl⟩)), h0, f0⟩)) (fun n2 => ?_)
  refine ok_gI hz.1 hz.2 (by omega) (by omega) (fun g => ok_gk (by omega) (by omega) (ok_some ⟨Or.inr (Or.inr (Or.inr (Or.inl ⟨g, rf_c h0 (c := 9) (by omega) (by omega)⟩))), h0, f0⟩)) (fun n3 => ?_)
  refine ok_gI hz.1 hz.2 (by omega) (by omega) (fun g => ok_beq (s_heard h0 hW.2.1 hW.2.2.1) (ok_beq (s_bits _ rfl) (ok_some ⟨Or.inr (Or.inr (Or.inr (Or.inr (Or.inl ⟨g, rfl⟩)))), h0, f0⟩))) (fun n4 => ?_)
  refine ok_gI hz.1 hz.2 (by omega) (by omega) (fun g => ok_some ⟨Or.inr (Or.inr (Or.inr (Or.inr (Or.inr (Or.inl ⟨g, rd 2 (by omega)⟩))))), h0, f0⟩) (fun n5 => ?_)
  refine ok_gI hz.1 hz.2 (by omega) (by omega) (fun g => ?_) (fun n6 => ?_)
  · refine ok_bind (s_findNow h0 hW) (fun r ⟨lw, hr, hf, r01, r1⟩ => ?_)
    obtain ⟨n, hn, n44, hne, _⟩ := lb_n lw.1 (by omega)
    obtain ⟨n', hn', hc⟩ := lb_nc lw.1
    have en : n' = n := by omega
    subst en
    have fin : ∀ v, v = (n' : Int) → RP A ζ (QK A z) (v, r.2) := fun v hv => ⟨Or.inr (Or.inr (Or.inr (Or.inr (Or.inr (Or.inr (Or.inl ⟨g, n', hc, hv⟩)))))), hr, fx_trans f0 (wq_25 hf)⟩
    refine ok_gI (by omega) (by omega) (by omega) (by omega) (fun q => ok_some (fin 0 ?_)) (fun q => ok_gk (by omega) (by omega) (ok_some (fin _ hn)))
    have : ¬ 0 < n' := fun c => by have := r1.mpr (hne.mp c); omega
    omega
  · refine ok_gI hz.1 hz.2 (by omega) (by omega) (fun g => ok_some ⟨Or.inr (Or.inr (Or.inr (Or.inr (Or.inr (Or.inr (Or.inr (Or.inl ⟨g, rd 24 (by omega)⟩))))))), h0, f0⟩) (fun n7 => ok_some ⟨Or.inr (Or.inr (Or.inr (Or.inr (Or.inr (Or.inr (Or.inr (Or.inr ⟨by omega, rfl⟩))))))), h0, f0⟩)
theorem b_count {A : Nat → Nat → Int} {ζ : ZS} (h : Cls A ζ) (hW : Wall A) {z : Int} (hz : r32 z) : Ok (g_X11_count z ζ) (CP A ζ (QK A z)) := by
  have qk := hW.1.1
  obtain ⟨k, hk⟩ : ∃ k : Nat, A 0 20 = k := ⟨(A 0 20).toNat, by omega⟩
  unfold g_X11_count g_J6_bitCount_0f7a4
  refine ok_bind (s_fresh hW h) (fun ζ1 ⟨c1, f1⟩ => ?_)
  obtain ⟨⟨⟨c, d, hc, hd, hcd, r1, r2, hch⟩, hth, a1, a2, a3, a4, a5, a6, a7⟩, hfr, -⟩ := id c1
  have fin : ∀ v, QK A z v → Ok (some (v, ζ1)) (CP A ζ (QK A z)) := fun v hv => ok_some ⟨hv, cf_cls c1, f1⟩
  refine ok_gI hz.1 hz.2 (by omega) (by omega) (fun g => fin _ (Or.inl ⟨g, a1⟩)) (fun n0 => ?_)
  refine ok_gI hz.1 hz.2 (by omega) (by omega) (fun g => ok_beq rfl (fin _ (Or.inr (Or.inl ⟨g, by rw [hth.1, zbc_msk _ (by omega)]⟩)))) (fun n1 => ?_)
  refine ok_gI hz.1 hz.2 (by omega) (by omega) (fun g => ok_beq rfl (fin _ (Or.inr (Or.inr (Or.inl ⟨g, by rw [hfr.1.2, zbc_msk _ (by omega)]⟩))))) (fun n2 => ?_)
  refine ok_gI hz.1 hz.2 (by omega) (by omega) (fun g => ok_rk r1 (cell_kd hc) (fin _ (Or.inr (Or.inr (Or.inr (Or.inl ⟨g, hch.2.1⟩)))))) (fun n3 => ?_)
  refine ok_gI hz.1 hz.2 (by omega) (by omega) (fun g => ok_beq rfl (fin _ (Or.inr (Or.inr (Or.inr (Or.inr (Or.inl ⟨g, by rw [hfr.2.2.1, zbc_msk _ (by omega)]⟩))))))) (fun n4 => ?_)
  refine ok_gI hz.1 hz.2 (by omega) (by omega) (fun g => fin _ (Or.inr (Or.inr (Or.inr (Or.inr (Or.inr (Or.inl ⟨g, a5⟩))))))) (fun n5 => ?_)
  refine ok_gI hz.1 hz.2 (by omega) (by omega) (fun g => fin _ (Or.inr (Or.inr (Or.inr (Or.inr (Or.inr (Or.inr (Or.inl ⟨g, ?_⟩)))))))) (fun n6 => ?_)
  · obtain ⟨n, hn, hc⟩ := cs_nc (cf_fit c1 hk)
    exact ⟨n, hc, hn⟩
  · exact ok_gI hz.1 hz.2 (by omega) (by omega) (fun g => fin _ (Or.inr (Or.inr (Or.inr (Or.inr (Or.inr (Or.inr (Or.inr (Or.inl ⟨g, a3⟩))))))))) (fun n7 => fin _ (Or.inr (Or.inr (Or.inr (Or.inr (Or.inr (Or.inr (Or.inr (Or.inr ⟨by omega, rfl⟩)))))))))
/-! corners in order -/
noncomputable def lxd (k : Nat) (v w : V4) : Bool := @decide (Lx k v w) (Classical.propDecidable _)
theorem lxd_iff {k : Nat} {v w : V4} : lxd k v w = true ↔ Lx k v w := by unfold lxd; exact @decide_eq_true_iff _ (Classical.propDecidable _)
/-- the corner ahead of which stand c -/
def Kc (k : Nat) (X : V4 → Prop) (c m : Nat) (v : Int) : Prop := ∃ (L : List V4) (n : Nat) (f : Nat → V4) (i : Nat), (∀ w, InC L w ↔ X w) ∧ IsC L n f ∧ i < n ∧ bc (fun j => lxd k (f j) (f i)) n = c ∧ v = f i m
/-- corners of k measures differ in one of these -/
def Zk (k : Nat) (X : V4 → Prop) : Prop := ∀ w, X w → ∀ i, i < 4 → k ≤ i → w i = 0
theorem isc_dif {L : List V4} {n k : Nat} {f : Nat → V4} {X : V4 → Prop} (hX : ∀ w, InC L w ↔ X w) (hz : Zk k X) (h : IsC L n f) {i j : Nat} (hi : i < n) (hj : j < n) (hij : i ≠ j) : ∃ m, m < k ∧ f i m ≠ f j m := by
  apply Classical.byContradiction
  intro c
  apply hij
  refine h.2.1 i j hi hj (par_of_e4 (fun m hm => ?_))
  by_cases g : m < k
  · apply Classical.byContradiction
    intro c2
    exact c ⟨m, g, c2⟩
  · rw [hz _ ((hX _).mp (h.1 i hi).1.1) m hm (by omega), hz _ ((hX _).mp (h.1 j hj).1.1) m hm (by omega)]
theorem rank_lt {L : List V4} {n k : Nat} {f : Nat → V4} {i j : Nat} (hi : i < n) (hj : j < n) (h : Lx k (f i) (f j)) (_ : IsC L n f) : bc (fun l => lxd k (f l) (f i)) n < bc (fun l => lxd k (f l) (f j)) n := by
  have e := bc_rem (q := fun l => lxd k (f l) (f j)) (a := i) (m := n) hi (lxd_iff.mpr h)
  have := bc_lt (n := n) (p := fun l => lxd k (f l) (f i)) (q := fun l => lxd k (f l) (f j) && !decide (l = i)) (fun l hl q => by
    have q := lxd_iff.mp q
    have a : lxd k (f l) (f j) = true := lxd_iff.mpr (lx_trans q h)
    have b : l ≠ i := fun e => by subst e; exact lx_irr q
    simp [a, b])
  omega
theorem kc_fun {k c m : Nat} {X : V4 → Prop} (hk : k ≤ 4) (hp : Xp X) (hz : Zk k X) (hm : m < 4) {v w : Int} (h : Kc k X c m v) (g : Kc k X c m w) : v = w := by
  obtain ⟨L, n, f, i, h1, h2, h3, h4, h5⟩ := h
  obtain ⟨M, n', e, j, g1, g2, g3, g4, g5⟩ := g
  have g2' := isc_congr (B := L) (fun x => (g1 x).trans (h1 x).symm) g2
  have hpos : ∀ w, InC L w → ∀ i, i < 4 → 0 ≤ w i := fun w hw => hp w ((h1 w).mp hw)
  have s1 := isc_same hpos h2 g2'
  have s2 := isc_same hpos g2' h2
  -- the rank of f i among the others
  have cnt : ∀ u : V4, bc (fun l => lxd k (f l) u) n = bc (fun l => lxd k (e l) u) n' := by
    intro u
    have half : ∀ {a b : Nat} {p q : Nat → V4}, (∀ i, i < a → ∃ j, j < b ∧ ∀ x, x < 4 → p i x = q j x) → (∀ i j, i < a → j < a → par (p i) (p j) → i = j) → bc (fun l => lxd k (p l) u) a ≤ bc (fun l => lxd k (q l) u) b := by
      intro a b p q hs hi
      refine bc_inj a (fun i => if hi : i < a then (hs i hi).choose else 0) (fun i hia hq => ?_) (fun i j hia hja ee => ?_)
      · simp only [dif_pos hia]
        exact ⟨(hs i hia).choose_spec.1, lxd_iff.mpr (lx_e4 hk (lxd_iff.mp hq) (hs i hia).choose_spec.2 (fun _ _ => rfl))⟩
      · simp only [dif_pos hia, dif_pos hja] at ee
        have a1 := (hs i hia).choose_spec.2
        have a2 := (hs j hja).choose_spec.2
        rw [ee] at a1
        exact hi i j hia hja (fun x hx y hy => by rw [a1 x hx, a1 y hy, a2 x hx, a2 y hy, Int.mul_comm])
    exact Nat.le_antisymm (half s1 h2.2.1) (half s2 g2'.2.1)
  obtain ⟨t, ht, et⟩ := s1 i h3
  have rt : bc (fun l => lxd k (e l) (e t)) n' = c := by
    rw [← h4, cnt]
    refine bc_congr (fun l _ => ?_)
    cases q : lxd k (e l) (f i) with
    | true => exact lxd_iff.mpr (lx_e4 hk (lxd_iff.mp q) (fun _ _ => rfl) et)
    | false =>
      cases q2 : lxd k (e l) (e t) with
      | false => rfl
      | true => rw [lxd_iff.mpr (lx_e4 hk (lxd_iff.mp q2) (fun _ _ => rfl) (e4_symm et))] at q; cases q
  have ej : t = j := by
    apply Classical.byContradiction
    intro c2
    rcases lx_total (isc_dif g1 hz g2 ht g3 c2) with q | q
    · have := rank_lt ht g3 q g2; omega
    · have := rank_lt g3 ht q g2; omega
  rw [h5, g5, ← ej]
  exact et m hm
/-- each place below n is some corner's -/
theorem rank_all {L : List V4} {n k : Nat} {f : Nat → V4} {X : V4 → Prop} (hX : ∀ w, InC L w ↔ X w) (hz : Zk k X) (h : IsC L n f) {c : Nat} (hc : c < n) : ∃ i, i < n ∧ bc (fun j => lxd k (f j) (f i)) n = c := by
  apply Classical.byContradiction
  intro no
  have ne : ∀ i, i < n → bc (fun j => lxd k (f j) (f i)) n ≠ c := fun i hi e => no ⟨i, hi, e⟩
  have lt : ∀ i, i < n → bc (fun j => lxd k (f j) (f i)) n < n := fun i hi => by
    have e := bc_rem (q := fun _ => true) (a := i) (m := n) hi rfl
    have l := bc_le (fun _ => true) n
    have := bc_lt (n := n) (p := fun j => lxd k (f j) (f i)) (q := fun j => true && !decide (j = i)) (fun j hj q => by
      have : j ≠ i := fun e => by subst e; exact lx_irr (lxd_iff.mp q)
      simp [this])
    omega
  have inj : ∀ i j, i < n → j < n → bc (fun l => lxd k (f l) (f i)) n = bc (fun l => lxd k (f l) (f j)) n → i = j := fun i j hi hj e => by
    apply Classical.byContradiction
    intro c2
    rcases lx_total (isc_dif hX hz h hi hj c2) with q | q
    · have := rank_lt hi hj q h; omega
    · have := rank_lt hj hi q h; omega
  have := inj_le n (n - 1) (fun i => if bc (fun j => lxd k (f j) (f i)) n < c then bc (fun j => lxd k (f j) (f i)) n else bc (fun j => lxd k (f j) (f i)) n - 1) (fun i hi => by
    have a := lt i hi
    have b := ne i hi
    revert a b
    generalize bc (fun j => lxd k (f j) (f i)) n = r
    intro a b
    split <;> omega) (fun i j hi hj e => by
    have e : (if bc (fun l => lxd k (f l) (f i)) n < c then bc (fun l => lxd k (f l) (f i)) n else bc (fun l => lxd k (f l) (f i)) n - 1) = (if bc (fun l => lxd k (f l) (f j)) n < c then bc (fun l => lxd k (f l) (f j)) n else bc (fun l => lxd k (f l) (f j)) n - 1) := e
    have a := ne i hi
    have b := ne j hj
    apply inj i j hi hj
    split at e <;> split at e <;> omega)
  omega
def QZ (A : Nat → Nat → Int) (z y v : Int) : Prop := (((0 ≤ y ∧ y < A 0 20) ∧ ∃ n : Nat, Nc (Sc A (hrd A)) n ∧ 0 ≤ z ∧ z < n) ∧ Kc (A 0 20).toNat (Sc A (hrd A)) z.toNat y.toNat v) ∨ (¬ ((0 ≤ y ∧ y < A 0 20) ∧ ∃ n : Nat, Nc (Sc A (hrd A)) n ∧ 0 ≤ z ∧ z < n) ∧ v = -1)
theorem sc_zk {A : Nat → Nat → Int} (hw : Wa A) {P : Nat → Bool} : Zk (A 0 20).toNat (Sc A P) := fun w h i hi hk => h.2.1 i hi (by have := hw.1; omega)
theorem qz_fun {A : Nat → Nat → Int} (hw : Wa A) {z y v w : Int} (h : QZ A z y v) (g : QZ A z y w) : v = w := by
  have := hw.1
  rcases h with ⟨a, b⟩ | ⟨a, b⟩ <;> rcases g with ⟨a', b'⟩ | ⟨a', b'⟩
  · exact kc_fun (by omega) sc_xp (sc_zk hw) (by omega) b b'
  · exact absurd a a'
  · exact absurd a' a
  · omega
theorem s_isAhead {A : Nat → Nat → Int} {ζ : ZS} (h : Rf A ζ) {i j k : Nat} {z y : Int} (hz : z = i) (hy : y = j) (hi : i < 72) (hj : j < 72) (hk : A 0 20 = k) (hk4 : k ≤ 4) (hb : ∀ m, m < 4 → (0 ≤ rf ζ 0 i m ∧ rf ζ 0 i m ≤ 6000000) ∧ 0 ≤ rf ζ 0 j m ∧ rf ζ 0 j m ≤ 6000000) : Ok (g_X12_isAhead z y ζ) (fun r => r.2 = ζ ∧ r.1 = bi (lxd k (rf ζ 0 i) (rf ζ 0 j))) := by
  subst hz; subst hy
  have e20 : ζ.1 0 20 = k := by rw [rf_k h, hk]
  have key : ∀ (n : Nat) (w : Int) (m : Nat), w = m → m ≤ k → k - m < n → (∀ x, x < m → rf ζ 0 i x = rf ζ 0 j x) → Ok (g_X12_isAhead_2 (i : Int) (j : Int) n w ζ) (fun r => r.2 = ζ ∧ r.1 = bi (lxd k (rf ζ 0 i) (rf ζ 0 j))) := by
    intro n
    induction n with
    | zero => intro _ _ _ _ h; omega
    | succ n ih =>
      intro w m hw hm hn heq
      subst hw
      unfold g_X12_isAhead_2 g_X12_isAhead_51
      rw [e20]
      have no : ¬ Lx k (rf ζ 0 i) (rf ζ 0 j) → lxd k (rf ζ 0 i) (rf ζ 0 j) = false := fun q => by
        cases e : lxd k (rf ζ 0 i) (rf ζ 0 j) with
        | false => rfl
        | true => exact absurd (lxd_iff.mp e) q
      refine ok_gI (by omega) (by omega) (by omega) (by omega) (fun g => ok_some ⟨rfl, ?_⟩) (fun g => ?_)
      · rw [no (fun ⟨x, a, b, c⟩ => by have := heq x (by omega); omega)]; rfl
      · have b := hb m (by omega)
        refine ok_beq (s_weightAt ζ (lv := 0) (c := i) (m := m) rfl rfl rfl (by omega) hi (by omega)) (ok_beq (s_weightAt ζ (lv := 0) (c := j) (m := m) rfl rfl rfl (by omega) hj (by omega)) (ok_gJ (by omega) (by omega) (by omega) (by omega) (fun q => ih _ (m + 1) (by omega) (by omega) (by omega) (fun x hx => ?_)) (fun q => ?_)))
        · by_cases c : x = m
          · rw [c]; exact q
          · exact heq x (by omega)
        · refine ok_beq (s_weightAt ζ (lv := 0) (c := i) (m := m) rfl rfl rfl (by omega) hi (by omega)) (ok_beq (s_weightAt ζ (lv := 0) (c := j) (m := m) rfl rfl rfl (by omega) hj (by omega)) (ok_gJ (by omega) (by omega) (by omega) (by omega) (fun q2 => ok_gz (Or.inl rfl) (ok_some ⟨rfl, ?_⟩)) (fun q2 => ok_gz (Or.inr rfl) (ok_some ⟨rfl, ?_⟩))))
          · rw [no]
            · rfl
            · rintro ⟨x, a, b, c⟩
              by_cases c1 : x < m
              · have := heq x c1; omega
              · by_cases c2 : x = m
                · subst c2; dsimp only at q q2; omega
                · exact q (b m (by omega))
          · rw [lxd_iff.mpr ⟨m, by omega, heq, by dsimp only at q2; omega⟩]; rfl
  unfold g_X12_isAhead
  exact key FU 0 0 rfl (by omega) (by rw [FU_e]; omega) (fun x hx => by omega)
theorem a_corner {A : Nat → Nat → Int} {ζ : ZS} (h : Rf A ζ) (hW : Wall A) {z y : Int} (hz : r32 z) (hy : r32 y) : Ok (g_X12_corner z y ζ) (RP A ζ (QZ A z y)) := by
  have qk := hW.1.1
  obtain ⟨k, hk⟩ : ∃ k : Nat, A 0 20 = k := ⟨(A 0 20).toNat, by omega⟩
  have f0 : Fx (fun x _ => x < 25 ∧ x ≠ 5) ζ (zI ζ 0 0 0) := fx_I (fx_refl _ _) (by decide)
  have h0 := rf_0 h 0
  have t0 : Int.toNat 0 = 0 := rfl
  unfold g_X12_corner g_X12_corner_42
  rw [t0, rf_k h0]
  refine ok_beq (s_within _ hy (by omega) (by omega)) (ok_bi (fun e => ok_some (rp_same h (Or.inr ⟨fun q => bd_f e ⟨q.1.1, by omega⟩, rfl⟩))) (fun e => ?_))
  have ey := bd_t e
  refine ok_bind (s_findNow h0 hW) (fun r ⟨lw, hr, hf, r01, r1⟩ => ?_)
  have f1 := fx_trans f0 (wq_25 hf)
  obtain ⟨n, hn, n44, hne, hcs, _⟩ := lb_n lw.1 (by omega)
  obtain ⟨n', hn', hc⟩ := lb_nc lw.1
  have en : n' = n := by omega
  subst en
  have none : ¬ (0 ≤ z ∧ z < n') → Ok (some ((-1 : Int), r.2)) (RP A ζ (QZ A z y)) := fun q => ok_some ⟨Or.inr ⟨fun ⟨_, m, a, b⟩ => q (by rw [nc_fun sc_xp hc a]; exact b), rfl⟩, hr, f1⟩
  refine ok_gI (by omega) (by omega) (by omega) (by omega) (fun q => none (fun c => by have := r1.mpr (hne.mp (by omega)); omega)) (fun q => ok_gk (by omega) (by omega) ?_)
  rw [hn]
  refine ok_beq (s_within _ hz (by omega) (by omega)) (ok_bi (fun e2 => none (fun c => bd_f e2 ⟨c.1, by omega⟩)) (fun e2 => ?_))
  have ez := bd_t e2
  dsimp only
  generalize r.2 = ζ1 at lw hr hf f1 hn hn' hcs none ⊢
  obtain ⟨k', R, n'', ρ, a1, a2, a3, a4, a5, a6⟩ := lw.1
  have ek : k' = k := by omega
  have en : n'' = n' := by have := a6.1; omega
  subst ek; subst en
  have hX : ∀ w, InC (Ak k' R ρ) w ↔ Sc A (hrd A) w := a5
  have hI : IsC (Ak k' R ρ) n'' (rf ζ1 0) := a6.2.2
  have hz4 : Zk k' (Sc A (hrd A)) := by have := sc_zk hW.1 (P := hrd A); rw [hk] at this; exact this
  have good : ∀ i, i < n'' → bc (fun j => lxd k' (rf ζ1 0 j) (rf ζ1 0 i)) n'' = z.toNat → ∀ v, v = rf ζ1 0 i y.toNat → Ok (some (v, ζ1)) (RP A ζ (QZ A z y)) := fun i hi hb v hv => ok_some ⟨Or.inl ⟨⟨⟨ey.1, by omega⟩, n'', hc, ez.1, by omega⟩, _, n'', _, i, hX, hI, hi, by rw [hk]; exact hb, hv⟩, hr, f1⟩
  have key : ∀ (n : Nat) (w : Int) (i : Nat), w = i → i ≤ n'' → n'' - i < n → (∀ i', i' < i → bc (fun j => lxd k' (rf ζ1 0 j) (rf ζ1 0 i')) n'' ≠ z.toNat) → Ok (g_X12_corner_48 z y n w ζ1) (RP A ζ (QZ A z y)) := by
    intro n
    induction n with
    | zero => intro _ _ _ _ h; omega
    | succ n ih =>
      intro w i hw hi hn1 hold
      subst hw
      unfold g_X12_corner_48
      rw [t0, hn]
      refine ok_gk (by omega) (by omega) (ok_gI (by omega) (by omega) (by omega) (by omega) (fun g => ?_) (fun g => ?_))
      · exfalso
        obtain ⟨j, hj, ej⟩ := rank_all hX hz4 hI (c := z.toNat) (by omega)
        exact hold j (by omega) ej
      · have inner : ∀ (m : Nat) (a w : Int) (j : Nat), w = j → j ≤ n'' → n'' - j < m → a = ((bc (fun l => lxd k' (rf ζ1 0 l) (rf ζ1 0 i)) j : Nat) : Int) → Ok (g_X12_corner_64 z y (i : Int) (g_X12_corner_48 z y n) m a w ζ1) (RP A ζ (QZ A z y)) := by
          intro m
          induction m with
          | zero => intro _ _ _ _ _ h; omega
          | succ m ih2 =>
            intro a w j hw hj hm ha
            subst hw
            have bl := bc_le (fun l => lxd k' (rf ζ1 0 l) (rf ζ1 0 i)) j
            unfold g_X12_corner_64 g_X12_corner_92
            rw [t0, hn]
            refine ok_gk (by omega) (by omega) (ok_gI (by omega) (by omega) (by omega) (by omega) (fun g1 => ?_) (fun g1 => ?_))
            · have ej : j = n'' := by omega
              subst ej
              refine ok_gI (by omega) (by omega) (by omega) (by omega) (fun g2 => ok_beq (s_weightAt ζ1 (lv := 0) (c := i) (m := y.toNat) rfl rfl (by omega) (by omega) (by omega) (by omega)) (good i (by omega) (by omega) _ rfl)) (fun g2 => ih _ (i + 1) (by omega) (by omega) (by omega) (fun i' hi' => ?_))
              by_cases c : i' = i
              · subst c; omega
              · exact hold i' (by omega)
            · have b1 := (hcs i (by omega)).2.2.1
              have b2 := (hcs j (by omega)).2.2.1
              refine ok_bind (s_isAhead hr rfl rfl (by omega) (by omega) hk (by omega) (fun m hm => ⟨b2 m hm, b1 m hm⟩)) (fun q ⟨q1, q2⟩ => ?_)
              rw [q1, q2]
              refine ok_bi (fun c => ih2 _ _ (j + 1) (by omega) (by omega) (by omega) ?_) (fun c => ih2 _ _ (j + 1) (by omega) (by omega) (by omega) ?_)
              · simp only [bc, c]; rw [ha]; rfl
              · simp only [bc, c]; rw [ha]; rfl
        exact inner FU 0 0 0 rfl (by omega) (by rw [FU_e]; omega) rfl
  exact key FU 0 0 rfl (by omega) (by rw [FU_e]; omega) (fun i' hi' => by omega)
theorem b_corner {A : Nat → Nat → Int} {ζ : ZS} (h : Cls A ζ) (hW : Wall A) {z y : Int} (hz : r32 z) (hy : r32 y) : Ok (g_X11_corner z y ζ) (CP A ζ (QZ A z y)) := by
  have qk := hW.1.1
  unfold g_X11_corner g_X11_corner_30
  refine ok_bind (s_fresh hW h) (fun ζ1 ⟨c1, f1⟩ => ?_)
  obtain ⟨hcr, ⟨_, _, _, k, hk, _, R, n, ρ, b6, b7, b8, b9, b10⟩, -⟩ := id c1
  have n42 : n ≤ 42 := cs_44 b6 b7 b8 (by omega)
  have hc : Nc (Sc A (hrd A)) n := ⟨_, _, b9, b6.2.2.2.2⟩
  have none : ¬ ((0 ≤ y ∧ y < A 0 20) ∧ 0 ≤ z ∧ z < n) → Ok (some ((-1 : Int), ζ1)) (CP A ζ (QZ A z y)) := fun q => ok_some ⟨Or.inr ⟨fun ⟨c0, m, a, b⟩ => q ⟨c0, by rw [nc_fun sc_xp hc a]; exact b⟩, rfl⟩, cf_cls c1, f1⟩
  rw [b6.2.2.1]
  refine ok_gI hz.1 hz.2 (by omega) (by omega) (fun g => none (by omega)) (fun g => ok_gI (by omega) (by omega) hz.1 hz.2 (fun g2 => none (by omega)) (fun g2 => ok_beq (s_hasMeasure hcr.2.2.1 hW.1 hy) ?_))
  refine ok_bi (fun e => none (fun c => ?_)) (fun e => ?_)
  · rw [decide_eq_true c.1.1, decide_eq_true c.1.2] at e; cases e
  simp only [Bool.and_eq_true, decide_eq_true_eq] at e
  refine ok_beq (s_weight ζ1 68 (i := z.toNat) (m := y.toNat) (by omega) (by omega) (by omega) (by omega)) (ok_some ⟨Or.inl ⟨⟨e, n, hc, by omega, by omega⟩, _, n, _, z.toNat, b9, b6.2.2.2.2, by omega, ?_, rfl⟩, cf_cls c1, f1⟩)
  rw [hk]
  have eq : ∀ j, j ≤ n → bc (fun j => lxd k (cw ζ1 68 j) (cw ζ1 68 z.toNat)) j = if j ≤ z.toNat then j else z.toNat := by
    intro j
    induction j with
    | zero => intro _; rfl
    | succ j ih =>
      intro hj
      simp only [bc]
      rw [ih (by omega)]
      by_cases c : j < z.toNat
      · rw [if_pos (show j ≤ z.toNat by omega), if_pos (lxd_iff.mpr (b10 j z.toNat c (by omega))), if_pos (by omega)]
      · have nl : ¬ lxd k (cw ζ1 68 j) (cw ζ1 68 z.toNat) = true := fun q => by
          have q := lxd_iff.mp q
          by_cases c2 : j = z.toNat
          · rw [c2] at q; exact lx_irr q
          · exact lx_irr (lx_trans q (b10 z.toNat j (by omega) (by omega)))
        rw [if_neg nl, if_neg (show ¬ j + 1 ≤ z.toNat by omega)]
        split <;> omega
  show bc (fun j => lxd k (cw ζ1 68 j) (cw ζ1 68 z.toNat)) n = z.toNat
  rw [eq n (by omega)]
  split <;> omega
