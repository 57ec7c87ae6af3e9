/-! the class: all worked out -/
def Rws (A : Nat → Nat → Int) (ζ : ZS) : Prop := ∀ s m : Nat, (s : Int) < A 9 0 → m < 4 → ζ.1 (52 + s) m = sr A s m
theorem ln_row : ∀ s, s < 12 → ln (52 + s) = 4 := by decide
/-- a cone of the class stands for a set of weights -/
def Cs (ζ : ZS) (c : Nat) (k : Nat) (X : V4 → Prop) (q : Nat) : Prop := ∃ R n ρ, Cn ζ c k R n ρ ∧ Rk k R ρ ∧ R ≤ k + q ∧ ∀ w, InC (Ak k R ρ) w ↔ X w
theorem cs_44 {ζ : ZS} {c k q n R : Nat} {ρ : Nat → V4} (h : Cn ζ c k R n ρ) (hr : Rk k R ρ) (hq : R ≤ k + q) (h19 : q ≤ 19) : n ≤ 42 := cn_44 h hr (by have := hr.2.1; omega)
theorem cs_cut (ζ : ZS) (c d e : Nat) {k q : Nat} {X : V4 → Prop} {r : V4} (h : Cs ζ d k X q) (hq : q ≤ 18) (hd : c + 3 < d ∨ d + 3 < c) (hl : ln e = 4) (hec : e < c ∨ c + 3 < e) (hed : e < d ∨ d + 3 < e) (hrow : ∀ m, m < 4 → ζ.1 e m = r m) (hbd : bd r) : Ok (g_X1_becomeCut c d e ζ) (fun ζ' => Cs ζ' c k (fun w => X w ∧ 0 ≤ dt r w) (q + 1) ∧ Fx (Wc c d) ζ ζ') := by
  obtain ⟨R, n, ρ, hc, hr, hRq, hsem⟩ := h
  have h4 := hr.2.1
  have hbd' : bd (fun m => ζ.1 e m) := fun m hm => by show -100 ≤ ζ.1 e m ∧ ζ.1 e m ≤ 100; rw [hrow m hm]; exact hbd m hm
  refine ok_mono (s_becomeCut ζ c d e hc hr (by omega) hd hl hec hed hbd') (fun ζ' ⟨n', hc', hf⟩ => ⟨⟨R + 1, n', _, hc', Rk_rx hr hbd', by omega, fun w => ?_⟩, hf⟩)
  rw [inc_rx, hsem w, dt_e4l (s := r) (fun m hm => hrow m hm)]
theorem cs_become (ζ : ZS) (c d : Nat) {k q : Nat} {X : V4 → Prop} (h : Cs ζ d k X q) (hq : q ≤ 19) (hd : c + 3 < d ∨ d + 3 < c) : Ok (g_X1_become c d ζ) (fun ζ' => Cs ζ' c k X q ∧ Fx (Wb c) ζ ζ') := by
  obtain ⟨R, n, ρ, hc, hr, hRq, hsem⟩ := h
  have h4 := hr.2.1
  have := cs_44 hc hr hRq hq
  exact ok_mono (s_become ζ c d hc (by omega) (by omega) h4 hd) (fun ζ' hq => ⟨⟨R, n, ρ, hq.1, hr, hRq, hsem⟩, hq.2.2⟩)
theorem cs_fx {ζ ζ' : ZS} {d k q : Nat} {X : V4 → Prop} (h : Cs ζ d k X q) (h1 : ∀ x y, d ≤ x → x ≤ d + 2 → ζ'.1 x y = ζ.1 x y ∧ ζ'.2.1 x y = ζ.2.1 x y) : Cs ζ' d k X q := by
  obtain ⟨R, n, ρ, hc, hr, hRq, hsem⟩ := h
  exact ⟨R, n, ρ, cn_fx hc (fun x => (h1 d x (by omega) (by omega)).1) (fun x => (h1 (d + 2) x (by omega) (by omega)).1) (fun x => (h1 (d + 1) x (by omega) (by omega)).2), hr, hRq, hsem⟩
theorem cs_congr {ζ : ZS} {d k q : Nat} {X Y : V4 → Prop} (h : Cs ζ d k X q) (e : ∀ w, X w ↔ Y w) : Cs ζ d k Y q := by
  obtain ⟨R, n, ρ, hc, hr, hRq, hsem⟩ := h
  exact ⟨R, n, ρ, hc, hr, hRq, fun w => (hsem w).trans (e w)⟩
theorem cs_mono {ζ : ZS} {d k q q' : Nat} {X : V4 → Prop} (h : Cs ζ d k X q) (e : q ≤ q') : Cs ζ d k X q' := by
  obtain ⟨R, n, ρ, hc, hr, hRq, hsem⟩ := h
  exact ⟨R, n, ρ, hc, hr, by omega, hsem⟩
/-- all weights of k measures -/
def Aw (k : Nat) (w : V4) : Prop := (∀ i, i < 4 → 0 ≤ w i) ∧ ∀ i, i < 4 → k ≤ i → w i = 0
theorem cs_whole {ζ : ZS} {c k : Nat} (h1 : 1 ≤ k) (h4 : k ≤ 4) (h : Cn ζ c k k k un) : Cs ζ c k (Aw k) 0 := ⟨k, k, un, h, Rk_whole h1 h4, by omega, fun w => inc_un h1 h4⟩
def Wst (x _y : Nat) : Prop := 73 ≤ x ∧ x ≤ 124
theorem s_cutBy {A : Nat → Nat → Int} {ζ : ZS} {k : Nat} {P : Nat → Bool} {z : Int} (hw : Wa A) (hs : Ws A) (hk : A 0 20 = k) (hz : z = ((msk P 12 : Nat) : Int)) (hP : ∀ s, s < 12 → P s = true → (s : Int) < A 9 0) (hrow : Rws A ζ) (hwh : Cn ζ 64 k k k un) : Ok (g_X10_cutBy z ζ) (fun r => ∃ d, d ≤ 12 ∧ r.1 = 73 + 4 * d ∧ Cs r.2 (73 + 4 * d) k (Sc A P) 12 ∧ Fx Wst ζ r.2) := by
  subst hz
  have qk := hw.1
  have q9 := hs.1
  let Sp : Nat → V4 → Prop := fun s w => (∀ i, i < 4 → 0 ≤ w i) ∧ (∀ i : Nat, i < 4 → A 0 20 ≤ (i : Int) → w i = 0) ∧ ∀ s' : Nat, s' < s → P s' = true → 0 ≤ dt (sr A s') w
  have key : ∀ (n : Nat) (y x : Int) (d s : Nat) (ζ1 : ZS), y = d → x = s → s ≤ 12 → d ≤ s → 12 - s < n → Cs ζ1 (73 + 4 * d) k (Sp s) d → Fx Wst ζ ζ1 → Ok (g_X10_cutBy_17 ((msk P 12 : Nat) : Int) n y x ζ1) (fun r => ∃ d, d ≤ 12 ∧ r.1 = 73 + 4 * d ∧ Cs r.2 (73 + 4 * d) k (Sc A P) 12 ∧ Fx Wst ζ r.2) := by
    intro n
    induction n with
    | zero => intro _ _ _ _ _ _ _ _ _ h; omega
    | succ n ih =>
      intro y x d s ζ1 hy hx hs12 hds hn hcs hf
      subst hy; subst hx
      unfold g_X10_cutBy_17 g_X10_cutBy_57
      refine ok_gI (by omega) (by omega) (by omega) (by omega) (fun g => ?_) (fun g => ?_)
      · refine ok_gk (by omega) (by omega) (ok_some ⟨d, by omega, by rw [show Int.toNat (d : Int) = d by omega], ?_, hf⟩)
        rw [show s = 12 by omega] at hcs
        refine cs_mono (cs_congr hcs (fun w => ?_)) (by omega)
        exact ⟨fun ⟨a, b, c⟩ => ⟨a, b, fun s' g1 g2 => c s' (by omega) g2⟩, fun ⟨a, b, c⟩ => ⟨a, b, fun s' g1 g2 => c s' (hP s' g1 g2) g2⟩⟩
      · refine bit_test (p := P) (n := 12) (t := s) rfl rfl (by omega) (by omega) (fun hp => ?_) (fun hp => ?_)
        · refine ih _ _ d (s + 1) ζ1 rfl (by omega) (by omega) (by omega) (by omega) (cs_congr hcs (fun w => ?_)) hf
          refine ⟨fun ⟨a, b, c⟩ => ⟨a, b, fun s' g1 g2 => ?_⟩, fun ⟨a, b, c⟩ => ⟨a, b, fun s' g1 g2 => c s' (by omega) g2⟩⟩
          by_cases e : s' = s
          · rw [e, hp] at g2; cases g2
          · exact c s' (by omega) g2
        · have hs9 := hP s (by omega) hp
          rw [show Int.toNat ((d : Int) + 1) = d + 1 by omega, show Int.toNat (d : Int) = d by omega, show Int.toNat (s : Int) = s by omega]
          refine ok_gk (by omega) (by omega) (ok_gk (by omega) (by omega) (ok_gk (by omega) (by omega) ?_))
          refine ok_bind (cs_cut ζ1 (73 + 4 * (d + 1)) (73 + 4 * d) (51 + 1 + s) (r := sr A s) hcs (by omega) (by omega) (ln_row s (by omega)) (by omega) (by omega) (fun m hm => ?_) (sr_bd hw hs hs9)) (fun ζ2 ⟨h2, f2⟩ => ?_)
          · rw [(hf.1 (51 + 1 + s) m (by unfold Wst; omega)).1]
            exact hrow s m hs9 hm
          · refine ih _ _ (d + 1) (s + 1) ζ2 (by omega) (by omega) (by omega) (by omega) (by omega) (cs_congr h2 (fun w => ?_)) (fx_trans hf (fx_mono f2 (fun x y g => by unfold Wc at g; unfold Wst; omega)))
            refine ⟨fun ⟨⟨a, b, c⟩, e0⟩ => ⟨a, b, fun s' g1 g2 => ?_⟩, fun ⟨a, b, c⟩ => ⟨⟨a, b, fun s' g1 g2 => c s' (by omega) g2⟩, c s (by omega) hp⟩⟩
            by_cases e : s' = s
            · rw [e]; exact e0
            · exact c s' (by omega) g2
  unfold g_X10_cutBy
  have e0 : Int.toNat 0 = 0 := rfl
  rw [e0]
  refine ok_gk (by omega) (by omega) (ok_bind (cs_become ζ (73 + 4 * 0) 64 (cs_whole (by omega) (by omega) hwh) (by omega) (by omega)) (fun ζ1 ⟨h1, f1⟩ => ?_))
  refine key FU 0 0 0 0 ζ1 rfl rfl (by omega) (by omega) (by rw [FU_e]; omega) (cs_congr h1 (fun w => ?_)) (fx_mono f1 (fun x y g => by unfold Wb at g; unfold Wst; omega))
  exact ⟨fun ⟨a, b⟩ => ⟨a, fun i g1 g2 => b i g1 (by omega), fun s' g1 => by omega⟩, fun ⟨a, b, _⟩ => ⟨a, fun i g1 g2 => b i g1 (by omega)⟩⟩
/-- what is worked out -/
def Fr (A : Nat → Nat → Int) (ζ : ZS) : Prop := Va A ζ ∧ Rws A ζ ∧ ζ.1 50 4 = ((msk (hrd A) 12 : Nat) : Int) ∧ ∃ k : Nat, A 0 20 = k ∧ Cn ζ 64 k k k un ∧ ∃ R n ρ, Cn ζ 68 k R n ρ ∧ Rk k R ρ ∧ R ≤ k + 12 ∧ (∀ w, InC (Ak k R ρ) w ↔ Sc A (hrd A) w) ∧ Srt ζ 68 k n
def Wwo (x y : Nat) : Prop := (x = 50 ∧ y = 4) ∨ (52 ≤ x ∧ x ≤ 124)
theorem s_workOut {A : Nat → Nat → Int} {ζ : ZS} {c : Nat} {z3 z4 : Int} (hw : Wa A) (hs : Ws A) (hv : Wv A) (hc : cell2 c) (hch : Ch A ζ c) (hto : ζ.1 30 3 = ((msk (told A) 8 : Nat) : Int)) (hva : Va A ζ) (h3 : z3 = A 0 23) (h4 : z4 = A 0 20) : Ok (g_X10_workOut c z3 z4 ζ) (fun ζ' => Fr A ζ' ∧ Fx Wwo ζ ζ') := by
  subst h3; subst h4
  have qk := hw.1
  have q9 := hs.1
  unfold cell2 at hc
  obtain ⟨n9, hn9⟩ : ∃ n : Nat, A 9 0 = n := ⟨(A 9 0).toNat, by omega⟩
  obtain ⟨k, hk⟩ : ∃ k : Nat, A 0 20 = k := ⟨(A 0 20).toNat, by omega⟩
  have fin : ∀ ζ1 : ZS, Rws A ζ1 → Fx Wwo ζ ζ1 → Ok ((g_X0_sayingsOf c (A 0 23) ζ1).bind fun q1 => (g_X1_becomeWhole 64 (A 0 20) (zI q1.2 50 4 q1.1)).bind fun q3 => (g_X10_cutBy (q3.1 50 4) q3).bind fun q4 => rk (some q4.1) 1 fun c105 => (g_X1_become 68 c105 q4.2).bind fun q6 => (g_X1_sort 68 q6).bind fun q7 => some q7) (fun ζ' => Fr A ζ' ∧ Fx Wwo ζ ζ') := by
    intro ζ1 hrow hf
    have hch1 : Ch A ζ1 c := ch_fx hch (fun x y g1 g2 => (hf.1 x y (by unfold Wwo; omega)).1)
    refine ok_beq (s_sayingsOf (Q := voc A) hs hch1 (voc_msk hv)) ?_
    have esof : sof A (voc A) = hrd A := rfl
    rw [esof]
    have f1 : Fx Wwo ζ (zI ζ1 50 4 ((msk (hrd A) 12 : Nat) : Int)) := fx_I hf (Or.inl ⟨rfl, rfl⟩)
    have rw1 : Rws A (zI ζ1 50 4 ((msk (hrd A) 12 : Nat) : Int)) := fun s m g1 g2 => by rw [zI_1, if_neg (by omega)]; exact hrow s m g1 g2
    have e50 : (zI ζ1 50 4 ((msk (hrd A) 12 : Nat) : Int)).1 50 4 = ((msk (hrd A) 12 : Nat) : Int) := by rw [zI_1, if_pos ⟨rfl, rfl⟩]
    generalize zI ζ1 50 4 ((msk (hrd A) 12 : Nat) : Int) = ζ2 at f1 rw1 e50
    refine ok_bind (s_becomeWhole ζ2 64 (k := k) hk (by decide) (by omega) (by omega)) (fun ζ3 ⟨w3, f3⟩ => ?_)
    have e50' : ζ3.1 50 4 = ((msk (hrd A) 12 : Nat) : Int) := by rw [(f3.1 50 4 (by unfold Wb; omega)).1]; exact e50
    have rw3 : Rws A ζ3 := fun s m g1 g2 => by rw [(f3.1 _ _ (by unfold Wb; omega)).1]; exact rw1 s m g1 g2
    refine ok_bind (s_cutBy (P := hrd A) hw hs hk e50' (fun s _ g => ?_) rw3 w3) (fun q ⟨d, hd, e1, hcs, f4⟩ => ?_)
    · unfold hrd at g
      simp only [Bool.and_eq_true, decide_eq_true_eq] at g
      exact g.1
    rw [e1]
    refine ok_rk rfl (kd_c17 d (by omega)) ?_
    obtain ⟨R, n, ρ, hcn, hr, hRq, hsem⟩ := hcs
    have h4 := hr.2.1
    have n42 := cs_44 hcn hr hRq (by omega)
    refine ok_bind (s_become q.2 68 (73 + 4 * d) hcn (by omega) (by omega) h4 (by omega)) (fun ζ5 ⟨c5, _, f5⟩ => ok_bind (s_sort c5 hr (by omega)) (fun ζ6 ⟨c6, s6, f6⟩ => ok_some ?_))
    have g36 : ∀ x y, (x < 66 ∨ 124 < x) → ζ6.1 x y = ζ3.1 x y := fun x y g => by
      rw [(f6.1 x y (by unfold Wsw; omega)).1, (f5.1 x y (by unfold Wb; omega)).1, (f4.1 x y (by unfold Wst; omega)).1]
    have w64 : Cn ζ6 64 k k k un := cn_fx w3 (fun x => g36 64 x (by omega)) (fun x => by rw [(f6.1 66 x (by unfold Wsw; omega)).1, (f5.1 66 x (by unfold Wb; omega)).1, (f4.1 66 x (by unfold Wst; omega)).1]) (fun x => by rw [(f6.1 65 x (by unfold Wsw; omega)).2, (f5.1 65 x (by unfold Wb; omega)).2, (f4.1 65 x (by unfold Wst; omega)).2])
    have fall : Fx Wwo ζ ζ6 := fx_trans f1 (fx_trans (fx_mono f3 (fun x y g => by unfold Wb at g; unfold Wwo; omega)) (fx_trans (fx_mono f4 (fun x y g => by unfold Wst at g; unfold Wwo; omega)) (fx_trans (fx_mono f5 (fun x y g => by unfold Wb at g; unfold Wwo; omega)) (fx_mono f6 (fun x y g => by unfold Wsw at g; unfold Wwo; omega)))))
    refine ⟨⟨⟨fun t m g1 g2 => ?_, ?_⟩, fun s m g1 g2 => ?_, ?_, k, hk, w64, R, n, ρ, c6, hr, hRq, hsem, s6⟩, fall⟩
    · rw [(fall.1 _ _ (by unfold Wwo; omega)).1]; exact hva.1 t m g1 g2
    · rw [(fall.1 _ _ (by unfold Wwo; omega)).1]; exact hva.2
    · rw [g36 _ _ (by omega)]; exact rw3 s m g1 g2
    · rw [g36 _ _ (by omega)]; exact e50'
  have key : ∀ (n : Nat) (y : Int) (s : Nat) (ζ1 : ZS), y = s → s ≤ n9 → n9 - s < n → (∀ s' m, s' < s → m < 4 → ζ1.1 (52 + s') m = sr A s' m) → Fx Wwo ζ ζ1 → Ok (g_X10_workOut_3 c (A 0 23) (A 0 20) n y ζ1) (fun ζ' => Fr A ζ' ∧ Fx Wwo ζ ζ') := by
    intro n
    induction n with
    | zero => intro _ _ _ _ _ h; omega
    | succ n ih =>
      intro y s ζ1 hy hsn hn hrow hf
      subst hy
      have hch1 : Ch A ζ1 c := ch_fx hch (fun x y g1 g2 => (hf.1 x y (by unfold Wwo; omega)).1)
      unfold g_X10_workOut_3
      rw [hch1.2.1, hn9]
      refine ok_gI (by omega) (by omega) (by omega) (by omega) (fun g => ?_) (fun g => ?_)
      · exact fin ζ1 (fun s' m g1 g2 => hrow s' m (by omega) g2) hf
      · rw [show Int.toNat (s : Int) = s by omega]
        refine ok_gk (by omega) (by omega) (ok_bind (s_fillRow (e := 51 + 1 + s) hw hs hc hch1 (by rw [(hf.1 30 3 (by unfold Wwo; omega)).1]; exact hto) (fun t m g1 g2 => by rw [(hf.1 _ _ (by unfold Wwo; omega)).1]; exact hva.1 t m g1 g2) rfl (by omega) rfl (by omega) (ln_row s (by omega))) (fun ζ2 ⟨h2, f2⟩ => ?_))
        refine ih _ (s + 1) ζ2 (by omega) (by omega) (by omega) (fun s' m g1 g2 => ?_) (fx_trans hf (fx_mono f2 (fun x y g => by unfold We at g; unfold Wwo; omega)))
        by_cases e : s' = s
        · subst e
          have := h2 m g2
          rw [show 51 + 1 + s' = 52 + s' by omega] at this
          exact this
        · rw [(f2.1 (52 + s') m (by unfold We; omega)).1]; exact hrow s' m (by omega) g2
  exact key FU 0 0 ζ rfl (by omega) (by rw [FU_e]; omega) (fun s' m g => by omega) (fx_refl _ _)
/-- the class's lasting part; with what is worked out unless it is stale -/
def Cr (A : Nat → Nat → Int) (ζ : ZS) : Prop := (∃ c d, cell2 c ∧ cell2 d ∧ c ≠ d ∧ ζ.2.2 26 14 = some c ∧ ζ.2.2 26 15 = some d ∧ Ch A ζ c) ∧ Th A ζ ∧ ζ.1 26 16 = A 0 20 ∧ ζ.1 26 17 = A 0 23 ∧ ζ.1 26 13 = A 0 24 ∧ (∀ p : Nat, (p : Int) < A 0 24 → ζ.1 149 p = A 18 p) ∧ ζ.1 27 1 = A 0 2 ∧ (∀ i : Nat, (i : Int) < A 0 2 → ζ.1 28 i = A 1 i) ∧ ∀ m, m < 4 → ζ.1 148 m = -1
def Cls (A : Nat → Nat → Int) (ζ : ZS) : Prop := Cr A ζ ∧ (ζ.1 26 18 = 0 ∨ ζ.1 26 18 = 1) ∧ (ζ.1 26 18 = 0 → Fr A ζ)
def Wfr (x y : Nat) : Prop := (x = 26 ∧ y = 18) ∨ (x = 30 ∧ y = 4) ∨ (41 ≤ x ∧ x ≤ 48) ∨ (x = 50 ∧ y = 4) ∨ (52 ≤ x ∧ x ≤ 124)
theorem cr_fx {A : Nat → Nat → Int} {ζ ζ' : ZS} (h : Cr A ζ) (hr : ζ'.2.2 26 14 = ζ.2.2 26 14 ∧ ζ'.2.2 26 15 = ζ.2.2 26 15) (hf : ∀ x y, (x = 26 ∧ y ≠ 18) ∨ x = 27 ∨ x = 28 ∨ (x = 30 ∧ y = 3) ∨ (32 ≤ x ∧ x ≤ 39) ∨ 148 ≤ x → ζ'.1 x y = ζ.1 x y) : Cr A ζ' := by
  obtain ⟨⟨c, d, hc, hd, hcd, r1, r2, hch⟩, hth, a1, a2, a3, a4, a5, a6, a7⟩ := h
  refine ⟨⟨c, d, hc, hd, hcd, hr.1.trans r1, hr.2.trans r2, ch_fx hch (fun x y g1 g2 => hf x y (by unfold cell2 at hc; omega))⟩, ⟨by rw [hf 30 3 (by omega)]; exact hth.1, fun t m g1 g2 => by rw [hf _ _ (by omega)]; exact hth.2 t m g1 g2⟩, by rw [hf _ _ (by omega)]; exact a1, by rw [hf _ _ (by omega)]; exact a2, by rw [hf _ _ (by omega)]; exact a3, fun p g => by rw [hf _ _ (by omega)]; exact a4 p g, by rw [hf _ _ (by omega)]; exact a5, fun i g => by rw [hf _ _ (by omega)]; exact a6 i g, fun m g => by rw [hf _ _ (by omega)]; exact a7 m g⟩
theorem s_freshen {A : Nat → Nat → Int} {ζ : ZS} (hw : Wa A) (hs : Ws A) (hv : Wv A) (h : Cls A ζ) : Ok (g_X11_freshen ζ) (fun ζ' => Cr A ζ' ∧ Fr A ζ' ∧ ζ'.1 26 18 = 0 ∧ Fx Wfr ζ ζ') := by
  obtain ⟨hcr, h18, hfr⟩ := h
  unfold g_X11_freshen g_X11_freshen_50
  refine ok_gI (by omega) (by omega) (by omega) (by omega) (fun g => ok_some ⟨hcr, hfr g, g, fx_refl _ _⟩) (fun g => ?_)
  have hcr0 := hcr
  obtain ⟨⟨c, d, hc, hd, hcd, r1, r2, hch⟩, hth, a1, a2, -⟩ := hcr
  have hc' := hc
  unfold cell2 at hc'
  have kc : kd c = 0 := by rcases hc' with e | e <;> subst e <;> decide
  refine ok_rk r1 kc (ok_bind (s_valueBy hw hc hch hth a1) (fun ζ1 ⟨v1, f1⟩ => ?_))
  refine ok_rk (a := c) (by rw [f1.2]; exact r1) kc ?_
  have k1 : ∀ x y, ¬ Wva x y → ζ1.1 x y = ζ.1 x y := fun x y g => (f1.1 x y g).1
  rw [k1 26 17 (by unfold Wva; omega), k1 26 16 (by unfold Wva; omega)]
  refine ok_bind (s_workOut hw hs hv hc (ch_fx hch (fun x y g1 g2 => k1 x y (by unfold Wva; omega))) (by rw [k1 30 3 (by unfold Wva; omega)]; exact hth.1) v1 a2 a1) (fun ζ2 ⟨h2, f2⟩ => ok_some ?_)
  have fx : Fx Wfr ζ (zI ζ2 26 18 0) := fx_I (fx_trans (fx_mono f1 (fun x y g => by unfold Wva at g; unfold Wfr; omega)) (fx_mono f2 (fun x y g => by unfold Wwo at g; unfold Wfr; omega))) (by unfold Wfr; omega)
  refine ⟨cr_fx hcr0 ⟨by rw [fx.2], by rw [fx.2]⟩ (fun x y g => (fx.1 x y (by unfold Wfr; omega)).1), ?_, by rw [zI_1, if_pos ⟨rfl, rfl⟩], fx⟩
  -- what is worked out isn't touched by the mark
  obtain ⟨b1, b2, b3, k, b4, b5, R, n, ρ, b6, b7, b8, b9, b10⟩ := h2
  have z : ∀ x y, x ≠ 26 → (zI ζ2 26 18 0).1 x y = ζ2.1 x y := fun x y g => by rw [zI_1, if_neg (by omega)]
  refine ⟨⟨fun t m g1 g2 => by rw [z _ _ (by omega)]; exact b1.1 t m g1 g2, by rw [z _ _ (by omega)]; exact b1.2⟩, fun s m g1 g2 => by rw [z _ _ (by omega)]; exact b2 s m g1 g2, by rw [z _ _ (by omega)]; exact b3, k, b4, cn_fx b5 (fun x => z _ _ (by omega)) (fun x => z _ _ (by omega)) (fun x => rfl), R, n, ρ, cn_fx b6 (fun x => z _ _ (by omega)) (fun x => z _ _ (by omega)) (fun x => rfl), b7, b8, b9, b10⟩
