/-! the reference: the corners of a level -/
def Rw (ζ : ZS) (k R : Nat) (ρ : Nat → V4) : Prop := ζ.1 0 20 = k ∧ ζ.1 0 26 = R ∧ ∀ b, b < R → e4 (rr ζ b) (ρ b)
def Ln (ζ : ZS) (lv N : Nat) (A : List V4) (S : V4 → Prop) : Prop := ζ.1 20 lv = N ∧ (∀ i, i < N → Ex A (rf ζ lv i) ∧ prm (rf ζ lv i)) ∧ (∀ i j, i < N → j < N → par (rf ζ lv i) (rf ζ lv j) → i = j) ∧ ∀ v, Ex A v → S v → ∃ i, i < N ∧ par (rf ζ lv i) v
def Wl (lv : Nat) (x y : Nat) : Prop := (x = 20 ∧ y = lv) ∨ (x = 21 ∧ y = lv) ∨ (x = 22 ∧ 288 * lv ≤ y ∧ y < 288 * lv + 288) ∨ x = 23
theorem gl_neg (u : V4) (n : Nat) : gl (fun m => -(u m)) n = gl u n := by
  induction n with
  | zero => rfl
  | succ n ih =>
    show Nat.gcd (-(u n)).natAbs (gl (fun m => -(u m)) n) = Nat.gcd (u n).natAbs (gl u n)
    rw [ih, Int.natAbs_neg]
theorem wv_mul {u : V4} {m : Nat} (hm : m < 4) : (gl u 4 : Int) * wv u m = if sm4 u < 0 then -(u m) else u m := by
  have dv : (gl u 4 : Int) ∣ u m := Int.ofNat_dvd_left.mpr (gl_dvd _ 4 m hm)
  unfold wv
  split
  · exact Int.mul_tdiv_cancel' (Int.dvd_neg.mpr dv)
  · exact Int.mul_tdiv_cancel' dv
theorem wv_par {u v : V4} (hn : nv u) (h : par u v) : par (wv u) v := by
  have hg := gl_pos hn
  intro i hi j hj
  apply Int.eq_of_mul_eq_mul_left (show (gl u 4 : Int) ≠ 0 by omega)
  rw [← Int.mul_assoc, ← Int.mul_assoc, wv_mul hi, wv_mul hj]
  have := h i hi j hj
  split
  · rw [Int.neg_mul, Int.neg_mul, this]
  · exact this
theorem wv_self {u : V4} (hn : nv u) : par u (wv u) := par_symm (wv_par hn (par_self u))
theorem wv_nv {u : V4} (hn : nv u) : nv (wv u) := by
  obtain ⟨i, hi, hne⟩ := hn
  refine ⟨i, hi, fun z => hne ?_⟩
  have := wv_mul (u := u) hi
  rw [z, Int.mul_zero] at this
  split at this <;> omega
theorem wv_pos {u v : V4} (hn : nv u) (h : par u v) (hv : pos4 v) : pos4 (wv u) := by
  refine ⟨fun i hi => ?_, wv_nv hn⟩
  have hg := gl_pos hn
  have hs := sG_pos hv
  rw [sG_dt] at hs
  have e : u i * (v 0 + v 1 + v 2 + v 3) = v i * sm4 u := by
    have g0 := h i hi 0 (by decide)
    have g1 := h i hi 1 (by decide)
    have g2 := h i hi 2 (by decide)
    have g3 := h i hi 3 (by decide)
    unfold sm4
    rw [Int.mul_add, Int.mul_add, Int.mul_add, g0, g1, g2, g3]
    grind
  have vi := hv.1 i hi
  have key : 0 ≤ (if sm4 u < 0 then -(u i) else u i) := by
    split
    · rename_i q
      have k := Int.mul_nonneg vi (show 0 ≤ -(sm4 u) by omega)
      have e2 : (v 0 + v 1 + v 2 + v 3) * -(u i) = 1 * (v i * -(sm4 u)) := by rw [Int.mul_neg, Int.mul_comm, e, Int.mul_neg, Int.one_mul]
      exact (sg_mul hs (by decide) e2).1.mpr k
    · rename_i q
      have k := Int.mul_nonneg vi (show 0 ≤ sm4 u by omega)
      have e2 : (v 0 + v 1 + v 2 + v 3) * u i = 1 * (v i * sm4 u) := by rw [Int.mul_comm, e, Int.one_mul]
      exact (sg_mul hs (by decide) e2).1.mpr k
  have := wv_mul (u := u) hi
  exact (sg_mul (a := (gl u 4 : Int)) (b := 1) (x := wv u i) (y := if sm4 u < 0 then -(u i) else u i) (by omega) (by decide) (by rw [this]; omega)).1.mpr key
theorem wv_prm {u : V4} (hn : nv u) (hw : ∀ m, m < 4 → 0 ≤ wv u m) : prm (wv u) := by
  have hg := gl_pos hn
  by_cases q : sm4 u < 0
  · refine gl_prm (u := fun m => -(u m)) (by rw [gl_neg]; exact hg) hw (fun m hm => ?_)
    have := wv_mul (u := u) hm
    rw [if_pos q] at this
    rw [gl_neg, this]
  · refine gl_prm (u := u) hg hw (fun m hm => ?_)
    have := wv_mul (u := u) hm
    rw [if_neg q] at this
    rw [this]
theorem wv_zero {u : V4} {m : Nat} (hm : m < 4) (hg : 0 < gl u 4) (h : u m = 0) : wv u m = 0 := by
  have := wv_mul (u := u) hm
  rw [h] at this
  have e : (if sm4 u < 0 then -(0 : Int) else 0) = 0 := by split <;> rfl
  rw [e] at this
  exact (Int.mul_eq_zero.mp this).resolve_left (by omega)
theorem in_rows {k R : Nat} {ρ : Nat → V4} (hr : Rk k R ρ) {w : V4} (hz : ∀ m, k ≤ m → m < 4 → w m = 0) (h : ∀ b, b < R → 0 ≤ dt (ρ b) w) : InC (Ak k R ρ) w := by
  intro a ha
  rcases List.mem_append.mp ha with ha | ha
  · obtain ⟨m, hm, e⟩ := mem_A0 ha
    have nn : 0 ≤ w m ∧ (k ≤ m → w m = 0) := by
      refine ⟨?_, fun q => hz m q hm⟩
      by_cases c : m < k
      · have := h m (by have := hr.2.2.1; omega)
        rw [hr.2.2.2.1 m c, dt_un hm] at this
        exact this
      · rw [hz m (by omega) hm]; exact Int.le_refl 0
    rcases e with e | ⟨q, e⟩
    · rw [e, dt_un hm]; exact nn.1
    · rw [e, dt_neg, dt_un hm, nn.2 q]; decide
  · obtain ⟨b, hb, e⟩ := mem_fl.mp ha
    rw [e]; exact h b hb
theorem dt_e4l {r s v : V4} (h : e4 r s) : dt r v = dt s v := by
  simp only [dt, h 0 (by decide), h 1 (by decide), h 2 (by decide), h 3 (by decide)]
theorem keep_step (ζ : ZS) {lv N R k : Nat} {ρ : Nat → V4} {S : V4 → Prop} {z : Int} (hz : z = lv) (hl : lv < 12) (hw : Rw ζ k R ρ) (hr : Rk k R ρ) (hR : R + (4 - k) ≤ 24) (hL : Ln ζ lv N (Ak k R ρ) S) (hb : ∀ m, m < 4 → (fnd ζ m).natAbs ≤ 6000000) (hz0 : ∀ m, k ≤ m → m < 4 → fnd ζ m = 0) (hx : nv (fnd ζ) → InC (Ak k R ρ) (wv (fnd ζ)) → Ex (Ak k R ρ) (wv (fnd ζ))) :
    Ok (g_X12_keepsFound z ζ) (fun ζ' => ∃ N', N ≤ N' ∧ N' ≤ N + 1 ∧ Ln ζ' lv N' (Ak k R ρ) (fun v => S v ∨ (nv (fnd ζ) ∧ par (fnd ζ) v)) ∧ Fx (Wl lv) ζ ζ' ∧ (∀ i, i < N → e4 (rf ζ lv i) (rf ζ' lv i)) ∧ (∀ m, fnd ζ' m = fnd ζ m)) := by
  have h1 := hr.1
  have h4 := hr.2.1
  have hkR := hr.2.2.1
  have n44 := (cntR hr hR hL.2.1 hL.2.2.1).1
  have hbd : ∀ {v : V4}, Ex (Ak k R ρ) v → prm v → ∀ i, i < 4 → 0 ≤ v i ∧ v i ≤ 6000000 := fun hv hp => ex_bd Ak_pos (Ak_bd hr) hv hp
  have hrow : ∀ b, b < R → ∀ m, m < 4 → (rr ζ b m).natAbs ≤ 100 := fun b hb' m hm => by
    rw [hw.2.2 b hb' m hm]
    have := hr.2.2.2.2 b hb' m hm
    omega
  refine ok_mono (s_keepsFound ζ hz hl hL.1 (by omega) hw.2.1 (by omega) h1 h4 hw.1 hb hrow (fun i hi m hm => by have := hbd (hL.2.1 i hi).1 (hL.2.1 i hi).2 m hm; omega)) (fun ζ' ⟨hf, hcase⟩ => ?_)
  have old : ∀ i, i < N → e4 (rf ζ lv i) (rf ζ' lv i) := fun i hi m hm => ((hf.1 22 (4 * (72 * lv + i) + m) (by unfold Wk; omega)).2).symm
  have hfl : Fx (Wl lv) ζ ζ' := fx_mono hf (fun x y h => by unfold Wk at h; unfold Wl; omega)
  have hfn : ∀ m, fnd ζ' m = fnd ζ m := fun m => (hf.1 23 m (by unfold Wk; omega)).2
  -- products with the rows
  have hps : nv (fnd ζ) → ∀ b, b < R → psum (fun m => rr ζ b m * wv (fnd ζ) m) k = dt (ρ b) (wv (fnd ζ)) := fun hn b hb' => by
    rw [psum_dt' h4 (fun m g1 g2 => wv_zero g2 (gl_pos hn) (hz0 m g1 g2)), dt_e4l (hw.2.2 b hb')]
  rcases hcase with ⟨c1, hn, cw1, crow, cnew⟩ | ⟨c1, hwhy⟩
  · have hin : InC (Ak k R ρ) (wv (fnd ζ)) := in_rows hr (fun m g1 g2 => wv_zero g2 (gl_pos hn) (hz0 m g1 g2)) (fun b hb' => by rw [← hps hn b hb']; exact crow b hb')
    have hex := hx hn hin
    have hpos := Ak_pos _ hin
    have hprm := wv_prm hn hpos
    have nw : e4 (wv (fnd ζ)) (rf ζ' lv N) := fun m hm => (cw1 m hm).symm
    have clash : ∀ i, i < N → ¬ par (rf ζ lv i) (wv (fnd ζ)) := by
      intro i hi hp
      obtain ⟨m, hm, hne⟩ := cnew i hi
      exact hne (prm_eq (hL.2.1 i hi).2 hprm (Ak_pos _ (hL.2.1 i hi).1.1) hpos hex.2.1 hp m (by omega))
    refine ⟨N + 1, by omega, by omega, ⟨c1, fun i hi => ?_, fun i j hi hj hp => ?_, fun v hv hs => ?_⟩, hfl, old, hfn⟩
    · by_cases e : i = N
      · subst e; exact ⟨ex_e4 hex nw, prm_e4 hprm nw⟩
      · exact ⟨ex_e4 (hL.2.1 i (by omega)).1 (old i (by omega)), prm_e4 (hL.2.1 i (by omega)).2 (old i (by omega))⟩
    · by_cases e : i = N
      · by_cases e' : j = N
        · omega
        · subst e
          exact absurd (par_symm (par_e4 hp (e4_symm nw) (e4_symm (old j (by omega))))) (clash j (by omega))
      · by_cases e' : j = N
        · subst e'
          exact absurd (par_e4 hp (e4_symm (old i (by omega))) (e4_symm nw)) (clash i (by omega))
        · exact hL.2.2.1 i j (by omega) (by omega) (par_e4 hp (e4_symm (old i (by omega))) (e4_symm (old j (by omega))))
    · rcases hs with hs | ⟨_, hp⟩
      · obtain ⟨i, hi, hp⟩ := hL.2.2.2 v hv hs
        exact ⟨i, by omega, par_e4 hp (old i hi) (fun _ _ => rfl)⟩
      · exact ⟨N, by omega, par_e4 (wv_par hn hp) nw (fun _ _ => rfl)⟩
  · refine ⟨N, by omega, by omega, ⟨c1, fun i hi => ⟨ex_e4 (hL.2.1 i hi).1 (old i hi), prm_e4 (hL.2.1 i hi).2 (old i hi)⟩, fun i j hi hj hp => hL.2.2.1 i j hi hj (par_e4 hp (e4_symm (old i hi)) (e4_symm (old j hj))), fun v hv hs => ?_⟩, hfl, old, hfn⟩
    rcases hs with hs | ⟨hn, hp⟩
    · obtain ⟨i, hi, hp⟩ := hL.2.2.2 v hv hs
      exact ⟨i, hi, par_e4 hp (old i hi) (fun _ _ => rfl)⟩
    · have hvp := ex_pos Ak_pos hv
      have wpos := wv_pos hn hp hvp
      have wpar := wv_par hn hp
      have win : InC (Ak k R ρ) (wv (fnd ζ)) := InC_par (par_symm wpar) hvp wpos hv.1
      rcases hwhy with q | ⟨b, hb', q⟩ | ⟨i, hi, q⟩
      · exact absurd hn q
      · rw [hps hn b hb'] at q
        have := win (ρ b) (List.mem_append_right _ (mem_fl.mpr ⟨b, hb', rfl⟩))
        omega
      · refine ⟨i, hi, par_e4 wpar ?_ (fun _ _ => rfl)⟩
        intro m hm
        rw [← old i hi m hm]
        by_cases c : m < k
        · exact (q m c).symm
        · rw [wv_zero hm (gl_pos hn) (hz0 m (by omega) hm), Ak_zero (hL.2.1 i hi).1.1 m hm (by omega)]
theorem cx_bd {k : Nat} {a b c : V4} (ha : bd a) (hb : bd b) (hc : bd c) {m : Nat} (hm : m < 4) : (CX k a b c m).natAbs ≤ 6000000 := by
  unfold CX
  split
  · have := xp_bd (un_bd 1) (un_bd 2) (un_bd 3) hm; omega
  · split
    · have := xp_bd ha (un_bd 2) (un_bd 3) hm; omega
    · split
      · have := xp_bd ha hb (un_bd 3) hm; omega
      · have := xp_bd ha hb hc hm; omega
theorem cx_ex {k R : Nat} {ρ : Nat → V4} (hr : Rk k R ρ) {r s t : Nat} (h1 : r < R) (h2 : s < R) (h3 : t < R) {w : V4} (hn : nv (CX k (ρ r) (ρ s) (ρ t))) (hp : par (CX k (ρ r) (ρ s) (ρ t)) w) (hin : InC (Ak k R ρ) w) (hw : nv w) : Ex (Ak k R ρ) w := by
  have mu : ∀ m, m < 4 → un m ∈ Ak k R ρ := fun m hm => List.mem_append_left _ (A0_un hm)
  have mr : ∀ b, b < R → ρ b ∈ Ak k R ρ := fun b hb => List.mem_append_right _ (mem_fl.mpr ⟨b, hb, rfl⟩)
  unfold CX at hn hp
  by_cases c1 : k = 1
  · rw [if_pos c1] at hn hp; exact xp_ex (mu 1 (by decide)) (mu 2 (by decide)) (mu 3 (by decide)) hn hp hin hw
  · rw [if_neg c1] at hn hp
    by_cases c2 : k = 2
    · rw [if_pos c2] at hn hp; exact xp_ex (mr r h1) (mu 2 (by decide)) (mu 3 (by decide)) hn hp hin hw
    · rw [if_neg c2] at hn hp
      by_cases c3 : k = 3
      · rw [if_pos c3] at hn hp; exact xp_ex (mr r h1) (mr s h2) (mu 3 (by decide)) hn hp hin hw
      · rw [if_neg c3] at hn hp; exact xp_ex (mr r h1) (mr s h2) (mr t h3) hn hp hin hw
theorem CX_e4 {k : Nat} {a b c a' b' c' : V4} (ha : e4 a a') (hb : e4 b b') (hc : e4 c c') : e4 (CX k a b c) (CX k a' b' c') := by
  intro m hm
  have x : ∀ p q s p' q' s' : V4, e4 p p' → e4 q q' → e4 s s' → xp p q s m = xp p' q' s' m := by
    intro p q s p' q' s' h1 h2 h3
    rw [xp_s1 (r' := p') (σ := 1) (fun i hi => by rw [h1 i hi]; omega) hm, xp_s2 (s' := q') (σ := 1) (fun i hi => by rw [h2 i hi]; omega) hm, xp_s3 (t' := s') (σ := 1) (fun i hi => by rw [h3 i hi]; omega) hm]
    omega
  unfold CX
  split
  · rfl
  · split
    · exact x _ _ _ _ _ _ ha (fun _ _ => rfl) (fun _ _ => rfl)
    · split
      · exact x _ _ _ _ _ _ ha hb (fun _ _ => rfl)
      · exact x _ _ _ _ _ _ ha hb hc
/-- a cross and its corner -/
theorem cross_step (ζ : ZS) {lv N R k r s t : Nat} {ρ : Nat → V4} {S : V4 → Prop} {z z1 z2 z3 : Int} (hz : z = lv) (e1 : z1 = r) (e2 : z2 = s) (e3 : z3 = t) (hl : lv < 12) (hw : Rw ζ k R ρ) (hr : Rk k R ρ) (hR : R + (4 - k) ≤ 24) (hL : Ln ζ lv N (Ak k R ρ) S) (h1 : r < R) (h2 : s < R) (h3 : t < R) :
    Ok ((g_X12_crosses z1 z2 z3 ζ).bind (fun q => g_X12_keepsFound z q)) (fun ζ' => ∃ N', Ln ζ' lv N' (Ak k R ρ) (fun v => S v ∨ (nv (CX k (ρ r) (ρ s) (ρ t)) ∧ par (CX k (ρ r) (ρ s) (ρ t)) v)) ∧ Fx (Wl lv) ζ ζ') := by
  have hk1 := hr.1
  have hk4 := hr.2.1
  refine ok_bind (s_crosses ζ e1 e2 e3 (by omega) (by omega) (by omega) hk1 hk4 hw.1) (fun ζ1 ⟨hc, hf⟩ => ?_)
  have er : ∀ b, rr ζ1 b = rr ζ b := fun b => by funext x; exact (hf.1 _ _ (by unfold Wf; omega)).2
  have ef : ∀ i, rf ζ1 lv i = rf ζ lv i := fun i => by funext x; exact (hf.1 _ _ (by unfold Wf; omega)).2
  have hw1 : Rw ζ1 k R ρ := ⟨by rw [(hf.1 0 20 (by unfold Wf; omega)).1]; exact hw.1, by rw [(hf.1 0 26 (by unfold Wf; omega)).1]; exact hw.2.1, fun b hb => by rw [er]; exact hw.2.2 b hb⟩
  have hL1 : Ln ζ1 lv N (Ak k R ρ) S := by
    unfold Ln
    simp only [ef]
    exact ⟨by rw [(hf.1 20 lv (by unfold Wf; omega)).1]; exact hL.1, hL.2⟩
  have e0 : e4 (CX k (ρ r) (ρ s) (ρ t)) (fnd ζ1) := fun m hm => by
    rw [show fnd ζ1 m = ζ1.2.1 23 m from rfl, hc m hm]
    exact CX_e4 (e4_symm (hw.2.2 r h1)) (e4_symm (hw.2.2 s h2)) (e4_symm (hw.2.2 t h3)) m hm
  refine ok_mono (keep_step ζ1 hz hl hw1 hr hR hL1 (fun m hm => ?_) (fun m g1 g2 => ?_) (fun hn hin => ?_)) (fun ζ' ⟨N', _, _, q, qf, _⟩ => ⟨N', ⟨q.1, q.2.1, q.2.2.1, fun v hv hs => q.2.2.2 v hv ?_⟩, fx_trans (fx_mono hf (fun x y h => by unfold Wf at h; unfold Wl; omega)) qf⟩)
  · rw [← e0 m hm]; exact cx_bd (hr.2.2.2.2 r h1) (hr.2.2.2.2 s h2) (hr.2.2.2.2 t h3) hm
  · rw [← e0 m g2]; exact cx_zero hk4 hk1 _ _ _ m g1 g2
  · exact cx_ex hr h1 h2 h3 (nv_e4 hn (e4_symm e0)) (par_e4 (wv_self hn) (e4_symm e0) (fun _ _ => rfl)) hin (wv_nv hn)
  · rcases hs with hs | ⟨a, b⟩
    · exact Or.inl hs
    · exact Or.inr ⟨nv_e4 a e0, par_e4 b e0 (fun _ _ => rfl)⟩
