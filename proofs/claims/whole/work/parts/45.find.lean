/-! the reference: findCorners -/
theorem fin_gen {k : Nat} (h1 : 1 ≤ k) (hk : k ≤ 4) : ∀ (x : Nat) (ρ : Nat → V4), (∀ m, m < k → ρ m = un m) → ∃ L : List V4, (∀ v ∈ L, InC (Ak k (k + x) ρ) v ∧ nv v) ∧ ∀ w, InC (Ak k (k + x) ρ) w → Co (fun v => v ∈ L) w := by
  intro x
  induction x with
  | zero =>
    intro ρ hu
    have hin : ∀ w, InC (A0 k) w ↔ InC (Ak k (k + 0) ρ) w := fun w => ⟨fun h a ha => by
      rcases List.mem_append.mp ha with ha | ha
      · exact h a ha
      · obtain ⟨b, hb, e⟩ := mem_fl.mp ha
        rw [e, hu b (by omega)]; exact h _ (A0_un (by omega)), fun h a ha => h a (List.mem_append_left _ ha)⟩
    exact ⟨L0 k, fun v hv => ⟨(hin v).mp (L0_in hk v hv).1, (L0_in hk v hv).2⟩, fun w hw => L0_gen h1 hk ((hin w).mpr hw)⟩
  | succ x ih =>
    intro ρ hu
    classical
    obtain ⟨L, hL, hg⟩ := ih ρ hu
    have hin : ∀ w, InC (ρ (k + x) :: Ak k (k + x) ρ) w ↔ InC (Ak k (k + (x + 1)) ρ) w := fun w => by
      have e : rx (k + x) ρ (ρ (k + x)) = ρ := by
        funext b
        unfold rx
        by_cases h : b = k + x
        · rw [if_pos h, h]
        · rw [if_neg h]
      have := Ak_rx (k := k) (R := k + x) (ρ := ρ) (r := ρ (k + x)) (w := w)
      rw [e] at this
      exact this
    let M : List V4 := (L ++ L.flatMap (fun c => L.map (fun d => pr (ρ (k + x)) c d))).filter (fun v => decide (InC (Ak k (k + (x + 1)) ρ) v ∧ nv v))
    refine ⟨M, fun v hv => of_decide_eq_true (List.mem_filter.mp hv).2, fun w hw => ?_⟩
    have hw' := (hin w).mpr hw
    refine Co_mono (gen_step (P := fun v => v ∈ L) (r := ρ (k + x)) (hg w (InC_tail hw')) (hw' _ (by simp))) (fun v hv => ?_)
    apply List.mem_filter.mpr
    rcases hv with ⟨hv, h0⟩ | ⟨c, d, hc, hd, g1, g2, e⟩
    · refine ⟨List.mem_append_left _ hv, decide_eq_true ⟨(hin v).mp (fun a ha => ?_), (hL v hv).2⟩⟩
      rcases List.mem_cons.mp ha with ha | ha
      · rw [ha]; exact h0
      · exact (hL v hv).1 a ha
    · refine ⟨List.mem_append_right _ (List.mem_flatMap.mpr ⟨c, hc, List.mem_map.mpr ⟨d, hd, e.symm⟩⟩), decide_eq_true ⟨(hin v).mp (by rw [e]; exact pr_in (hL c hc).1 (hL d hd).1 g1 g2), ?_⟩⟩
      rw [e]
      obtain ⟨m, hm, hne⟩ := (hL c hc).2
      have p1 := Ak_pos c (hL c hc).1 m hm
      have p2 := Ak_pos d (hL d hd).1 m hm
      refine ⟨m, hm, ?_⟩
      show -(dt (ρ (k + x)) d) * c m + dt (ρ (k + x)) c * d m ≠ 0
      have q1 : 0 < -(dt (ρ (k + x)) d) * c m := Int.mul_pos (by omega) (by omega)
      have q2 : 0 ≤ dt (ρ (k + x)) c * d m := Int.mul_nonneg (by omega) p2
      omega
theorem isc_all {k R : Nat} {ρ : Nat → V4} (hr : Rk k R ρ) {N : Nat} {g : Nat → V4} (h1 : ∀ i, i < N → Ex (Ak k R ρ) (g i) ∧ prm (g i)) (h2 : ∀ i j, i < N → j < N → par (g i) (g j) → i = j) (h3 : ∀ v, Ex (Ak k R ρ) v → ∃ j, j < N ∧ par (g j) v) : IsC (Ak k R ρ) N g := by
  refine ⟨h1, h2, h3, fun w hw => ?_⟩
  obtain ⟨L, hL, hg⟩ := fin_gen hr.1 hr.2.1 (R - k) ρ hr.2.2.2.1
  have e : k + (R - k) = R := by have := hr.2.2.1; omega
  rw [e] at hL hg
  refine co_trans (fun v hv => ?_) (ex_gens Ak_pos L hL hg w hw)
  obtain ⟨j, hj, hp⟩ := h3 v hv.2
  exact co_par ⟨j, hj, rfl⟩ hp (ex_pos Ak_pos (h1 j hj).1) (ex_pos Ak_pos hv.2)
theorem ln_mono {ζ : ZS} {lv N : Nat} {A : List V4} {S S' : V4 → Prop} (h : Ln ζ lv N A S) (e : ∀ v, S' v → S v) : Ln ζ lv N A S' := ⟨h.1, h.2.1, h.2.2.1, fun v hv hs => h.2.2.2 v hv (e v hs)⟩
theorem rw_fx {ζ ζ1 : ZS} {k R lv : Nat} {ρ : Nat → V4} (h : Rw ζ k R ρ) (hf : Fx (Wl lv) ζ ζ1) : Rw ζ1 k R ρ := by
  refine ⟨by rw [(hf.1 0 20 (by unfold Wl; omega)).1]; exact h.1, by rw [(hf.1 0 26 (by unfold Wl; omega)).1]; exact h.2.1, fun b hb m hm => ?_⟩
  rw [← h.2.2 b hb m hm]
  exact (hf.1 19 _ (by unfold Wl; omega)).2
def Lv (ζ : ZS) (lv k R n : Nat) (ρ : Nat → V4) : Prop := ζ.1 20 lv = n ∧ ζ.1 21 lv = R ∧ IsC (Ak k R ρ) n (rf ζ lv)
def Cv (k R : Nat) (ρ : Nat → V4) (r s t : Nat) (v : V4) : Prop := ∃ r' s' t', VS k R r' s' t' ∧ (r' < r ∨ (r' = r ∧ (s' < s ∨ (s' = s ∧ t' < t)))) ∧ nv (CX k (ρ r') (ρ s') (ρ t')) ∧ par (CX k (ρ r') (ρ s') (ρ t')) v
theorem s_findCorners (ζ : ZS) {k R : Nat} {ρ : Nat → V4} (hw : Rw ζ k R ρ) (hr : Rk k R ρ) (hR : R + (4 - k) ≤ 24) : Ok (g_X12_findCorners ζ) (fun ζ' => ∃ n, Lv ζ' 0 k R n ρ ∧ Fx (Wl 0) ζ ζ') := by
  have h1 := hr.1
  have h4 := hr.2.1
  have hkR := hr.2.2.1
  let St : (V4 → Prop) → ZS → Prop := fun S ζ1 => ∃ N, Ln ζ1 0 N (Ak k R ρ) S ∧ Fx (Wl 0) ζ ζ1
  let Post : ZS → Prop := fun ζ' => ∃ n, Lv ζ' 0 k R n ρ ∧ Fx (Wl 0) ζ ζ'
  have rw1 : ∀ {S ζ1}, St S ζ1 → Rw ζ1 k R ρ := fun ⟨_, _, hf⟩ => rw_fx hw hf
  have mono : ∀ {S S' : V4 → Prop} {ζ1}, St S ζ1 → (∀ v, S' v → S v) → St S' ζ1 := fun ⟨N, h, hf⟩ e => ⟨N, ln_mono h e, hf⟩
  -- one cross
  have one : ∀ (r s t : Nat) (ζ1 : ZS), r < R → s < R → t < R → St (Cv k R ρ r s t) ζ1 → Ok ((g_X12_crosses (r : Int) (s : Int) (t : Int) ζ1).bind (fun q => g_X12_keepsFound 0 q)) (St (Cv k R ρ r s (t + 1))) := by
    intro r s t ζ1 a b c hst
    have hw1 := rw1 hst
    obtain ⟨N, hL, hf⟩ := hst
    refine ok_mono (cross_step ζ1 (lv := 0) rfl rfl rfl rfl (by decide) hw1 hr hR hL a b c) (fun ζ2 ⟨N', hL', hf'⟩ => ⟨N', ln_mono hL' (fun v hv => ?_), fx_trans hf hf'⟩)
    obtain ⟨r', s', t', q1, q2, q3, q4⟩ := hv
    by_cases e : r' = r ∧ s' = s ∧ t' = t
    · obtain ⟨e1, e2, e3⟩ := e
      subst e1; subst e2; subst e3
      exact Or.inr ⟨q3, q4⟩
    · exact Or.inl ⟨r', s', t', q1, by omega, q3, q4⟩
  have lt : ∀ (r s : Nat) (r9 r33 : Int → ZS → Option ZS), r < R → s < R → (∀ ζ2, St (Cv k R ρ r (s + 1) 0) ζ2 → Ok (r33 ((s : Int) + 1) ζ2) Post) → ∀ (n : Nat) (y : Int) (t : Nat) (ζ1 : ZS), y = t → t ≤ R → R - t < n → s ≤ t → (k < 4 → t ≤ s + 1) → St (Cv k R ρ r s t) ζ1 → Ok (g_X12_findCorners_71 (r : Int) (s : Int) r9 r33 n y ζ1) Post := by
    intro r s r9 r33 hrR hsR hnext n
    induction n with
    | zero => intro _ _ _ _ _ h; omega
    | succ n ih =>
      intro y t ζ1 hy ht hn hst' hk4' hst
      subst hy
      obtain ⟨m1, m2, _⟩ := rw1 hst
      unfold g_X12_findCorners_71 g_X12_findCorners_90
      rw [m1, m2]
      have step : t < R → (k < 4 → t ≤ s) → Ok ((g_X12_crosses (r : Int) (s : Int) (t : Int) ζ1).bind (fun q1 => (g_X12_keepsFound 0 q1).bind (fun q2 => g_X12_findCorners_71 (r : Int) (s : Int) r9 r33 n ((t : Int) + 1) q2))) Post := by
        intro htR hk'
        have o := one r s t ζ1 hrR hsR htR hst
        obtain ⟨ζ2, e2, h2⟩ := o
        cases hc : g_X12_crosses (r : Int) (s : Int) (t : Int) ζ1 with
        | none => rw [hc] at e2; cases e2
        | some q1 =>
          rw [hc] at e2
          have e2 : g_X12_keepsFound 0 q1 = some ζ2 := e2
          show Ok ((g_X12_keepsFound 0 q1).bind _) Post
          rw [e2]
          exact ih _ (t + 1) ζ2 (by omega) (by omega) (by omega) (by omega) (by omega) h2
      refine ok_gI (by omega) (by omega) (by omega) (by omega) (fun hk => ?_) (fun hk => ?_)
      · refine ok_gI (by omega) (by omega) (by omega) (by omega) (fun h => ?_) (fun h => ?_)
        · refine hnext ζ1 (mono hst (fun v hv => ?_))
          obtain ⟨r', s', t', q1, q2, q3, q4⟩ := hv
          refine ⟨r', s', t', q1, ?_, q3, q4⟩
          have := q1.2.2
          rw [if_pos (by omega)] at this
          omega
        · exact step (by omega) (by omega)
      · refine ok_gI (by omega) (by omega) (by omega) (by omega) (fun h => ?_) (fun h => ?_)
        · refine hnext ζ1 (mono hst (fun v hv => ?_))
          obtain ⟨r', s', t', q1, q2, q3, q4⟩ := hv
          refine ⟨r', s', t', q1, ?_, q3, q4⟩
          have := q1.2.2
          rw [if_neg (by omega)] at this
          omega
        · exact step (by omega) (by omega)
  have ls : ∀ (r : Nat) (r9 : Int → ZS → Option ZS), r < R → (∀ ζ2, St (Cv k R ρ (r + 1) 0 0) ζ2 → Ok (r9 ((r : Int) + 1) ζ2) Post) → ∀ (n : Nat) (y : Int) (s : Nat) (ζ1 : ZS), y = s → s ≤ R → R - s < n → r ≤ s → (k < 3 → s ≤ r + 1) → (3 ≤ k → r < s) → St (Cv k R ρ r s 0) ζ1 → Ok (g_X12_findCorners_33 (r : Int) r9 n y ζ1) Post := by
    intro r r9 hrR hnext n
    induction n with
    | zero => intro _ _ _ _ _ h; omega
    | succ n ih =>
      intro y s ζ1 hy hs hn hrs hk3 hk3' hst
      subst hy
      obtain ⟨m1, m2, _⟩ := rw1 hst
      unfold g_X12_findCorners_33 g_X12_findCorners_52 g_X12_findCorners_70
      rw [m1, m2]
      have step : s < R → (k < 3 → s = r) → Ok (gI 4 (k : Int) (4 ≤ (k : Int)) (g_X12_findCorners_71 (r : Int) (s : Int) r9 (g_X12_findCorners_33 (r : Int) r9 n) FU ((s : Int) + 1) ζ1) (g_X12_findCorners_71 (r : Int) (s : Int) r9 (g_X12_findCorners_33 (r : Int) r9 n) FU (s : Int) ζ1)) Post := by
        intro hsR hk'
        have nx : ∀ ζ2, St (Cv k R ρ r (s + 1) 0) ζ2 → Ok (g_X12_findCorners_33 (r : Int) r9 n ((s : Int) + 1) ζ2) Post := fun ζ2 h2 => ih _ (s + 1) ζ2 (by omega) (by omega) (by omega) (by omega) (by omega) (by omega) h2
        refine ok_gI (by omega) (by omega) (by omega) (by omega) (fun hk => ?_) (fun hk => ?_)
        · refine lt r s r9 _ hrR hsR nx FU _ (s + 1) ζ1 (by omega) (by omega) (by rw [FU_e]; omega) (by omega) (by omega) (mono hst (fun v hv => ?_))
          obtain ⟨r', s', t', q1, q2, q3, q4⟩ := hv
          refine ⟨r', s', t', q1, ?_, q3, q4⟩
          have := q1.2.2
          rw [if_pos (by omega)] at this
          omega
        · refine lt r s r9 _ hrR hsR nx FU _ s ζ1 rfl (by omega) (by rw [FU_e]; omega) (by omega) (by omega) (mono hst (fun v hv => ?_))
          obtain ⟨r', s', t', q1, q2, q3, q4⟩ := hv
          refine ⟨r', s', t', q1, ?_, q3, q4⟩
          have := q1.2.2
          rw [if_neg (by omega)] at this
          omega
      refine ok_gI (by omega) (by omega) (by omega) (by omega) (fun hk => ?_) (fun hk => ?_)
      · refine ok_gI (by omega) (by omega) (by omega) (by omega) (fun h => ?_) (fun h => ?_)
        · refine hnext ζ1 (mono hst (fun v hv => ?_))
          obtain ⟨r', s', t', q1, q2, q3, q4⟩ := hv
          refine ⟨r', s', t', q1, ?_, q3, q4⟩
          have := q1.2.1
          rw [if_pos (by omega)] at this
          omega
        · exact step (by omega) (by omega)
      · refine ok_gI (by omega) (by omega) (by omega) (by omega) (fun h => ?_) (fun h => ?_)
        · refine hnext ζ1 (mono hst (fun v hv => ?_))
          obtain ⟨r', s', t', q1, q2, q3, q4⟩ := hv
          refine ⟨r', s', t', q1, ?_, q3, q4⟩
          have := q1.2.1
          rw [if_neg (by omega)] at this
          omega
        · exact step (by omega) (by omega)
  have lr : ∀ (n : Nat) (y : Int) (r : Nat) (ζ1 : ZS), y = r → r ≤ R → R - r < n → St (Cv k R ρ r 0 0) ζ1 → Ok (g_X12_findCorners_9 n y ζ1) Post := by
    intro n
    induction n with
    | zero => intro _ _ _ _ _ h; omega
    | succ n ih =>
      intro y r ζ1 hy hrR hn hst
      subst hy
      obtain ⟨m1, m2, _⟩ := rw1 hst
      unfold g_X12_findCorners_9 g_X12_findCorners_32
      rw [m1, m2]
      refine ok_gI (by omega) (by omega) (by omega) (by omega) (fun h => ?_) (fun h => ?_)
      · refine ok_gk (by omega) (by omega) (ok_some ?_)
        have e0 : Int.toNat 0 = 0 := rfl
        rw [e0]
        have er : r = R := by omega
        subst er
        obtain ⟨N, hL, hf⟩ := hst
        refine ⟨N, ⟨?_, ?_, ?_⟩, fx_I hf (by unfold Wl; omega)⟩
        · rw [zI_1, if_neg (by omega)]; exact hL.1
        · rw [zI_1, if_pos ⟨rfl, rfl⟩]
        · have : rf (zI ζ1 21 0 (r : Int)) 0 = rf ζ1 0 := rfl
          rw [this]
          refine isc_all hr hL.2.1 hL.2.2.1 (fun v hv => hL.2.2.2 v hv ?_)
          obtain ⟨r', s', t', q1, q2, q3⟩ := cx_all hr hv
          exact ⟨r', s', t', q1, Or.inl q1.1, q2, q3⟩
      · have nx : ∀ ζ2, St (Cv k R ρ (r + 1) 0 0) ζ2 → Ok (g_X12_findCorners_9 n ((r : Int) + 1) ζ2) Post := fun ζ2 h2 => ih _ (r + 1) ζ2 (by omega) (by omega) (by omega) h2
        refine ok_gI (by omega) (by omega) (by omega) (by omega) (fun hk => ?_) (fun hk => ?_)
        · refine ls r _ (by omega) nx FU _ (r + 1) ζ1 (by omega) (by omega) (by rw [FU_e]; omega) (by omega) (by omega) (by omega) (mono hst (fun v hv => ?_))
          obtain ⟨r', s', t', q1, q2, q3, q4⟩ := hv
          refine ⟨r', s', t', q1, ?_, q3, q4⟩
          have := q1.2.1
          rw [if_pos (by omega)] at this
          omega
        · refine ls r _ (by omega) nx FU _ r ζ1 rfl (by omega) (by rw [FU_e]; omega) (by omega) (by omega) (by omega) (mono hst (fun v hv => ?_))
          obtain ⟨r', s', t', q1, q2, q3, q4⟩ := hv
          refine ⟨r', s', t', q1, ?_, q3, q4⟩
          have := q1.2.1
          rw [if_neg (by omega)] at this
          omega
  unfold g_X12_findCorners
  refine ok_gk (by omega) (by omega) (lr FU 0 0 _ rfl (by omega) (by rw [FU_e]; omega) ⟨0, ⟨?_, fun i hi => by omega, fun i j hi => by omega, fun v hv hs => ?_⟩, fx_I (fx_refl _ _) (by unfold Wl; exact Or.inl ⟨rfl, rfl⟩)⟩)
  · show (zI ζ 20 0 0).1 20 0 = _
    rw [zI_1, if_pos ⟨rfl, rfl⟩]; rfl
  · obtain ⟨r', s', t', q1, q2, _⟩ := hs
    omega
