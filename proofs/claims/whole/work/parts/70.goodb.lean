/-! good, fits: the class -/
theorem pg_bd {r w : V4} (hr : bd r) (hw : ∀ m, m < 4 → 0 ≤ w m ∧ w m ≤ 999) : -399600 ≤ dt r w ∧ dt r w ≤ 399600 := by
  have q : ∀ m, m < 4 → -(100 * 999) ≤ r m * w m ∧ r m * w m ≤ 100 * 999 := fun m hm => mb (hr m hm).1 (hr m hm).2 (by have := (hw m hm).1; omega) (hw m hm).2
  have q0 := q 0 (by omega)
  have q1 := q 1 (by omega)
  have q2 := q 2 (by omega)
  have q3 := q 3 (by omega)
  unfold dt
  generalize r 0 * w 0 = a at *
  generalize r 1 * w 1 = b at *
  generalize r 2 * w 2 = c at *
  generalize r 3 * w 3 = d at *
  omega
theorem s_sumOfGiven {ζ : ZS} {w : V4} (h : ∀ m, m < 4 → ζ.1 146 m = w m) : g_X11_sumOfGiven ζ = some (sm4 w, ζ) := by
  apply ok_eq
  unfold g_X11_sumOfGiven
  refine ok_gk (by omega) (by omega) (ok_gk (by omega) (by omega) (ok_gk (by omega) (by omega) (ok_gk (by omega) (by omega) (ok_some ?_))))
  show (ζ.1 146 0 + ζ.1 146 1 + ζ.1 146 2 + ζ.1 146 3, ζ) = _
  rw [h 0 (by omega), h 1 (by omega), h 2 (by omega), h 3 (by omega)]
  rfl
theorem s_pwg {ζ : ZS} {e : Nat} {r w : V4} (hl : ln e = 4) (hr : ∀ m, m < 4 → ζ.1 e m = r m) (h : ∀ m, m < 4 → ζ.1 146 m = w m) : g_X11_productWithGiven e ζ = some (dt r w, ζ) := by
  apply ok_eq
  unfold g_X11_productWithGiven
  rw [hl]
  refine ok_gk (by omega) (by omega) (ok_gk (by omega) (by omega) (ok_gk (by omega) (by omega) (ok_gk (by omega) (by omega) (ok_gk (by omega) (by omega) (ok_gk (by omega) (by omega) (ok_gk (by omega) (by omega) (ok_gk (by omega) (by omega) (ok_some ?_))))))))
  show (ζ.1 e 0 * ζ.1 146 0 + ζ.1 e 1 * ζ.1 146 1 + ζ.1 e 2 * ζ.1 146 2 + ζ.1 e 3 * ζ.1 146 3, ζ) = _
  rw [h 0 (by omega), h 1 (by omega), h 2 (by omega), h 3 (by omega), hr 0 (by omega), hr 1 (by omega), hr 2 (by omega), hr 3 (by omega)]
  rfl
theorem s_takeWeights {A : Nat → Nat → Int} {ζ : ZS} {a b c d : Int} (hk : ζ.1 26 16 = A 0 20) (hk4 : 1 ≤ A 0 20 ∧ A 0 20 ≤ 4) (ha : r32 a) (hb : r32 b) (hc : r32 c) (hd : r32 d) : Ok (g_X11_takeWeights a b c d ζ) (fun r => Fx (We 146) ζ r.2 ∧ ∃ p : Bool, r.1 = bi p ∧ (p = true ↔ wOK A a b c d) ∧ (p = true → ∀ m, m < 4 → r.2.1 146 m = gvn A a b c d m)) := by
  unfold g_X11_takeWeights g_X11_takeWeights_26 g_X11_takeWeights_27
  refine ok_bind (s_takeGiven hk hk4 ha hb hc hd (by omega)) (fun r ⟨f1, hr⟩ => ?_)
  rcases hr with ⟨r1, r2, r3⟩ | ⟨r1, r2⟩
  · rw [r1]
    refine ok_gI (by omega) (by omega) (by omega) (by omega) (fun q => absurd q (by omega)) (fun _ => ok_beq (s_sumOfGiven r3) ?_)
    have gb := gvn_bd (by omega) r2
    have q0 := gb 0 (by omega)
    have q1 := gb 1 (by omega)
    have q2 := gb 2 (by omega)
    have q3 := gb 3 (by omega)
    have sb : 0 ≤ sm4 (gvn A a b c d) ∧ sm4 (gvn A a b c d) ≤ 3996 := by unfold sm4; omega
    refine ok_gI (by dsimp only; omega) (by dsimp only; omega) (by omega) (by omega) (fun g => ok_gz (Or.inl rfl) (ok_some ⟨f1, false, rfl, ⟨fun q => (by cases q), fun q => ?_⟩, fun q => (by cases q)⟩)) (fun g => ok_gz (Or.inr rfl) (ok_some ⟨f1, true, rfl, ⟨fun _ => ⟨r2, ?_⟩, fun _ => rfl⟩, fun _ => r3⟩))
    · have := q.2; dsimp only at g; omega
    · dsimp only at g; omega
  · rw [r1]
    exact ok_gI (by omega) (by omega) (by omega) (by omega) (fun _ => ok_gz (Or.inl rfl) (ok_some ⟨f1, false, rfl, ⟨fun q => (by cases q), fun q => absurd q.1 r2⟩, fun q => (by cases q)⟩)) (fun q => absurd rfl q)
theorem s_reduce {ζ : ZS} {a b : Int} (h0 : ζ.2.1 145 0 = a) (h1 : ζ.2.1 145 1 = b) (hb : 0 < b) (ba : a.natAbs < 4611686018427387904) (bb : b.natAbs < 4611686018427387904) : Ok (g_X3_reduce ζ) (fun ζ' => ζ'.2.1 145 0 = red a b 0 ∧ ζ'.2.1 145 1 = red a b 1 ∧ Fx (We 145) ζ ζ') := by
  have gp := gcd_pos (a := a) hb
  have gl := gcd_le (a := a) hb
  have e0 : red a b 0 = Int.tdiv a ((Nat.gcd a.natAbs b.natAbs : Nat) : Int) := by unfold red; rw [if_pos rfl]
  have e1 : red a b 1 = Int.tdiv b ((Nat.gcd a.natAbs b.natAbs : Nat) : Int) := by unfold red; rw [if_neg (by omega)]
  unfold g_X3_reduce g_X3_reduce_38
  rw [h0, h1]
  refine ok_beq (s_gcd ζ ba bb) ?_
  dsimp only
  rw [e0, e1]
  generalize ((Nat.gcd a.natAbs b.natAbs : Nat) : Int) = g at *
  refine ok_gJ (by omega) (by omega) (by omega) (by omega) (fun q => ok_some ⟨?_, ?_, fx_refl _ _⟩) (fun q => ?_)
  · rw [h0, show g = 1 by omega, Int.tdiv_one]
  · rw [h1, show g = 1 by omega, Int.tdiv_one]
  · have r1 : (zJ ζ 145 0 (Int.tdiv (ζ.2.1 145 0) g)).2.1 145 1 = b := by rw [zJ_2, if_neg (by omega)]; exact h1
    rw [r1, h0]
    refine ok_gdJ (by omega) (by omega) (by omega) (by omega) (ok_gdJ (by omega) (by omega) (by omega) (by omega) (ok_some ⟨?_, ?_, fx_J (fx_J (fx_refl _ _) rfl) rfl⟩))
    · rw [zJ_2, if_neg (by omega), zJ_2, if_pos ⟨rfl, rfl⟩]
    · rw [zJ_2, if_pos ⟨rfl, rfl⟩]
theorem s_part {ζ : ZS} {z : Int} (hz : r32 z) : g_X3_part z ζ = some (if z = 0 then ζ.2.1 145 0 else ζ.2.1 145 1, ζ) := by
  apply ok_eq
  unfold g_X3_part g_X3_part_15
  refine ok_gI hz.1 hz.2 (by omega) (by omega) (fun g => ok_some (by rw [if_pos g])) (fun g => ok_some (by rw [if_neg g]))
theorem red_e {a b z : Int} (hz : 0 ≤ z ∧ z ≤ 1) : (if z = 0 then red a b 0 else red a b 1) = red a b z := by
  by_cases c : z = 0
  · rw [if_pos c, c]
  · rw [if_neg c, show z = 1 by omega]
theorem isP {z : Int} (e : (decide (0 ≤ z) && decide (z ≤ 1)) = true) : 0 ≤ z ∧ z ≤ 1 := bd_t e
theorem b_good {A : Nat → Nat → Int} {ζ : ZS} (h : Cls A ζ) (hW : Wall A) {t a b c d what : Int} (ht : r32 t) (ha : r32 a) (hb : r32 b) (hc : r32 c) (hd : r32 d) (hwh : r32 what) : Ok (g_X11_good t a b c d what ζ) (CP A ζ (QG A t a b c d what)) := by
  have hk := hW.1.1
  unfold g_X11_good g_X11_good_36
  refine ok_bind (s_fresh hW h) (fun ζ1 ⟨c1, f1⟩ => ok_beq (s_isTold c1.1.2.1.1 ht) (ok_bi (fun e => ok_some ⟨Or.inr ⟨fun q => (by rw [e] at q; cases q.1), rfl⟩, cf_cls c1, f1⟩) (fun e => ?_)))
  have tr := thz_r e
  refine ok_bind (s_takeWeights c1.1.2.2.1 hk ha hb hc hd) (fun r ⟨f2, p, r1, r2, r3⟩ => ?_)
  have fs : Fx Wsc ζ1 r.2 := fx_mono f2 (fun x y q => by unfold We at q; unfold Wsc; omega)
  have c2 := cf_sc hW.2.1 c1 fs
  have f12 := fx_trans f1 (wsc_26 fs)
  rw [r1]
  refine ok_bi (fun e2 => ok_some ⟨Or.inr ⟨fun q => (by have := r2.mpr q.2.1; rw [e2] at this; cases this), rfl⟩, cf_cls c2, f12⟩) (fun e2 => ?_)
  have wk := r2.mp e2
  have gv := r3 e2
  refine ok_beq (s_isPart r.2 hwh) (ok_bi (fun e3 => ok_some ⟨Or.inr ⟨fun q => bd_f e3 q.2.2, rfl⟩, cf_cls c2, f12⟩) (fun e3 => ?_))
  have ew := bd_t e3
  have va := c2.2.1.1
  have bb := vg_bd hW.1 (t := t.toNat) (by omega) wk.1
  have gb := gvn_bd (by omega) wk.1
  have pb := pg_bd (vv_bd hW.1 (t := t.toNat) (by omega)) gb
  have sp := wk.2
  refine ok_gk (by omega) (by omega) (ok_beq (s_pwg (r := vv A t.toNat) (by rw [show 40 + 1 + t.toNat = 41 + t.toNat by omega]; exact ln_val t.toNat (by omega)) (fun m hm => by rw [show 40 + 1 + t.toNat = 41 + t.toNat by omega]; exact va.1 t.toNat m (by omega) hm) gv) ?_)
  refine ok_gw (by dsimp only; omega) (by dsimp only; omega) (ok_beq (s_sumOfGiven gv) (ok_gw (by dsimp only; omega) (by dsimp only; omega) ?_))
  unfold g_X3_become
  refine ok_beq rfl ?_
  dsimp only
  refine ok_bind (s_reduce (a := dt (vv A t.toNat) (gvn A a b c d)) (b := sm4 (gvn A a b c d)) (by rw [zJ_2, if_neg (by omega), zJ_2, if_pos ⟨rfl, rfl⟩]) (by rw [zJ_2, if_pos ⟨rfl, rfl⟩]) sp (by omega) (by omega)) (fun ζ3 ⟨d1, d2, f3⟩ => ok_beq (s_part hwh) (ok_some ?_))
  have fs3 : Fx Wsc r.2 ζ3 := fx_trans (fx_J (fx_J (fx_refl _ _) (show Wsc 145 0 by unfold Wsc; omega)) (show Wsc 145 1 by unfold Wsc; omega)) (fx_mono f3 (fun x y q => by unfold We at q; unfold Wsc; omega))
  refine ⟨Or.inl ⟨⟨e, wk, ew⟩, ?_⟩, cf_cls (cf_sc hW.2.1 c2 fs3), fx_trans f12 (wsc_26 fs3)⟩
  rw [d1, d2]
  exact red_e ew
theorem b_fits {A : Nat → Nat → Int} {ζ : ZS} (h : Cls A ζ) (hW : Wall A) {a b c d : Int} (ha : r32 a) (hb : r32 b) (hc : r32 c) (hd : r32 d) : Ok (g_X11_fits a b c d ζ) (CP A ζ (QF A a b c d)) := by
  have hk := hW.1.1
  have q9 := hW.2.1.1
  unfold g_X11_fits
  refine ok_bind (s_fresh hW h) (fun ζ1 ⟨c1, f1⟩ => ?_)
  refine ok_bind (s_takeWeights c1.1.2.2.1 hk ha hb hc hd) (fun r ⟨f2, p, r1, r2, r3⟩ => ?_)
  have fs : Fx Wsc ζ1 r.2 := fx_mono f2 (fun x y q => by unfold We at q; unfold Wsc; omega)
  have c2 := cf_sc hW.2.1 c1 fs
  have f12 := fx_trans f1 (wsc_26 fs)
  rw [r1]
  refine ok_bi (fun e2 => ok_some ⟨Or.inr ⟨fun q => (by have := r2.mpr q; rw [e2] at this; cases this), rfl⟩, cf_cls c2, f12⟩) (fun e2 => ?_)
  have wk := r2.mp e2
  have gv := r3 e2
  have gb := gvn_bd (by omega) wk.1
  obtain ⟨b1, b2, b3, -⟩ := c2.2.1
  generalize r.2 = ζ2 at *
  have key : ∀ (n : Nat) (w : Int) (s : Nat), w = s → s ≤ 12 → 12 - s < n → (∀ s', s' < s → hrd A s' = true → 0 ≤ dt (sr A s') (gvn A a b c d)) → Ok (g_X11_fits_21 n w ζ2) (CP A ζ (QF A a b c d)) := by
    intro n
    induction n with
    | zero => intro _ _ _ _ h; omega
    | succ n ih =>
      intro w s hws hs hn hold
      subst hws
      unfold g_X11_fits_21 g_X11_fits_62
      refine ok_gI (by omega) (by omega) (by omega) (by omega) (fun g => ok_some ⟨Or.inl ⟨wk, Or.inl ⟨rfl, fun i hi => (gb i hi).1, fun i hi hki => gvn_z i hki, fun s' h1 h2 => hold s' (by omega) h2⟩⟩, cf_cls c2, f12⟩) (fun g => ?_)
      refine bit_test b3 rfl (by omega) (by omega) (fun e => ih _ (s + 1) (by omega) (by omega) (by omega) (fun s' h1 h2 => ?_)) (fun e => ?_)
      · by_cases c : s' = s
        · subst c; rw [e] at h2; cases h2
        · exact hold s' (by omega) h2
      · have hs9 : (s : Int) < A 9 0 := by unfold hrd at e; simp only [Bool.and_eq_true, decide_eq_true_eq] at e; exact e.1
        have pb := pg_bd (sr_bd hW.1 hW.2.1 hs9) gb
        rw [show 51 + 1 + Int.toNat (s : Int) = 52 + s by omega]
        refine ok_gk (by omega) (by omega) (ok_beq (s_pwg (ln_row s (by omega)) (fun m hm => b2 s m hs9 hm) gv) ?_)
        refine ok_gI (by omega) (by omega) (by dsimp only; omega) (by dsimp only; omega) (fun g2 => ih _ (s + 1) (by omega) (by omega) (by omega) (fun s' h1 h2 => ?_)) (fun g2 => ok_some ⟨Or.inl ⟨wk, Or.inr ⟨rfl, fun z => g2 (z.2.2 s hs9 e)⟩⟩, cf_cls c2, f12⟩)
        by_cases c : s' = s
        · subst c; exact g2
        · exact hold s' (by omega) h2
  exact key FU 0 0 rfl (by omega) (by rw [FU_e]; omega) (fun s' h1 => by omega)
