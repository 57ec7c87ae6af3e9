/-! the class reads: measures and sayings -/
def Cen (s : Nat → Int) (N : Nat) (k : Int) (R : Rz) (c : Nat) (ζ ζ' : ZS) : Prop := (R.1 = 0 ∧ CSt s N k R.2.1 R.2.2 c ζ ζ') ∨ (R.1 ≠ 0 ∧ FCt R.1 c ζ ζ')
theorem ln_ch : ∀ c, c = 150 ∨ c = 160 → ln (c + 1) = 4 ∧ ln (c + 2) = 4 ∧ ln (c + 3) = 4 := by intro c h; rcases h with h | h <;> subst h <;> exact ⟨rfl, rfl, rfl⟩
section
variable {s : Nat → Int} {N p c : Nat} {k : Int} {D : Nat → Nat → Int} {ζ ζ1 : ZS}
theorem ch_upM {j m : Nat} {v : Int} (h : Ch D ζ1 c) (hj : j < 3) (h0 : j = 0 → v = 1) : Ch (up D (6 + j) m v) (zI ζ1 (c + 1 + j) m v) c := by
  have z : ∀ x y, x ≠ c + 1 + j → (zI ζ1 (c + 1 + j) m v).1 x y = ζ1.1 x y := fun x y q => by rw [zI_1, if_neg (by omega)]
  have u : ∀ x y, x ≠ 6 + j → up D (6 + j) m v x y = D x y := fun x y q => by rw [up_e, if_neg (by omega)]
  have z1 : ∀ y, (zI ζ1 (c + 1 + j) m v).1 (c + 1 + j) y = if y = m then v else ζ1.1 (c + 1 + j) y := fun y => by
    rw [zI_1]
    by_cases e : y = m
    · rw [if_pos ⟨rfl, e⟩, if_pos e]
    · rw [if_neg (by omega), if_neg e]
  have u1 : ∀ y, up D (6 + j) m v (6 + j) y = if y = m then v else D (6 + j) y := fun y => by
    rw [up_e]
    by_cases e : y = m
    · rw [if_pos ⟨rfl, e⟩, if_pos e]
    · rw [if_neg (by omega), if_neg e]
  refine ⟨fun m' hm' => ?_, by rw [z _ _ (by omega), u _ _ (by omega)]; exact h.2.1, fun i hi => ?_⟩
  · have q := h.1 m' hm'
    rcases (show j = 0 ∨ j = 1 ∨ j = 2 by omega) with e | e | e
    · subst e
      have e1 := z1 m'
      have e2 := u1 m'
      have e1 : (zI ζ1 (c + 1 + 0) m v).1 (c + 1) m' = if m' = m then v else ζ1.1 (c + 1) m' := e1
      have e2 : up D (6 + 0) m v 6 m' = if m' = m then v else D 6 m' := e2
      rw [e1, e2, z _ _ (by omega), z _ _ (by omega), u _ _ (by omega), u _ _ (by omega)]
      refine ⟨?_, q.2⟩
      split
      · rw [h0 rfl]; rfl
      · exact q.1
    · subst e
      have e1 : (zI ζ1 (c + 1 + 1) m v).1 (c + 2) m' = if m' = m then v else ζ1.1 (c + 2) m' := z1 m'
      have e2 : up D (6 + 1) m v 7 m' = if m' = m then v else D 7 m' := u1 m'
      rw [e1, e2, z _ _ (by omega), z _ _ (by omega), u _ _ (by omega), u _ _ (by omega)]
      refine ⟨q.1, ?_, q.2.2⟩
      split
      · rfl
      · exact q.2.1
    · subst e
      have e1 : (zI ζ1 (c + 1 + 2) m v).1 (c + 3) m' = if m' = m then v else ζ1.1 (c + 3) m' := z1 m'
      have e2 : up D (6 + 2) m v 8 m' = if m' = m then v else D 8 m' := u1 m'
      rw [e1, e2, z _ _ (by omega), z _ _ (by omega), u _ _ (by omega), u _ _ (by omega)]
      refine ⟨q.1, q.2.1, ?_⟩
      split
      · rfl
      · exact q.2.2
  · rw [u _ _ (by omega)] at hi
    rw [z _ _ (by omega), z _ _ (by omega), z _ _ (by omega), z _ _ (by omega), z _ _ (by omega), z _ _ (by omega), u _ _ (by omega), u _ _ (by omega), u _ _ (by omega), u _ _ (by omega), u _ _ (by omega), u _ _ (by omega)]
    exact h.2.2 i hi
theorem cs_upM (hB : Bdc s N k c) {j m : Nat} {v : Int} (h : CSt s N k p D c ζ ζ1) (hj : j < 3) (h0 : j = 0 → v = 1) : CSt s N k p (up D (6 + j) m v) c ζ (zI ζ1 (c + 1 + j) m v) := by
  have hc := hB.2.2.2
  unfold cell2 at hc
  obtain ⟨a1, a2, a3, a4, a5, a6, a7⟩ := h
  have z : ∀ x y, x < 150 → (zI ζ1 (c + 1 + j) m v).1 x y = ζ1.1 x y := fun x y q => by rw [zI_1, if_neg (by omega)]
  exact ⟨fx_I a1 (by unfold Wcc; omega), ⟨by rw [z _ _ (by omega)]; exact a2.1, fun i hi => by rw [z _ _ (by omega)]; exact a2.2 i hi⟩, ⟨by rw [z _ _ (by omega)]; exact a3.1, by rw [z _ _ (by omega)]; exact a3.2.1, by rw [z _ _ (by omega)]; exact a3.2.2⟩, by rw [z _ _ (by omega)]; exact a4, by rw [z _ _ (by omega)]; exact a5, ch_upM a6 hj h0, a7⟩
theorem s_tfm (hB : Bdc s N k c) (hD : Dok k D) (h : CSt s N k p D c ζ ζ1) {j : Nat} (hj : j < 3) : Ok (g_X6_takeFreshMeasure (c + 1 + j) ζ1) (fun r => ((tK s N p = 2 ∧ tV s N p < k ∧ (if j = 0 then D 6 (tV s N p).toNat ≠ 0 else 0 ≤ D (6 + j) (tV s N p).toNat)) ∧ r.1 = -1 ∧ FCt (3 + 16 * (skp s N p : Int)) c ζ r.2) ∨ (¬ (tK s N p = 2 ∧ tV s N p < k ∧ (if j = 0 then D 6 (tV s N p).toNat ≠ 0 else 0 ≤ D (6 + j) (tV s N p).toNat)) ∧ TC s N k p D c ζ (tnF s N 0 (k - 1) p) 0 (k - 1) r)) := by
  have hc := hB.2.2.2
  have hk := hB.2.2.1
  unfold cell2 at hc
  have h' := h
  obtain ⟨a1, a2, a3, a4, a5, a6, a7⟩ := h
  have kr := tK_r (s := s) (N := N) (p := p)
  have l4 : ln (c + 1 + j) = 4 := by
    have := ln_ch c hc
    rcases (show j = 0 ∨ j = 1 ∨ j = 2 by omega) with e | e | e
    · subst e; exact this.1
    · subst e; exact this.2.1
    · subst e; exact this.2.2
  have go : ¬ (tK s N p = 2 ∧ tV s N p < k ∧ (if j = 0 then D 6 (tV s N p).toNat ≠ 0 else 0 ≤ D (6 + j) (tV s N p).toNat)) → Ok (g_X6_takeFreshMeasure_46 ζ1) (fun r => ((tK s N p = 2 ∧ tV s N p < k ∧ (if j = 0 then D 6 (tV s N p).toNat ≠ 0 else 0 ≤ D (6 + j) (tV s N p).toNat)) ∧ r.1 = -1 ∧ FCt (3 + 16 * (skp s N p : Int)) c ζ r.2) ∨ (¬ (tK s N p = 2 ∧ tV s N p < k ∧ (if j = 0 then D 6 (tV s N p).toNat ≠ 0 else 0 ≤ D (6 + j) (tV s N p).toNat)) ∧ TC s N k p D c ζ (tnF s N 0 (k - 1) p) 0 (k - 1) r)) := fun q => by
    unfold g_X6_takeFreshMeasure_46
    rw [a4]
    exact ok_bind (s_tnC hB h' (by omega) (by omega)) (fun r hr => ok_some (Or.inr ⟨q, hr⟩))
  unfold g_X6_takeFreshMeasure
  refine ok_beq (s_number hB h') ?_
  rw [a3.1, a4, a5, l4]
  refine ok_gI (by omega) (by omega) (by omega) (by omega) (fun _ => ok_gI (by omega) (by omega) (by omega) (by omega) (fun g => ?_) (fun g => go (fun q => g q.1))) (fun q => absurd rfl q)
  rw [if_pos g]
  have vr := tV_2 g
  refine ok_gI (by omega) (by omega) (by omega) (by omega) (fun q => go (fun q2 => by omega)) (fun q => ok_gk (by omega) (by omega) ?_)
  have d := hD.1 (tV s N p).toNat (by omega)
  have q6 := a6.1 (tV s N p).toNat (by omega)
  have cell : ζ1.1 (c + 1 + j) (tV s N p).toNat = (if j = 0 then (if D 6 (tV s N p).toNat = 0 then -1 else 1) else D (6 + j) (tV s N p).toNat) ∧ (-1 ≤ ζ1.1 (c + 1 + j) (tV s N p).toNat ∧ ζ1.1 (c + 1 + j) (tV s N p).toNat ≤ 100) := by
    rcases (show j = 0 ∨ j = 1 ∨ j = 2 by omega) with e | e | e
    · subst e
      have e1 : ζ1.1 (c + 1 + 0) (tV s N p).toNat = _ := q6.1
      rw [e1]
      exact ⟨by rw [if_pos rfl], by split <;> omega⟩
    · subst e
      have e1 : ζ1.1 (c + 1 + 1) (tV s N p).toNat = _ := q6.2.1
      rw [e1]
      exact ⟨by rw [if_neg (by omega)], d.2.1⟩
    · subst e
      have e1 : ζ1.1 (c + 1 + 2) (tV s N p).toNat = _ := q6.2.2
      rw [e1]
      exact ⟨by rw [if_neg (by omega)], d.2.2.1⟩
  show Ok (gI (ζ1.1 (c + 1 + j) (tV s N p).toNat) (-1) (ζ1.1 (c + 1 + j) (tV s N p).toNat = -1) _ _) _
  refine ok_gI (by omega) (by omega) (by omega) (by omega) (fun e => go (fun q2 => ?_)) (fun e => ok_bind (s_wrongC hB h' (w := 3) (by omega) (by omega)) (fun ζ2 h2 => ?_))
  · have q2 := q2.2.2
    rw [cell.1] at e
    by_cases j0 : j = 0
    · rw [if_pos j0] at q2 e
      rw [if_neg q2] at e
      omega
    · rw [if_neg j0] at q2 e
      omega
  · unfold g_X6_takeFreshMeasure_46
    refine ok_beq (s_tnCF h2 _ _ _) (ok_some (Or.inl ⟨⟨g, by omega, ?_⟩, rfl, h2⟩))
    have cr := cell.2
    rw [cell.1] at e cr
    by_cases j0 : j = 0
    · rw [if_pos j0] at e ⊢
      intro q
      rw [if_pos q] at e
      exact e rfl
    · rw [if_neg j0] at e cr ⊢
      omega
theorem s_readLess (hB : Bdc s N k c) (hD : Dok k D) (h : CSt s N k p D c ζ ζ1) : Ok (g_X6_readLess c ζ1) (Cen s N k (spM s N k 0 (tE s N p) D) c ζ) := by
  have hk := hB.2.2.1
  unfold g_X6_readLess g_X6_readLess_30 spM
  refine ok_bind (cs_step hB h) (fun ζ2 h2 => ok_bind (s_tfm (j := 0) hB hD h2 (by omega)) (fun r hr => ?_))
  rcases hr with ⟨ag, r1, r2⟩ | ⟨ag, tc⟩
  · rw [if_pos ag, r2.2.1]
    exact ok_gI (by omega) (by have := r2.2.2.2; have := r2.2.1; omega) (by omega) (by omega) (fun q => by omega) (fun _ => ok_some (Or.inr ⟨show 3 + 16 * (skp s N (tE s N p) : Int) ≠ 0 by omega, r2⟩))
  · rw [if_neg ag]
    rcases tc with ⟨f0, t1, t2, t3, t4, t5⟩ | ⟨f0, t1, t2⟩
    · rw [if_neg (by omega), if_pos rfl, t5.2.2.2.2.1, t1]
      refine ok_gI (by omega) (by omega) (by omega) (by omega) (fun _ => ok_gk (by omega) (by omega) (ok_some (Or.inl ⟨rfl, cs_upM (j := 0) hB t5 (by omega) (fun _ => rfl)⟩))) (fun q => absurd rfl q)
    · rw [if_pos f0]
      obtain ⟨-, b2, b3, b4⟩ := id t2
      rw [b2]
      exact ok_gI (by omega) (by omega) (by omega) (by omega) (fun q => by omega) (fun _ => ok_some (Or.inr ⟨f0, t2⟩))
theorem s_readLimit (hB : Bdc s N k c) (hD : Dok k D) (h : CSt s N k p D c ζ ζ1) {j : Nat} (h1 : 1 ≤ j) (h2 : j ≤ 2) : Ok (g_X6_readLimit (c + 1 + j) ζ1) (Cen s N k (spM s N k j (tE s N p) D) c ζ) := by
  have hk := hB.2.2.1
  have hc := hB.2.2.2
  unfold cell2 at hc
  have l4 : ln (c + 1 + j) = 4 := by
    have := ln_ch c hc
    rcases (show j = 1 ∨ j = 2 by omega) with e | e
    · subst e; exact this.2.1
    · subst e; exact this.2.2
  unfold g_X6_readLimit g_X6_readLimit_33 spM
  rw [l4]
  have bad : ∀ {v : Int} {ζ3 : ZS} {z : Int} {R : Rz}, FCt v c ζ ζ3 → R.1 = v → Ok ((g_X6_takeNumber 0 100 (-1) ζ3).bind fun q3 => gI (q3.2.1 29 2) 0 (q3.2.1 29 2 = 0) (gk z 4 (some (zI q3.2 (c + 1 + j) (Int.toNat z) q3.1))) (some q3.2)) (Cen s N k R c ζ) := fun {v ζ3 z R} q hR => by
    refine ok_beq (s_tnCF q _ _ _) ?_
    obtain ⟨-, b2, b3, b4⟩ := id q
    rw [b2]
    exact ok_gI (by omega) (by omega) (by omega) (by omega) (fun q => by omega) (fun _ => ok_some (Or.inr ⟨by omega, by rw [hR]; exact q⟩))
  refine ok_bind (cs_step hB h) (fun ζ2 h2 => ok_bind (s_tfm (j := j) hB hD h2 (by omega)) (fun r hr => ?_))
  rcases hr with ⟨ag, r1, r2⟩ | ⟨ag, tc⟩
  · rw [if_pos ag]
    exact bad r2 rfl
  · rw [if_neg ag]
    rcases tc with ⟨f0, t1, t2, t3, t4, t5⟩ | ⟨f0, t1, t2⟩
    · rw [if_neg (by omega), if_neg (by omega)]
      refine ok_bind (s_tnC hB t5 (by omega) (by omega)) (fun r' hr' => ?_)
      rcases hr' with ⟨g0, u1, u2, u3, u4, u5⟩ | ⟨g0, u1, u2⟩
      · rw [if_neg (by omega), u5.2.2.2.2.1, t1, u1]
        exact ok_gI (by omega) (by omega) (by omega) (by omega) (fun _ => ok_gk (by omega) (by omega) (ok_some (Or.inl ⟨rfl, cs_upM (j := j) hB u5 (by omega) (fun q => by omega)⟩))) (fun q => absurd rfl q)
      · rw [if_pos g0]
        obtain ⟨-, b2, b3, b4⟩ := id u2
        rw [b2]
        exact ok_gI (by omega) (by omega) (by omega) (by omega) (fun q => by omega) (fun _ => ok_some (Or.inr ⟨g0, u2⟩))
    · rw [if_pos f0]
      exact bad t2 rfl
theorem s_sayC (hB : Bdc s N k c) (hD : Dok k D) (hn2 : D 9 0 < 12) (h : CSt s N k p D c ζ ζ1) {g i cc d x y kd y2 t o : Int} (h3 : i = 3 → kd = 0 ∧ y2 = y ∧ t = 1 ∧ o = 1) (h4 : i = 4 → kd = 0 ∧ y2 = y ∧ t = 1 ∧ o = 2) (h5 : i = 5 → kd = 0 ∧ y2 = y ∧ t = cc ∧ o = d) (h6 : i = 6 → kd = 1 ∧ t = cc) (h7 : i = 7 → kd = 2 ∧ t = cc) (h8 : i = 8 → kd = 3 ∧ y2 = y) : Ok (g_X0_say c g kd x y2 t o ζ1) (CSt s N k p (sayD D g i cc d x y) c ζ) := by
  have hc := hB.2.2.2
  unfold cell2 at hc
  obtain ⟨n, hn⟩ : ∃ n : Nat, D 9 0 = n := ⟨(D 9 0).toNat, by have := hD.2.1; omega⟩
  have en : (D 9 0).toNat = n := by omega
  obtain ⟨a1, a2, a3, a4, a5, a6, a7⟩ := h
  have e9 : ζ1.1 c 9 = (n : Int) := a6.2.1.trans hn
  have z4 : ∀ (ζ : ZS) a v, (zI ζ (c + 4) a v).1 c 9 = ζ.1 c 9 := fun ζ a v => by rw [zI_1, if_neg (by omega)]
  have z5 : ∀ (ζ : ZS) a v, (zI ζ (c + 5) a v).1 c 9 = ζ.1 c 9 := fun ζ a v => by rw [zI_1, if_neg (by omega)]
  have z6 : ∀ (ζ : ZS) a v, (zI ζ (c + 6) a v).1 c 9 = ζ.1 c 9 := fun ζ a v => by rw [zI_1, if_neg (by omega)]
  have z7 : ∀ (ζ : ZS) a v, (zI ζ (c + 7) a v).1 c 9 = ζ.1 c 9 := fun ζ a v => by rw [zI_1, if_neg (by omega)]
  have z8 : ∀ (ζ : ZS) a v, (zI ζ (c + 8) a v).1 c 9 = ζ.1 c 9 := fun ζ a v => by rw [zI_1, if_neg (by omega)]
  have z9 : ∀ (ζ : ZS) a v, (zI ζ (c + 9) a v).1 c 9 = ζ.1 c 9 := fun ζ a v => by rw [zI_1, if_neg (by omega)]
  have et : Int.toNat ((n : Nat) : Int) = n := by omega
  unfold g_X0_say
  simp only [z4, z5, z6, z7, z8, z9, e9, et]
  refine ok_gI (by omega) (by omega) (by omega) (by omega) (fun _ => ok_gk (by omega) (by omega) (ok_gk (by omega) (by omega) (ok_gk (by omega) (by omega) (ok_gk (by omega) (by omega) (ok_gk (by omega) (by omega) (ok_gk (by omega) (by omega) (ok_some ?_))))))) (fun q => by omega)
  have f : Fx (Wcc c) ζ (zI (zI (zI (zI (zI (zI (zI ζ1 (c + 4) n g) (c + 5) n kd) (c + 6) n x) (c + 7) n y2) (c + 8) n t) (c + 9) n o) c 9 ((n : Int) + 1)) := fx_I (fx_I (fx_I (fx_I (fx_I (fx_I (fx_I a1 (by unfold Wcc; omega)) (by unfold Wcc; omega)) (by unfold Wcc; omega)) (by unfold Wcc; omega)) (by unfold Wcc; omega)) (by unfold Wcc; omega)) (by unfold Wcc; omega)
  have w : ∀ a b, (zI (zI (zI (zI (zI (zI (zI ζ1 (c + 4) n g) (c + 5) n kd) (c + 6) n x) (c + 7) n y2) (c + 8) n t) (c + 9) n o) c 9 ((n : Int) + 1)).1 a b = if a = c ∧ b = 9 then (n : Int) + 1 else if a = c + 9 ∧ b = n then o else if a = c + 8 ∧ b = n then t else if a = c + 7 ∧ b = n then y2 else if a = c + 6 ∧ b = n then x else if a = c + 5 ∧ b = n then kd else if a = c + 4 ∧ b = n then g else ζ1.1 a b := fun a b => by simp only [zI_1]
  generalize zI (zI (zI (zI (zI (zI (zI ζ1 (c + 4) n g) (c + 5) n kd) (c + 6) n x) (c + 7) n y2) (c + 8) n t) (c + 9) n o) c 9 ((n : Int) + 1) = ζ2 at f w ⊢
  have wo : ∀ a b, ¬ (a = c ∧ b = 9) → (b ≠ n ∨ a < c + 4 ∨ c + 9 < a) → ζ2.1 a b = ζ1.1 a b := fun a b q1 q2 => by rw [w, if_neg q1, if_neg (by omega), if_neg (by omega), if_neg (by omega), if_neg (by omega), if_neg (by omega), if_neg (by omega)]
  refine ⟨f, ⟨by rw [wo _ _ (by omega) (by omega)]; exact a2.1, fun i hi => by rw [wo _ _ (by omega) (by omega)]; exact a2.2 i hi⟩, ⟨by rw [wo _ _ (by omega) (by omega)]; exact a3.1, by rw [wo _ _ (by omega) (by omega)]; exact a3.2.1, by rw [wo _ _ (by omega) (by omega)]; exact a3.2.2⟩, by rw [wo _ _ (by omega) (by omega)]; exact a4, by rw [wo _ _ (by omega) (by omega)]; exact a5, ⟨fun m hm => ?_, ?_, fun q hq => ?_⟩, a7⟩
  · rw [wo _ _ (by omega) (by omega), wo _ _ (by omega) (by omega), wo _ _ (by omega) (by omega), sd_o (by omega) (by omega), sd_o (by omega) (by omega), sd_o (by omega) (by omega)]
    exact a6.1 m hm
  · rw [w, if_pos ⟨rfl, rfl⟩, sd_9, hn]
  · rw [sd_9, hn] at hq
    by_cases e : q = n
    · subst e
      obtain ⟨b1, b2, b3, b4, b5, b6⟩ := sd_n (g := g) (i := i) (c := cc) (d := d) (x := x) (y := y) en
      rw [b1, b2, b3, b4, b5, b6]
      have v4 : ζ2.1 (c + 4) q = g := by rw [w, if_neg (by omega), if_neg (by omega), if_neg (by omega), if_neg (by omega), if_neg (by omega), if_neg (by omega), if_pos ⟨rfl, rfl⟩]
      have v5 : ζ2.1 (c + 5) q = kd := by rw [w, if_neg (by omega), if_neg (by omega), if_neg (by omega), if_neg (by omega), if_neg (by omega), if_pos ⟨rfl, rfl⟩]
      have v6 : ζ2.1 (c + 6) q = x := by rw [w, if_neg (by omega), if_neg (by omega), if_neg (by omega), if_neg (by omega), if_pos ⟨rfl, rfl⟩]
      have v7 : ζ2.1 (c + 7) q = y2 := by rw [w, if_neg (by omega), if_neg (by omega), if_neg (by omega), if_pos ⟨rfl, rfl⟩]
      have v8 : ζ2.1 (c + 8) q = t := by rw [w, if_neg (by omega), if_neg (by omega), if_pos ⟨rfl, rfl⟩]
      have v9 : ζ2.1 (c + 9) q = o := by rw [w, if_neg (by omega), if_pos ⟨rfl, rfl⟩]
      rw [v4, v5, v6, v7, v8, v9]
      exact ⟨rfl, rfl, h3, h4, h5, h6, h7, h8⟩
    · rw [sd_o (by omega) (by omega), sd_o (by omega) (by omega), sd_o (by omega) (by omega), sd_o (by omega) (by omega), sd_o (by omega) (by omega), sd_o (by omega) (by omega), wo _ _ (by omega) (by omega), wo _ _ (by omega) (by omega), wo _ _ (by omega) (by omega), wo _ _ (by omega) (by omega), wo _ _ (by omega) (by omega), wo _ _ (by omega) (by omega)]
      exact a6.2.2 q (by omega)
end
