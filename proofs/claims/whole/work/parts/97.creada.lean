/-! the class reads: words and numbers -/
section
theorem fld_c {b o : Int} {u v : Nat → Int} {q r : Nat} : ∀ n, (∀ i, i < n → u (q + i) = v (r + i)) → fld b o u q n = fld b o v r n
  | 0, _ => rfl
  | n + 1, h => by
    show b * fld b o u q n + (u (q + n) - o) = b * fld b o v r n + (v (r + n) - o)
    rw [fld_c n (fun i hi => h i (by omega)), h n (by omega)]
theorem fld_p {u : Nat → Int} {q : Nat} : ∀ n, (∀ i, i < n → 97 ≤ u (q + i) ∧ u (q + i) ≤ 122) → 0 ≤ fld 37 96 u q n ∧ (0 < n → 0 < fld 37 96 u q n)
  | 0, _ => ⟨Int.le_refl _, fun h => absurd h (by omega)⟩
  | n + 1, h => by
    have a := fld_p n (fun i hi => h i (by omega))
    have c := h n (by omega)
    show 0 ≤ 37 * fld 37 96 u q n + (u (q + n) - 96) ∧ (_ → 0 < 37 * fld 37 96 u q n + (u (q + n) - 96))
    exact ⟨by omega, fun _ => by omega⟩
theorem fld_u {u v : Nat → Int} {q r : Nat} : ∀ n m, (∀ i, i < n → 97 ≤ u (q + i) ∧ u (q + i) ≤ 122) → (∀ i, i < m → 97 ≤ v (r + i) ∧ v (r + i) ≤ 122) → fld 37 96 u q n = fld 37 96 v r m → n = m ∧ ∀ i, i < n → u (q + i) = v (r + i)
  | 0, 0, _, _, _ => ⟨rfl, fun i hi => by omega⟩
  | 0, m + 1, _, h2, e => by
    have := (fld_p (m + 1) h2).2 (by omega)
    have e : (0 : Int) = fld 37 96 v r (m + 1) := e
    omega
  | n + 1, 0, h1, _, e => by
    have := (fld_p (n + 1) h1).2 (by omega)
    have e : fld 37 96 u q (n + 1) = (0 : Int) := e
    omega
  | n + 1, m + 1, h1, h2, e => by
    have e : 37 * fld 37 96 u q n + (u (q + n) - 96) = 37 * fld 37 96 v r m + (v (r + m) - 96) := e
    have a := h1 n (by omega)
    have b := h2 m (by omega)
    have ih := fld_u n m (fun i hi => h1 i (by omega)) (fun i hi => h2 i (by omega)) (by omega)
    obtain ⟨ih1, ih2⟩ := ih
    subst ih1
    refine ⟨rfl, fun i hi => ?_⟩
    by_cases c : i = n
    · subst c; omega
    · exact ih2 i (by omega)
end
def Wcc (c x y : Nat) : Prop := (x = 27 ∧ 2 ≤ y ∧ y ≤ 4) ∨ (x = 29 ∧ (y = 1 ∨ y = 2)) ∨ (c ≤ x ∧ x ≤ c + 9)
def Bdc (s : Nat → Int) (N : Nat) (k : Int) (c : Nat) : Prop := N ≤ 1000 ∧ (∀ i, i < N → 0 ≤ s i ∧ s i ≤ 126) ∧ (1 ≤ k ∧ k ≤ 4) ∧ cell2 c
def CSt (s : Nat → Int) (N : Nat) (k : Int) (p : Nat) (D : Nat → Nat → Int) (c : Nat) (ζ ζ1 : ZS) : Prop := Fx (Wcc c) ζ ζ1 ∧ Tx s N ζ1 ∧ Tp s N p ζ1 ∧ ζ1.1 29 1 = k ∧ ζ1.1 29 2 = 0 ∧ Ch D ζ1 c ∧ p ≤ N
def FCt (v : Int) (c : Nat) (ζ ζ1 : ZS) : Prop := Fx (Wcc c) ζ ζ1 ∧ ζ1.1 29 2 = v ∧ 0 < v ∧ v < 20000
section
variable {s : Nat → Int} {N p c : Nat} {k : Int} {D : Nat → Nat → Int} {ζ ζ1 : ZS}
theorem cs_step (hB : Bdc s N k c) (h : CSt s N k p D c ζ ζ1) : Ok (g_X8_step ζ1) (CSt s N k (tE s N p) D c ζ) := by
  obtain ⟨h1, h2, h3, h4, h5, h6, h7⟩ := h
  have hc := hB.2.2.2
  unfold cell2 at hc
  refine ok_mono (s_step hB.1 hB.2.1 h2 h3.2.2 (tE_b h7).2.1) (fun ζ' ⟨t1, t2⟩ => ⟨fx_trans h1 (fx_mono t2 (fun x y q => by unfold Wt3 at q; unfold Wcc; omega)), tx_fx h2 t2 (by unfold Wt3; omega) (fun i => by unfold Wt3; omega), t1, ?_, ?_, ch_fx h6 (fun x y g1 g2 => (t2.1 x y (by unfold Wt3; omega)).1), (tE_b h7).2.1⟩)
  · rw [(t2.1 _ _ (by unfold Wt3; omega)).1]; exact h4
  · rw [(t2.1 _ _ (by unfold Wt3; omega)).1]; exact h5
theorem s_wrongC (hB : Bdc s N k c) (h : CSt s N k p D c ζ ζ1) {w : Int} (h1 : 1 ≤ w) (h2 : w ≤ 5) : Ok (g_X6_wrong w ζ1) (FCt (w + 16 * (skp s N p : Int)) c ζ) := by
  obtain ⟨a1, a2, a3, a4, a5, a6, a7⟩ := h
  have n1 := hB.1
  have b := (skp_b (s := s) a7).2
  unfold g_X6_wrong
  rw [a3.2.1]
  exact ok_some ⟨fx_I a1 (by unfold Wcc; omega), by rw [zI_1, if_pos ⟨rfl, rfl⟩], by omega, by omega⟩
theorem s_number (hB : Bdc s N k c) (h : CSt s N k p D c ζ ζ1) : g_X8_number ζ1 = some (if tK s N p = 2 then tV s N p else 0, ζ1) := by
  obtain ⟨a1, a2, a3, a4, a5, a6, a7⟩ := h
  have n1 := hB.1
  have b1 := skp_b (s := s) a7
  have b2 := tE_b (s := s) a7
  have kr := tK_r (s := s) (N := N) (p := p)
  apply ok_eq
  unfold g_X8_number
  rw [a3.2.1]
  by_cases k2 : tK s N p = 2
  · rw [if_pos k2]
    have eV : tV s N p = fld 10 48 s (skp s N p) (tE s N p - skp s N p) := by unfold tV; rw [if_neg (by omega), if_pos k2]
    have key : ∀ (n : Nat) (z1 z2 : Int) (y : Nat), z2 = y → skp s N p ≤ y → y ≤ tE s N p → tE s N p - y < n → z1 = fld 10 48 s (skp s N p) (y - skp s N p) → Ok (g_X8_number_7 n z1 z2 ζ1) (fun x => x = (tV s N p, ζ1)) := by
      intro n
      induction n with
      | zero => intro _ _ _ _ _ _ h; omega
      | succ n ih =>
        intro z1 z2 y hz hy1 hy2 hn hv
        subst hz
        unfold g_X8_number_7 g_X8_number_44
        rw [a3.2.2, a3.1, show Int.toNat ((y : Nat) : Int) = y by omega]
        refine ok_gI (by omega) (by omega) (by omega) (by omega) (fun g => ok_some ?_) (fun g => ok_gI (by omega) (by omega) (by omega) (by omega) (fun _ => ok_gk (by omega) (by omega) (ih _ _ (y + 1) (by omega) (by omega) (by omega) (by omega) ?_)) (fun q => absurd k2 q))
        · rw [hv, eV, show y = tE s N p by omega]
        · rw [a2.2 y (by omega), show y + 1 - skp s N p = (y - skp s N p) + 1 by omega, hv]
          show _ = 10 * fld 10 48 s (skp s N p) (y - skp s N p) + (s (skp s N p + (y - skp s N p)) - 48)
          rw [show skp s N p + (y - skp s N p) = y by omega]
          omega
    exact key FU 0 _ (skp s N p) rfl (by omega) (by omega) (by rw [FU_e]; omega) (by rw [show skp s N p - skp s N p = 0 by omega]; rfl)
  · rw [if_neg k2]
    show Ok (g_X8_number_7 (4999 + 1) 0 _ ζ1) _
    unfold g_X8_number_7 g_X8_number_44
    rw [a3.2.2, a3.1]
    exact ok_gI (by omega) (by omega) (by omega) (by omega) (fun _ => ok_some rfl) (fun _ => ok_gI (by omega) (by omega) (by omega) (by omega) (fun q => absurd q k2) (fun _ => ok_some rfl))
theorem tk1_l (h : tK s N p = 1) : ∀ i, i < tE s N p - skp s N p → 97 ≤ s (skp s N p + i) ∧ s (skp s N p + i) ≤ 122 := fun i hi => by
  have c := tK_c (Or.inl h)
  exact knd_1.mp ((rnp_all (s := s) (N := N) (k := 1) (p := skp s N p) (i := skp s N p + i) (by omega) (by have := c.2.2; rw [h] at this; omega)))
theorem s_saysC (hB : Bdc s N k c) (h : CSt s N k p D c ζ ζ1) (w : List Int) (v : Int) (hw : ∀ i, i < w.length → 97 ≤ w.getD i 0 ∧ w.getD i 0 ≤ 122) (hl : w.length ≤ 8) (hv : fld 37 96 (fun i => w.getD i 0) 0 w.length = v) : g_X8_says w ζ1 = some (bi (decide (isV s N p v)), ζ1) := by
  obtain ⟨a1, a2, a3, a4, a5, a6, a7⟩ := h
  have n1 := hB.1
  have b1 := skp_b (s := s) a7
  have b2 := tE_b (s := s) a7
  have kr := tK_r (s := s) (N := N) (p := p)
  apply ok_eq
  unfold g_X8_says
  rw [a3.1, a3.2.1, a3.2.2]
  refine ok_gI (by omega) (by omega) (by omega) (by omega) (fun k1 => ?_) (fun k1 => ok_some (by rw [decide_eq_false (show ¬ isV s N p v from fun q => k1 q.1)]; rfl))
  have eV : tV s N p = fld 37 96 s (skp s N p) (tE s N p - skp s N p) := by unfold tV; rw [if_pos k1]
  have let1 := tk1_l k1
  have un : isV s N p v → tE s N p - skp s N p = w.length ∧ ∀ i, i < tE s N p - skp s N p → s (skp s N p + i) = w.getD (0 + i) 0 := fun q => by
    refine fld_u (v := fun i => w.getD i 0) _ _ let1 (fun i hi => by rw [Nat.zero_add]; exact hw i hi) ?_
    rw [hv, ← q.2, eV]
  refine ok_gI (by omega) (by omega) (by omega) (by omega) (fun el => ?_) (fun el => ok_some (by rw [decide_eq_false (show ¬ isV s N p v from fun q => el (by have := (un q).1; omega))]; rfl))
  have key : ∀ (l : List Int) (i : Nat), (∀ j, j < l.length → l.getD j 0 = w.getD (i + j) 0) → i + l.length = w.length → (∀ j, j < i → s (skp s N p + j) = w.getD j 0) → Ok (g_X8_sayl ζ1 i l) (fun x => x = (bi (decide (isV s N p v)), ζ1)) := by
    intro l
    induction l with
    | nil =>
      intro i _ hi hall
      unfold g_X8_sayl
      have hi : i = w.length := hi
      refine ok_some ?_
      rw [decide_eq_true (show isV s N p v from ⟨k1, ?_⟩)]
      · rfl
      · rw [eV, ← hv, show tE s N p - skp s N p = w.length by omega]
        exact fld_c _ (fun j hj => by rw [Nat.zero_add]; exact hall j (by omega))
    | cons x l ih =>
      intro i hg hi hall
      have hi : i + (l.length + 1) = w.length := hi
      have ex : x = w.getD i 0 := hg 0 (Nat.zero_lt_succ _)
      have wx := hw i (by omega)
      have sx := let1 i (by omega)
      unfold g_X8_sayl
      rw [a3.2.1, show Int.toNat (((skp s N p : Nat) : Int) + (i : Int)) = skp s N p + i by omega, a2.2 _ (by omega)]
      refine ok_gk (by omega) (by omega) (ok_gI (by omega) (by omega) (by omega) (by omega) (fun g => ih (i + 1) (fun j hj => ?_) (by omega) (fun j hj => ?_)) (fun g => ok_some ?_))
      · have := hg (j + 1) (Nat.succ_lt_succ hj)
        rw [show i + 1 + j = i + (j + 1) by omega]; exact this
      · by_cases e : j = i
        · rw [e, g, ex]
        · exact hall j (by omega)
      · rw [decide_eq_false (show ¬ isV s N p v from fun q => g (by rw [(un q).2 i (by omega), Nat.zero_add, ex]))]; rfl
  exact key w 0 (fun j hj => by rw [Nat.zero_add]) (by omega) (fun j hj => by omega)
theorem s_personC (hB : Bdc s N k c) (h : CSt s N k p D c ζ ζ1) : g_X8_person ζ1 = some (if tK s N p = 1 ∧ 1 ≤ tV s N p ∧ tV s N p ≤ 8 then tV s N p - 1 else -1, ζ1) := by
  obtain ⟨a1, a2, a3, a4, a5, a6, a7⟩ := h
  have n1 := hB.1
  have b1 := skp_b (s := s) a7
  have b2 := tE_b (s := s) a7
  have kr := tK_r (s := s) (N := N) (p := p)
  apply ok_eq
  unfold g_X8_person g_X8_person_32 g_X8_person_58
  rw [a3.1, a3.2.1, a3.2.2, a2.1, show Int.toNat ((skp s N p : Nat) : Int) = skp s N p by omega]
  refine ok_gI (by omega) (by omega) (by omega) (by omega) (fun k1 => ?_) (fun k1 => ok_some (by rw [if_neg (fun q => k1 q.1)]))
  have eV : tV s N p = fld 37 96 s (skp s N p) (tE s N p - skp s N p) := by unfold tV; rw [if_pos k1]
  have let1 := tk1_l k1
  have nN : ¬ N ≤ skp s N p := (tK_c (Or.inl k1)).2.1
  refine ok_gI (by omega) (by omega) (by omega) (by omega) (fun el => ?_) (fun el => ok_some ?_)
  · rw [show tE s N p - skp s N p = 1 by omega] at eV let1
    have l0 := let1 0 (by omega)
    rw [Nat.add_zero] at l0
    have eV : tV s N p = 37 * 0 + (s (skp s N p + 0) - 96) := eV
    rw [Nat.add_zero] at eV
    rw [a2.2 _ (by omega)]
    refine ok_gI (by omega) (by omega) (by omega) (by omega) (fun _ => ok_gk (by omega) (by omega) (ok_gI (by omega) (by omega) (by omega) (by omega) (fun g => ok_some (by rw [if_neg (by omega)])) (fun g => ok_some (by rw [if_pos ⟨k1, by omega, by omega⟩, show tV s N p - 1 = s (skp s N p) - 97 by omega])))) (fun q => by omega)
  · rw [if_neg]
    intro q
    have := fld_u (v := fun _ => tV s N p + 96) (r := 0) _ 1 let1 (fun i hi => ⟨by show 97 ≤ tV s N p + 96; omega, by show tV s N p + 96 ≤ 122; omega⟩) (by rw [← eV]; show _ = 37 * 0 + (tV s N p + 96 - 96); omega)
    have := this.1
    omega
/-- a number is taken by the class, or not -/
def TC (s : Nat → Int) (N : Nat) (k : Int) (p : Nat) (D : Nat → Nat → Int) (c : Nat) (ζ : ZS) (f lo hi : Int) (r : Int × ZS) : Prop := (f = 0 ∧ r.1 = tV s N p ∧ lo ≤ tV s N p ∧ tV s N p ≤ hi ∧ tK s N p = 2 ∧ CSt s N k (tE s N p) D c ζ r.2) ∨ (f ≠ 0 ∧ r.1 = -1 ∧ FCt f c ζ r.2)
theorem s_takeNC (hB : Bdc s N k c) (h : CSt s N k p D c ζ ζ1) {lo hi o : Int} (hlo : r32 lo) (hhi : r32 hi) (ho : r32 o) : Ok (g_X6_takeNumber lo hi o ζ1) (TC s N k p D c ζ (if tK s N p = 2 ∧ lo ≤ tV s N p ∧ tV s N p ≤ hi ∧ tV s N p = o then 3 + 16 * (skp s N p : Int) else tnF s N lo hi p) lo hi) := by
  have h' := h
  obtain ⟨a1, a2, a3, a4, a5, a6, a7⟩ := h
  have kr := tK_r (s := s) (N := N) (p := p)
  unfold g_X6_takeNumber g_X6_takeNumber_49 g_X6_takeNumber_81
  rw [a5]
  refine ok_gI (by omega) (by omega) (by omega) (by omega) (fun _ => ok_beq (s_number hB h') ?_) (fun q => absurd rfl q)
  rw [a3.1]
  refine ok_gI (by omega) (by omega) (by omega) (by omega) (fun g => ?_) (fun g => ?_)
  · rw [if_pos g]
    have vr := tV_2 g
    have bad : (tV s N p < lo ∨ hi < tV s N p) → Ok ((g_X6_wrong 4 ζ1).bind fun q1 => some ((-1 : Int), q1)) (TC s N k p D c ζ (if tK s N p = 2 ∧ lo ≤ tV s N p ∧ tV s N p ≤ hi ∧ tV s N p = o then 3 + 16 * (skp s N p : Int) else tnF s N lo hi p) lo hi) := fun q => by
      have e : tnF s N lo hi p = 4 + 16 * (skp s N p : Int) := by unfold tnF; rw [if_neg (by omega), if_pos q]
      rw [if_neg (by omega), e]
      exact ok_bind (s_wrongC hB h' (by omega) (by omega)) (fun q hq => ok_some (Or.inr ⟨by omega, rfl, hq⟩))
    refine ok_gI (by omega) (by omega) (by omega) (by omega) (fun q => bad (Or.inl q)) (fun q1 => ok_gI (by omega) (by omega) (by omega) (by omega) (fun q2 => ok_gI (by omega) (by omega) (by omega) (by omega) (fun q3 => ?_) (fun q3 => ?_)) (fun q2 => bad (Or.inr (by omega))))
    · rw [if_pos ⟨g, by omega, q2, q3⟩]
      exact ok_bind (s_wrongC hB h' (by omega) (by omega)) (fun q hq => ok_some (Or.inr ⟨by omega, rfl, hq⟩))
    · rw [if_neg (fun q => q3 q.2.2.2)]
      refine ok_bind (cs_step hB h') (fun q hq => ok_some (Or.inl ⟨?_, rfl, by omega, q2, g, hq⟩))
      unfold tnF; rw [if_neg (by omega), if_neg (by omega)]
  · have e : tnF s N lo hi p = 1 + 16 * (skp s N p : Int) := by unfold tnF; rw [if_pos g]
    rw [if_neg (show ¬ (tK s N p = 2 ∧ lo ≤ tV s N p ∧ tV s N p ≤ hi ∧ tV s N p = o) from fun q => g q.1), e]
    exact ok_bind (s_wrongC hB h' (by omega) (by omega)) (fun q hq => ok_some (Or.inr ⟨by omega, rfl, hq⟩))
theorem s_tnC (hB : Bdc s N k c) (h : CSt s N k p D c ζ ζ1) {lo hi : Int} (hlo : r32 lo) (hhi : r32 hi) : Ok (g_X6_takeNumber lo hi (-1) ζ1) (TC s N k p D c ζ (tnF s N lo hi p) lo hi) := by
  have := s_takeNC hB h (o := -1) hlo hhi (by omega)
  rw [if_neg (fun q => by have := tV_2 q.1; omega)] at this
  exact this
theorem s_toC (hB : Bdc s N k c) (h : CSt s N k p D c ζ ζ1) {o hi : Int} (ho : 0 ≤ o) (ho2 : o ≤ hi) (hhi : r32 hi) : Ok (g_X6_takeNumber 0 hi o ζ1) (TC s N k p D c ζ (toF s N o hi p) 0 hi) := by
  have := s_takeNC hB h (o := o) (lo := 0) (by omega) hhi (by omega)
  have e : (if tK s N p = 2 ∧ 0 ≤ tV s N p ∧ tV s N p ≤ hi ∧ tV s N p = o then 3 + 16 * (skp s N p : Int) else tnF s N 0 hi p) = toF s N o hi p := by
    unfold toF
    by_cases q : tK s N p = 2 ∧ tV s N p = o
    · rw [if_pos q, if_pos ⟨q.1, by omega, by omega, q.2⟩]
    · rw [if_neg q, if_neg (fun g => q ⟨g.1, g.2.2.2⟩)]
  rw [e] at this
  exact this
theorem s_tnCF {v : Int} (h : FCt v c ζ ζ1) (lo hi o : Int) : g_X6_takeNumber lo hi o ζ1 = some (-1, ζ1) := by
  apply ok_eq
  obtain ⟨-, e8, h1, h2⟩ := h
  unfold g_X6_takeNumber
  rw [e8]
  exact ok_gI (by omega) (by omega) (by omega) (by omega) (fun q => by omega) (fun _ => ok_some rfl)
end
