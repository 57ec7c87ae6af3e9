/-! the reference reads: tokens, words, numbers -/
def wcd (j : Nat) : Int := [615403, 4160, 687961, 679695, 38660676, 989988, 22745289, 679747, 149099362, 1, 2, 3, 4, 5, 6, 7, 8].getD j 0
theorem wcd_r : ∀ j, j < 17 → 0 ≤ wcd j ∧ wcd j ≤ 149099362 := by decide
def Wrd (ζ : ZS) : Prop := ∀ j, j < 17 → ζ.2.1 5 j = wcd j
def Wpa (x y : Nat) : Prop := (x = 0 ∧ (y = 7 ∨ y = 8)) ∨ (6 ≤ x ∧ x ≤ 8 ∧ 4 ≤ y) ∨ (x = 9 ∧ y = 1) ∨ (10 ≤ x ∧ x ≤ 15 ∧ 12 ≤ y)
def DrR (D : Nat → Nat → Int) (ζ : ZS) : Prop := (∀ m, m < 4 → ζ.1 6 (4 + m) = D 6 m ∧ ζ.1 7 (4 + m) = D 7 m ∧ ζ.1 8 (4 + m) = D 8 m) ∧ ζ.1 9 1 = D 9 0 ∧ ∀ i : Nat, (i : Int) < D 9 0 → ζ.1 10 (12 + i) = D 10 i ∧ ζ.1 11 (12 + i) = D 11 i ∧ ζ.1 14 (12 + i) = D 14 i ∧ (D 11 i = 5 → ζ.1 12 (12 + i) = D 12 i ∧ ζ.1 13 (12 + i) = D 13 i) ∧ (D 11 i = 6 ∨ D 11 i = 7 → ζ.1 12 (12 + i) = D 12 i) ∧ (D 11 i ≠ 6 ∧ D 11 i ≠ 7 → ζ.1 15 (12 + i) = D 15 i)
theorem dr_same {D : Nat → Nat → Int} {ζ ζ' : ZS} (h : DrR D ζ) (e : ∀ x y : Nat, 6 ≤ x → (x = 9 ∨ y < 12 ∨ ((y : Int) - 12 < D 9 0)) → ζ'.1 x y = ζ.1 x y) : DrR D ζ' := by
  refine ⟨fun m hm => ?_, ?_, fun i hi => ?_⟩
  · rw [e 6 (4 + m) (by omega) (by omega), e 7 (4 + m) (by omega) (by omega), e 8 (4 + m) (by omega) (by omega)]; exact h.1 m hm
  · rw [e 9 1 (by omega) (by omega)]; exact h.2.1
  · rw [e 10 (12 + i) (by omega) (by omega), e 11 (12 + i) (by omega) (by omega), e 12 (12 + i) (by omega) (by omega), e 13 (12 + i) (by omega) (by omega), e 14 (12 + i) (by omega) (by omega), e 15 (12 + i) (by omega) (by omega)]; exact h.2.2 i hi
def Tb (s : Nat → Int) (N : Nat) (k : Int) (T : Nat) (ζ : ZS) : Prop := N ≤ 1000 ∧ T ≤ N ∧ (∀ i, i ≤ T → Ent s N ζ i) ∧ tK s N (pos s N T) = 0 ∧ (1 ≤ k ∧ k ≤ 4 ∧ ζ.1 0 20 = k) ∧ Wrd ζ
theorem tb_fx {s : Nat → Int} {N T : Nat} {k : Int} {ζ ζ' : ZS} (h : Tb s N k T ζ) (hf : Fx Wpa ζ ζ') : Tb s N k T ζ' := by
  refine ⟨h.1, h.2.1, fun i hi => ?_, h.2.2.2.1, ⟨h.2.2.2.2.1.1, h.2.2.2.2.1.2.1, ?_⟩, fun j hj => ?_⟩
  · unfold Ent
    rw [(hf.1 2 i (by unfold Wpa; omega)).1, (hf.1 3 i (by unfold Wpa; omega)).1, (hf.1 4 i (by unfold Wpa; omega)).2]
    exact h.2.2.1 i hi
  · rw [(hf.1 0 20 (by unfold Wpa; omega)).1]; exact h.2.2.2.2.1.2.2
  · rw [(hf.1 5 j (by unfold Wpa; omega)).2]; exact h.2.2.2.2.2 j hj
def RSt (s : Nat → Int) (N T p : Nat) (D : Nat → Nat → Int) (ζ ζ1 : ZS) : Prop := Fx Wpa ζ ζ1 ∧ ζ1.1 0 8 = 0 ∧ (∃ t : Nat, t ≤ T ∧ ζ1.1 0 7 = t ∧ pos s N t = p) ∧ DrR D ζ1
def FSt (v : Int) (ζ ζ1 : ZS) : Prop := Fx Wpa ζ ζ1 ∧ ζ1.1 0 8 = v ∧ 0 < v ∧ v < 20000
section
variable {s : Nat → Int} {N T p : Nat} {k : Int} {D : Nat → Nat → Int} {ζ ζ1 : ZS}
theorem rs_p (h : RSt s N T p D ζ ζ1) : p ≤ N := by obtain ⟨-, -, ⟨t, -, -, e⟩, -⟩ := h; rw [← e]; exact pos_b t
theorem rs_next (hT : Tb s N k T ζ) (h : RSt s N T p D ζ ζ1) (hk : tK s N p ≠ 0) : RSt s N T (tE s N p) D ζ (zI ζ1 0 7 (ζ1.1 0 7 + 1)) := by
  obtain ⟨h1, h2, ⟨t, h3, h4, h5⟩, h6⟩ := h
  refine ⟨fx_I h1 (by unfold Wpa; omega), by rw [zI_1, if_neg (by omega)]; exact h2, ⟨t + 1, ?_, by rw [zI_1, if_pos ⟨rfl, rfl⟩, h4]; omega, by rw [← h5]; rfl⟩, dr_same h6 (fun x y g _ => by rw [zI_1, if_neg (by omega)])⟩
  by_cases c : t = T
  · rw [← h5, c] at hk; exact absurd hT.2.2.2.1 hk
  · omega
theorem s_wrong (hT : Tb s N k T ζ) (h : RSt s N T p D ζ ζ1) {c : Int} (h1 : 1 ≤ c) (h2 : c ≤ 5) : Ok (g_X12_wrong c ζ1) (FSt (c + 16 * (skp s N p : Int)) ζ) := by
  have hT1 := tb_fx hT h.1
  obtain ⟨f, e8, ⟨t, ht, e7, ep⟩, -⟩ := h
  have b := (skp_b (s := s) (pos_b (s := s) (N := N) t)).2
  have en := (hT1.2.2.1 t ht).2.1
  have n1 := hT.1
  have n2 := hT.2.1
  unfold g_X12_wrong g_X12_wrong_25
  rw [e8, e7, show Int.toNat (t : Int) = t by omega, en, ← ep]
  exact ok_gI (by omega) (by omega) (by omega) (by omega) (fun _ => ok_gk (by omega) (by omega) (ok_some ⟨fx_I f (by unfold Wpa; omega), by rw [zI_1, if_pos ⟨rfl, rfl⟩], by omega, by omega⟩)) (fun q => absurd rfl q)
theorem s_wrongF {v : Int} (h : FSt v ζ ζ1) (c : Int) : g_X12_wrong c ζ1 = some ζ1 := by
  apply ok_eq
  obtain ⟨-, e8, h1, h2⟩ := h
  unfold g_X12_wrong g_X12_wrong_25
  rw [e8]
  exact ok_gI (by omega) (by omega) (by omega) (by omega) (fun q => by omega) (fun _ => ok_some rfl)
theorem s_isWord (hT : Tb s N k T ζ) (h : RSt s N T p D ζ ζ1) {z : Int} {j : Nat} (hz : z = j) (hj : j < 17) : g_X12_isWord z ζ1 = some (bi (decide (isV s N p (wcd j))), ζ1) := by
  subst hz
  have hT1 := tb_fx hT h.1
  obtain ⟨f, e8, ⟨t, ht, e7, ep⟩, -⟩ := h
  have en := hT1.2.2.1 t ht
  have n1 := hT.1
  have n2 := hT.2.1
  have kr := tK_r (s := s) (N := N) (p := p)
  have wr := wcd_r j hj
  unfold Ent at en
  rw [ep] at en
  apply ok_eq
  unfold g_X12_isWord g_X12_isWord_43 g_X12_isWord_44
  rw [e8, e7, show Int.toNat (t : Int) = t by omega, show Int.toNat (j : Int) = j by omega, en.1, hT1.2.2.2.2.2 j hj]
  refine ok_gI (by omega) (by omega) (by omega) (by omega) (fun _ => ok_gk (by omega) (by omega) (ok_gI (by omega) (by omega) (by omega) (by omega) (fun g => ok_gk (by omega) (by omega) (ok_gk (by omega) (by omega) ?_)) (fun g => ?_))) (fun q => absurd rfl q)
  · have vr := tV_1 g
    rw [en.2.2 (by omega) (by omega)]
    refine ok_gJ (by omega) (by omega) (by omega) (by omega) (fun q => ok_gz (Or.inr rfl) (ok_some ?_)) (fun q => ok_gz (Or.inl rfl) (ok_some ?_))
    · rw [decide_eq_true (show isV s N p (wcd j) from ⟨g, q⟩)]; rfl
    · rw [decide_eq_false (show ¬ isV s N p (wcd j) from fun c => q c.2)]; rfl
  · refine ok_gz (Or.inl rfl) (ok_some ?_)
    rw [decide_eq_false (show ¬ isV s N p (wcd j) from fun c => g c.1)]; rfl
theorem s_isWordF {v : Int} (h : FSt v ζ ζ1) (z : Int) : g_X12_isWord z ζ1 = some (0, ζ1) := by
  apply ok_eq
  obtain ⟨-, e8, h1, h2⟩ := h
  unfold g_X12_isWord g_X12_isWord_43 g_X12_isWord_44
  rw [e8]
  exact ok_gI (by omega) (by omega) (by omega) (by omega) (fun q => by omega) (fun _ => ok_gz (Or.inl rfl) (ok_some rfl))
theorem s_takeSign (hT : Tb s N k T ζ) (h : RSt s N T p D ζ ζ1) : Ok (g_X12_takeSign 59 ζ1) (fun ζ' => (tK s N p = 3 ∧ RSt s N T (tE s N p) D ζ ζ') ∨ (tK s N p ≠ 3 ∧ FSt (1 + 16 * (skp s N p : Int)) ζ ζ')) := by
  have hT1 := tb_fx hT h.1
  have h' := h
  obtain ⟨f, e8, ⟨t, ht, e7, ep⟩, -⟩ := h
  have en := hT1.2.2.1 t ht
  have n1 := hT.1
  have n2 := hT.2.1
  have kr := tK_r (s := s) (N := N) (p := p)
  unfold Ent at en
  rw [ep] at en
  have is : g_X12_isSign 59 ζ1 = some (bi (decide (tK s N p = 3)), ζ1) := by
    apply ok_eq
    unfold g_X12_isSign g_X12_isSign_39 g_X12_isSign_40
    rw [e8, e7, show Int.toNat (t : Int) = t by omega, en.1]
    refine ok_gI (by omega) (by omega) (by omega) (by omega) (fun _ => ok_gk (by omega) (by omega) (ok_gI (by omega) (by omega) (by omega) (by omega) (fun g => ok_gk (by omega) (by omega) (ok_gw (by omega) (by omega) ?_)) (fun g => ?_))) (fun q => absurd rfl q)
    · rw [en.2.2 (by omega) (by omega), tV_3 g]
      refine ok_gJ (by omega) (by omega) (by omega) (by omega) (fun q => ok_gz (Or.inr rfl) (ok_some ?_)) (fun q => absurd rfl q)
      rw [decide_eq_true g]; rfl
    · refine ok_gz (Or.inl rfl) (ok_some ?_)
      rw [decide_eq_false g]; rfl
  unfold g_X12_takeSign g_X12_takeSign_26
  refine ok_beq is (ok_bi (fun e => ?_) (fun e => ?_))
  · exact ok_bind (s_wrong hT h' (by omega) (by omega)) (fun q hq => ok_some (Or.inr ⟨of_decide_eq_false e, hq⟩))
  · have g := of_decide_eq_true e
    exact ok_some (Or.inl ⟨g, rs_next hT h' (by omega)⟩)
theorem s_takeSignF {v : Int} (h : FSt v ζ ζ1) : g_X12_takeSign 59 ζ1 = some ζ1 := by
  apply ok_eq
  have h' := h
  obtain ⟨-, e8, h1, h2⟩ := h
  have is : g_X12_isSign 59 ζ1 = some (0, ζ1) := by
    apply ok_eq
    unfold g_X12_isSign g_X12_isSign_39 g_X12_isSign_40
    rw [e8]
    exact ok_gI (by omega) (by omega) (by omega) (by omega) (fun q => by omega) (fun _ => ok_gz (Or.inl rfl) (ok_some rfl))
  unfold g_X12_takeSign g_X12_takeSign_26
  exact ok_beq is (ok_gI (by omega) (by omega) (by omega) (by omega) (fun _ => ok_beq (s_wrongF h' 1) (ok_some rfl)) (fun q => absurd rfl q))
/-- a number is taken, or not -/
def TN (s : Nat → Int) (N T p : Nat) (D : Nat → Nat → Int) (ζ ζ1 : ZS) (f lo hi : Int) (r : Int × ZS) : Prop := (f = 0 ∧ r.1 = tV s N p ∧ lo ≤ tV s N p ∧ tV s N p ≤ hi ∧ tK s N p = 2 ∧ RSt s N T (tE s N p) D ζ r.2 ∧ ∀ x y, x ≠ 0 → r.2.1 x y = ζ1.1 x y) ∨ (f ≠ 0 ∧ r.1 = 0 ∧ FSt f ζ r.2)
theorem s_takeNumberF {v : Int} (h : FSt v ζ ζ1) (lo hi : Int) : g_X12_takeNumber lo hi ζ1 = some (0, ζ1) := by
  apply ok_eq
  obtain ⟨-, e8, h1, h2⟩ := h
  unfold g_X12_takeNumber g_X12_takeNumber_28 g_X12_takeNumber_70
  rw [e8]
  exact ok_gI (by omega) (by omega) (by omega) (by omega) (fun q => by omega) (fun _ => ok_gI (by omega) (by omega) (by omega) (by omega) (fun q => by omega) (fun _ => ok_gI (by omega) (by omega) (by omega) (by omega) (fun q => by omega) (fun _ => ok_some rfl)))
theorem s_takeNumber (hT : Tb s N k T ζ) (h : RSt s N T p D ζ ζ1) {lo hi : Int} (hlo : r32 lo) (hhi : r32 hi) : Ok (g_X12_takeNumber lo hi ζ1) (TN s N T p D ζ ζ1 (tnF s N lo hi p) lo hi) := by
  have hT1 := tb_fx hT h.1
  have h' := h
  obtain ⟨f, e8, ⟨t, ht, e7, ep⟩, -⟩ := h
  have en := hT1.2.2.1 t ht
  have n1 := hT.1
  have n2 := hT.2.1
  have kr := tK_r (s := s) (N := N) (p := p)
  unfold Ent at en
  rw [ep] at en
  have et : Int.toNat (t : Int) = t := by omega
  have back : ∀ {v : Int} {ζ2 : ZS}, FSt v ζ ζ2 → g_X12_takeNumber_70 ζ2 = some (0, ζ2) := fun {v ζ2} q => by
    apply ok_eq
    obtain ⟨-, e8, h1, h2⟩ := q
    unfold g_X12_takeNumber_70
    rw [e8]
    exact ok_gI (by omega) (by omega) (by omega) (by omega) (fun q => by omega) (fun _ => ok_some rfl)
  unfold g_X12_takeNumber
  rw [e8, e7, et, en.1]
  refine ok_gI (by omega) (by omega) (by omega) (by omega) (fun _ => ok_gk (by omega) (by omega) (ok_gI (by omega) (by omega) (by omega) (by omega) (fun g => ?_) (fun g => ?_))) (fun q => absurd rfl q)
  · have vr := tV_2 g
    have ev := en.2.2 (by omega) (by omega)
    have bad : (tV s N p < lo ∨ hi < tV s N p) → Ok (g_X12_takeNumber_65 ζ1) (TN s N T p D ζ ζ1 (tnF s N lo hi p) lo hi) := fun q => by
      have e : tnF s N lo hi p = 4 + 16 * (skp s N p : Int) := by unfold tnF; rw [if_neg (by omega), if_pos q]
      unfold g_X12_takeNumber_65
      refine ok_bind (s_wrong hT h' (by omega) (by omega)) (fun q hq => ⟨_, back hq, Or.inr ⟨by rw [e]; omega, rfl, by rw [e]; exact hq⟩⟩)
    unfold g_X12_takeNumber_28
    rw [e8, e7, et, ev]
    refine ok_gI (by omega) (by omega) (by omega) (by omega) (fun _ => ok_gk (by omega) (by omega) (ok_gw hlo.1 hlo.2 (ok_gJ (by omega) (by omega) (by omega) (by omega) (fun q => bad (Or.inl q)) (fun q1 => ok_gk (by omega) (by omega) (ok_gw hhi.1 hhi.2 (ok_gJ (by omega) (by omega) (by omega) (by omega) (fun q2 => ?_) (fun q2 => bad (Or.inr (by omega))))))))) (fun q => absurd rfl q)
    have rn := rs_next hT h' (show tK s N p ≠ 0 by omega)
    unfold g_X12_takeNumber_70
    have e7' : (zI ζ1 0 7 (ζ1.1 0 7 + 1)).1 0 7 = (t : Int) + 1 := by rw [zI_1, if_pos ⟨rfl, rfl⟩, e7]
    rw [e7', e8, show Int.toNat ((t : Int) + 1 - 1) = t by omega]
    refine ok_gI (by omega) (by omega) (by omega) (by omega) (fun _ => ok_gk (by omega) (by omega) (ok_some (Or.inl ⟨?_, ?_, by omega, q2, g, rn, fun x y c => by rw [zI_1, if_neg (by omega)]⟩))) (fun q => by omega)
    · unfold tnF; rw [if_neg (by omega), if_neg (by omega)]
    · exact ev
  · have e : tnF s N lo hi p = 1 + 16 * (skp s N p : Int) := by unfold tnF; rw [if_pos g]
    exact ok_bind (s_wrong hT h' (by omega) (by omega)) (fun q hq => ⟨_, back hq, Or.inr ⟨by rw [e]; omega, rfl, by rw [e]; exact hq⟩⟩)
theorem s_takeOther (hT : Tb s N k T ζ) (h : RSt s N T p D ζ ζ1) {o hi : Int} (ho : r32 o) (hhi : r32 hi) : Ok (g_X12_takeOther o hi ζ1) (fun r => TN s N T p D ζ ζ1 (toF s N o hi p) 0 hi r ∧ (toF s N o hi p = 0 → tV s N p ≠ o)) := by
  have hT1 := tb_fx hT h.1
  have h' := h
  obtain ⟨f, e8, ⟨t, ht, e7, ep⟩, -⟩ := h
  have en := hT1.2.2.1 t ht
  have n1 := hT.1
  have n2 := hT.2.1
  have kr := tK_r (s := s) (N := N) (p := p)
  unfold Ent at en
  rw [ep] at en
  have et : Int.toNat (t : Int) = t := by omega
  have no : ¬ (tK s N p = 2 ∧ tV s N p = o) → Ok (g_X12_takeOther_40 hi ζ1) (fun r => TN s N T p D ζ ζ1 (toF s N o hi p) 0 hi r ∧ (toF s N o hi p = 0 → tV s N p ≠ o)) := fun q => by
    have e : toF s N o hi p = tnF s N 0 hi p := by unfold toF; rw [if_neg q]
    unfold g_X12_takeOther_40
    rw [e]
    refine ok_bind (s_takeNumber hT h' (by omega) hhi) (fun r hr => ok_some ⟨hr, fun g c => ?_⟩)
    rcases hr with ⟨-, -, -, -, k2, -⟩ | ⟨c2, -⟩
    · exact q ⟨k2, c⟩
    · exact c2 g
  unfold g_X12_takeOther
  rw [e8, e7, et, en.1]
  refine ok_gI (by omega) (by omega) (by omega) (by omega) (fun _ => ok_gk (by omega) (by omega) (ok_gI (by omega) (by omega) (by omega) (by omega) (fun g => ?_) (fun g => no (fun c => g c.1)))) (fun q => absurd rfl q)
  have vr := tV_2 g
  rw [en.2.2 (by omega) (by omega)]
  refine ok_gk (by omega) (by omega) (ok_gw ho.1 ho.2 (ok_gJ (by omega) (by omega) (by omega) (by omega) (fun q => ?_) (fun q => no (fun c => q c.2))))
  have e : toF s N o hi p = 3 + 16 * (skp s N p : Int) := by unfold toF; rw [if_pos ⟨g, q⟩]
  refine ok_bind (s_wrong hT h' (by omega) (by omega)) (fun q hq => ?_)
  unfold g_X12_takeOther_40
  exact ok_beq (s_takeNumberF hq 0 hi) (ok_some ⟨Or.inr ⟨by rw [e]; omega, rfl, by rw [e]; exact hq⟩, fun c => by omega⟩)
theorem s_takeOtherF {v : Int} (h : FSt v ζ ζ1) (o hi : Int) : g_X12_takeOther o hi ζ1 = some (0, ζ1) := by
  apply ok_eq
  have h' := h
  obtain ⟨-, e8, h1, h2⟩ := h
  unfold g_X12_takeOther g_X12_takeOther_40
  rw [e8]
  exact ok_gI (by omega) (by omega) (by omega) (by omega) (fun q => by omega) (fun _ => ok_beq (s_takeNumberF h' 0 hi) (ok_some rfl))
end
