/-! the reference reads: measures and sayings -/
theorem zI_id {ζ : ZS} {c y : Nat} {v : Int} (h : ζ.1 c y = v) : zI ζ c y v = ζ := by
  have e : (zI ζ c y v).1 = ζ.1 := by
    funext a b
    rw [zI_1]
    split
    case isTrue q => rw [q.1, q.2, h]
    case isFalse => rfl
  exact Prod.ext e rfl
def Dok (k : Int) (D : Nat → Nat → Int) : Prop := (∀ m, m < 4 → (D 6 m = 0 ∨ D 6 m = 1) ∧ (-1 ≤ D 7 m ∧ D 7 m ≤ 100) ∧ (-1 ≤ D 8 m ∧ D 8 m ≤ 100) ∧ (k ≤ m → D 6 m = 0 ∧ D 7 m = -1 ∧ D 8 m = -1)) ∧ (0 ≤ D 9 0 ∧ D 9 0 ≤ 12) ∧ ∀ i : Nat, (i : Int) < D 9 0 → (0 ≤ D 10 i ∧ D 10 i ≤ 7) ∧ (3 ≤ D 11 i ∧ D 11 i ≤ 8) ∧ (0 ≤ D 14 i ∧ D 14 i ≤ 7) ∧ (D 11 i = 6 ∨ D 11 i = 7 → 0 ≤ D 12 i ∧ D 12 i ≤ 100) ∧ (D 11 i = 5 → 1 ≤ D 12 i ∧ D 12 i ≤ 100 ∧ 1 ≤ D 13 i ∧ D 13 i ≤ 100) ∧ (D 11 i ≠ 6 ∧ D 11 i ≠ 7 → 0 ≤ D 15 i ∧ D 15 i ≤ 7 ∧ D 14 i ≠ D 15 i) ∧ (D 11 i ≠ 8 → D 14 i < k ∧ (D 11 i ≠ 6 ∧ D 11 i ≠ 7 → D 15 i < k))
/-- the state behind a piece that was read -/
def Ren (s : Nat → Int) (N T : Nat) (R : Rz) (ζ ζ' : ZS) : Prop := (R.1 = 0 ∧ RSt s N T R.2.1 R.2.2 ζ ζ') ∨ (R.1 ≠ 0 ∧ FSt R.1 ζ ζ')
section
variable {s : Nat → Int} {N T p : Nat} {k : Int} {D : Nat → Nat → Int} {ζ ζ1 : ZS}
theorem fs_put {v : Int} (h : FSt v ζ ζ1) {x y : Nat} (w : Int) (hp : Wpa x y) (h8 : ¬ (x = 0 ∧ y = 8)) : FSt v ζ (zI ζ1 x y w) := ⟨fx_I h.1 hp, by rw [zI_1, if_neg (by omega)]; exact h.2.1, h.2.2⟩
theorem dr_upM {c m : Nat} {v : Int} (h : DrR D ζ1) (hc : 6 ≤ c) (hc2 : c ≤ 8) (hm : m < 4) : DrR (up D c m v) (zI ζ1 c (4 + m) v) := by
  refine ⟨fun j hj => ?_, ?_, fun i hi => ?_⟩
  · have q := h.1 j hj
    simp only [up_e, zI_1, show (4 + j = 4 + m) = (j = m) from propext (by omega)]
    refine ⟨?_, ?_, ?_⟩
    · split
      · rfl
      · exact q.1
    · split
      · rfl
      · exact q.2.1
    · split
      · rfl
      · exact q.2.2
  · rw [zI_1, if_neg (by omega), up_e, if_neg (by omega)]; exact h.2.1
  · rw [up_e, if_neg (by omega)] at hi
    simp only [up_e, zI_1, if_neg (show ¬ (10 = c ∧ i = m) by omega), if_neg (show ¬ (11 = c ∧ i = m) by omega), if_neg (show ¬ (12 = c ∧ i = m) by omega), if_neg (show ¬ (13 = c ∧ i = m) by omega), if_neg (show ¬ (14 = c ∧ i = m) by omega), if_neg (show ¬ (15 = c ∧ i = m) by omega), if_neg (show ¬ (10 = c ∧ 12 + i = 4 + m) by omega), if_neg (show ¬ (11 = c ∧ 12 + i = 4 + m) by omega), if_neg (show ¬ (12 = c ∧ 12 + i = 4 + m) by omega), if_neg (show ¬ (13 = c ∧ 12 + i = 4 + m) by omega), if_neg (show ¬ (14 = c ∧ 12 + i = 4 + m) by omega), if_neg (show ¬ (15 = c ∧ 12 + i = 4 + m) by omega)]
    exact h.2.2 i hi
theorem rs_upM {c m : Nat} {v : Int} (h : RSt s N T p D ζ ζ1) (hc : 6 ≤ c) (hc2 : c ≤ 8) (hm : m < 4) : RSt s N T p (up D c m v) ζ (zI ζ1 c (4 + m) v) := by
  obtain ⟨h1, h2, ⟨t, h3, h4, h5⟩, h6⟩ := h
  exact ⟨fx_I h1 (by unfold Wpa; omega), by rw [zI_1, if_neg (by omega)]; exact h2, ⟨t, h3, by rw [zI_1, if_neg (by omega)]; exact h4, h5⟩, dr_upM h6 hc hc2 hm⟩
theorem s_rm156 (hD : Dok k D) (h : RSt s N T p D ζ ζ1) {j m : Nat} {z2 v : Int} (hj : j < 3) (hm : m < 4) (hz : z2 = 4 + (m : Int)) (hv : r32 v) : Ok (g_X12_readMeasure_156 j z2 v ζ1) (RSt s N T p (up D (6 + j) m (if j = 0 then 1 else v)) ζ) := by
  subst hz
  have e8 := h.2.1
  have q := h.2.2.2.1 m hm
  have d6 := (hD.1 m hm).1
  have em : Int.toNat (4 + (m : Int)) = 4 + m := by omega
  have l6 : ln 6 = 8 := rfl
  have l7 : ln 7 = 8 := rfl
  have l8 : ln 8 = 8 := rfl
  unfold g_X12_readMeasure_156 g_X12_readMeasure_182 g_X12_readMeasure_187 g_X12_readMeasure_208 g_X12_readMeasure_229 g_X12_readMeasure_230
  rw [e8, em, l6, l7, l8, q.1]
  refine ok_gI (by omega) (by omega) (by omega) (by omega) (fun _ => ?_) (fun c => absurd rfl c)
  have fin : ∀ (ζ2 : ZS), RSt s N T p (up D (6 + j) m (if j = 0 then 1 else v)) ζ ζ2 → Ok (some ζ2) (RSt s N T p (up D (6 + j) m (if j = 0 then 1 else v)) ζ) := fun ζ2 g => ok_some g
  have last : ∀ b : Int, (j ≠ 0 → b = D 6 m) → (j = 0 → b = 1) → zand b 1 = b → Ok (gk (4 + (m : Int)) 8 (gI (j : Int) 1 ((j : Int) = 1) (gk (4 + (m : Int)) 8 (gI (j : Int) 2 ((j : Int) = 2) (gk (4 + (m : Int)) 8 (some (zI (zI (zI ζ1 6 (4 + m) (zand b 1)) 7 (4 + m) v) 8 (4 + m) v))) (gk (4 + (m : Int)) 8 (gk (4 + (m : Int)) 8 (some (zI (zI (zI ζ1 6 (4 + m) (zand b 1)) 7 (4 + m) v) 8 (4 + m) ((zI (zI ζ1 6 (4 + m) (zand b 1)) 7 (4 + m) v).1 8 (4 + m)))))))) (gk (4 + (m : Int)) 8 (gk (4 + (m : Int)) 8 (gI (j : Int) 2 ((j : Int) = 2) (gk (4 + (m : Int)) 8 (some (zI (zI (zI ζ1 6 (4 + m) (zand b 1)) 7 (4 + m) ((zI ζ1 6 (4 + m) (zand b 1)).1 7 (4 + m))) 8 (4 + m) v))) (gk (4 + (m : Int)) 8 (gk (4 + (m : Int)) 8 (some (zI (zI (zI ζ1 6 (4 + m) (zand b 1)) 7 (4 + m) ((zI ζ1 6 (4 + m) (zand b 1)).1 7 (4 + m))) 8 (4 + m) ((zI (zI ζ1 6 (4 + m) (zand b 1)) 7 (4 + m) ((zI ζ1 6 (4 + m) (zand b 1)).1 7 (4 + m))).1 8 (4 + m))))))))))) (RSt s N T p (up D (6 + j) m (if j = 0 then 1 else v)) ζ) := fun b hb hb0 hz => by
    rw [hz]
    refine ok_gk (by omega) (by omega) (ok_gI (by omega) (by omega) (by omega) (by omega) (fun c => ok_gk (by omega) (by omega) (ok_gI (by omega) (by omega) (by omega) (by omega) (fun c2 => by omega) (fun c2 => ok_gk (by omega) (by omega) (ok_gk (by omega) (by omega) (fin _ ?_))))) (fun c => ok_gk (by omega) (by omega) (ok_gk (by omega) (by omega) (ok_gI (by omega) (by omega) (by omega) (by omega) (fun c2 => ok_gk (by omega) (by omega) (fin _ ?_)) (fun c2 => ok_gk (by omega) (by omega) (ok_gk (by omega) (by omega) (fin _ ?_)))))))
    · have ej : j = 1 := by omega
      subst ej
      rw [zI_id (ζ := ζ1) (c := 6) (v := b) (by rw [q.1, hb (by omega)]), zI_id rfl]
      exact rs_upM h (by omega) (by omega) hm
    · have ej : j = 2 := by omega
      subst ej
      rw [zI_id (ζ := ζ1) (c := 6) (v := b) (by rw [q.1, hb (by omega)]), zI_id rfl]
      exact rs_upM h (by omega) (by omega) hm
    · have ej : j = 0 := by omega
      subst ej
      rw [zI_id rfl, zI_id rfl, hb0 rfl]
      exact rs_upM h (by omega) (by omega) hm
  refine ok_gI (by omega) (by omega) (by omega) (by omega) (fun c => last 1 (fun g => by omega) (fun _ => rfl) zand11) (fun c => ok_gk (by omega) (by omega) (ok_gI (by omega) (by omega) (by omega) (by omega) (fun g => last 0 (fun _ => g.symm) (fun g => by omega) zand01) (fun g => last 1 (fun _ => by omega) (fun g => by omega) zand11)))
theorem s_rm127F {v : Int} (h : FSt v ζ ζ1) (j : Nat) (hj : j < 3) : Ok (g_X12_readMeasure_127 j ζ1) (FSt v ζ) := by
  have h' := h
  obtain ⟨-, e8, h1, h2⟩ := h
  have fin : ∀ z2 w : Int, Ok (g_X12_readMeasure_156 j z2 w ζ1) (FSt v ζ) := fun z2 w => by
    unfold g_X12_readMeasure_156 g_X12_readMeasure_230
    rw [e8]
    exact ok_gI (by omega) (by omega) (by omega) (by omega) (fun c => by omega) (fun _ => ok_some h')
  unfold g_X12_readMeasure_127
  exact ok_beq (s_takeNumberF h' _ _) (ok_gI (by omega) (by omega) (by omega) (by omega) (fun _ => fin _ _) (fun _ => ok_beq (s_takeNumberF h' _ _) (fin _ _)))
theorem s_rm127 (hT : Tb s N k T ζ) (hD : Dok k D) (h : RSt s N T p D ζ ζ1) {j : Nat} (hj : j < 3) (hno : ¬ (tK s N p = 2 ∧ tV s N p < k ∧ (if j = 0 then D 6 (tV s N p).toNat ≠ 0 else 0 ≤ D (6 + j) (tV s N p).toNat))) : Ok (g_X12_readMeasure_127 j ζ1) (Ren s N T (spM s N k j p D) ζ) := by
  have hT1 := tb_fx hT h.1
  obtain ⟨k1, k2, k3⟩ := hT1.2.2.2.2.1
  unfold g_X12_readMeasure_127
  rw [k3]
  unfold spM
  rw [if_neg hno]
  refine ok_bind (s_takeNumber hT h (by omega) (by omega)) (fun r hr => ?_)
  have finF : ∀ {v z2 w : Int} {ζ2 : ZS}, FSt v ζ ζ2 → Ok (g_X12_readMeasure_156 j z2 w ζ2) (FSt v ζ) := fun {v z2 w ζ2} g => by
    have g' := g
    obtain ⟨-, e8, h1, h2⟩ := g
    unfold g_X12_readMeasure_156 g_X12_readMeasure_230
    rw [e8]
    exact ok_gI (by omega) (by omega) (by omega) (by omega) (fun c => by omega) (fun _ => ok_some g')
  rcases hr with ⟨f0, r1, r2, r3, r4, r5, r6⟩ | ⟨f0, r1, r2⟩
  · rw [if_neg (by omega)]
    refine ok_gI (by omega) (by omega) (by omega) (by omega) (fun c => ?_) (fun c => ?_)
    · have ej : j = 0 := by omega
      subst ej
      rw [if_pos rfl]
      exact ok_mono (s_rm156 (j := 0) (m := (tV s N p).toNat) hD r5 (by omega) (by omega) (by omega) (by omega)) (fun ζ' g => Or.inl ⟨rfl, g⟩)
    · rw [if_neg (by omega)]
      refine ok_bind (s_takeNumber hT r5 (by omega) (by omega)) (fun r' hr' => ?_)
      rcases hr' with ⟨g0, g1, g2, g3, g4, g5, g6⟩ | ⟨g0, g1, g2⟩
      · rw [if_neg (by omega)]
        refine ok_mono (s_rm156 (j := j) (m := (tV s N p).toNat) (v := r'.1) hD g5 (by omega) (by omega) (by omega) (by omega)) (fun ζ' g => Or.inl ⟨rfl, ?_⟩)
        rw [if_neg (by omega), g1] at g
        exact g
      · rw [if_pos g0]
        exact ok_mono (finF g2) (fun ζ' g => Or.inr ⟨g0, g⟩)
  · rw [if_pos f0]
    refine ok_gI (by omega) (by omega) (by omega) (by omega) (fun c => ok_mono (finF r2) (fun ζ' g => Or.inr ⟨f0, g⟩)) (fun c => ok_beq (s_takeNumberF r2 _ _) (ok_mono (finF r2) (fun ζ' g => Or.inr ⟨f0, g⟩)))
theorem s_rm25 (hT : Tb s N k T ζ) (hD : Dok k D) (h : RSt s N T p D ζ ζ1) {j : Nat} (hj : j < 3) (hw : tK s N p ≠ 0) : Ok (g_X12_readMeasure_25 j ζ1) (Ren s N T (spM s N k j (tE s N p) D) ζ) := by
  have rn := rs_next hT h hw
  unfold g_X12_readMeasure_25
  generalize zI ζ1 0 7 (ζ1.1 0 7 + 1) = ζ2 at rn ⊢
  generalize tE s N p = p2 at rn ⊢
  have hT2 := tb_fx hT rn.1
  obtain ⟨k1, k2, k3⟩ := hT2.2.2.2.2.1
  have go := s_rm127 (j := j) hT hD rn hj
  obtain ⟨f, e8, ⟨t, ht, e7, ep⟩, dr⟩ := id rn
  have en := hT2.2.2.1 t ht
  have n1 := hT.1
  have n2 := hT.2.1
  have kr := tK_r (s := s) (N := N) (p := p2)
  unfold Ent at en
  rw [ep] at en
  rw [e7, k3, show Int.toNat (t : Int) = t by omega, en.1]
  refine ok_gk (by omega) (by omega) (ok_gI (by omega) (by omega) (by omega) (by omega) (fun g => ok_gk (by omega) (by omega) ?_) (fun g => go (fun c => g c.1)))
  have vr := tV_2 g
  rw [en.2.2 (by omega) (by omega)]
  refine ok_gw (by omega) (by omega) (ok_gJ (by omega) (by omega) (by omega) (by omega) (fun c => go (fun q => by omega)) (fun c => ok_gk (by omega) (by omega) ?_))
  have dm := dr.1 (tV s N p2).toNat (by omega)
  have dk := hD.1 (tV s N p2).toNat (by omega)
  rw [show Int.toNat (4 + tV s N p2) = 4 + (tV s N p2).toNat by omega, dm.1, dm.2.1, dm.2.2]
  have again : (tK s N p2 = 2 ∧ tV s N p2 < k ∧ (if j = 0 then D 6 (tV s N p2).toNat ≠ 0 else 0 ≤ D (6 + j) (tV s N p2).toNat)) → Ok (g_X12_readMeasure_122 j ζ2) (Ren s N T (spM s N k j p2 D) ζ) := fun q => by
    unfold g_X12_readMeasure_122 spM
    rw [if_pos q]
    exact ok_bind (s_wrong hT rn (by omega) (by omega)) (fun ζ3 h3 => ok_mono (s_rm127F h3 j hj) (fun ζ4 h4 => Or.inr ⟨show 3 + 16 * (skp s N p2 : Int) ≠ 0 by omega, h4⟩))
  refine ok_gI (by omega) (by omega) (by omega) (by omega) (fun c1 => ok_gk (by omega) (by omega) (ok_gI (by omega) (by omega) (by omega) (by omega) (fun c2 => go (fun q => ?_)) (fun c2 => again ⟨g, by omega, ?_⟩))) (fun c1 => ok_gI (by omega) (by omega) (by omega) (by omega) (fun c3 => ok_gk (by omega) (by omega) (ok_gI (by omega) (by omega) (by omega) (by omega) (fun c2 => go (fun q => ?_)) (fun c2 => again ⟨g, by omega, ?_⟩))) (fun c3 => ok_gk (by omega) (by omega) (ok_gI (by omega) (by omega) (by omega) (by omega) (fun c2 => go (fun q => ?_)) (fun c2 => again ⟨g, by omega, ?_⟩))))
  · have q := q.2.2; rw [if_pos (by omega)] at q; exact q c2
  · rw [if_pos (by omega)]; exact c2
  · have ej : j = 1 := by omega
    subst ej
    have q := q.2.2; rw [if_neg (by omega)] at q
    have q : 0 ≤ D 7 (tV s N p2).toNat := q
    omega
  · have ej : j = 1 := by omega
    subst ej
    rw [if_neg (by omega)]
    show 0 ≤ D 7 (tV s N p2).toNat
    omega
  · have ej : j = 2 := by omega
    subst ej
    have q := q.2.2; rw [if_neg (by omega)] at q
    have q : 0 ≤ D 8 (tV s N p2).toNat := q
    omega
  · have ej : j = 2 := by omega
    subst ej
    rw [if_neg (by omega)]
    show 0 ≤ D 8 (tV s N p2).toNat
    omega
theorem s_person (hT : Tb s N k T ζ) (h : RSt s N T p D ζ ζ1) : g_X12_personHere ζ1 = some (if tK s N p = 1 ∧ 1 ≤ tV s N p ∧ tV s N p ≤ 8 then tV s N p - 1 else -1, ζ1) := by
  have key : ∀ (n : Nat) (z1 z2 : Int) (j : Nat), z2 = j → j ≤ 8 → 8 - j < n → z1 = (if tK s N p = 1 ∧ 1 ≤ tV s N p ∧ tV s N p ≤ j then tV s N p - 1 else -1) → Ok (g_X12_personHere_4 n z1 z2 ζ1) (fun r => r = (if tK s N p = 1 ∧ 1 ≤ tV s N p ∧ tV s N p ≤ 8 then tV s N p - 1 else -1, ζ1)) := by
    intro n
    induction n with
    | zero => intro _ _ _ _ _ h; omega
    | succ n ih =>
      intro z1 z2 j hz hj hn hv
      subst hz
      unfold g_X12_personHere_4 g_X12_personHere_26
      refine ok_gI (by omega) (by omega) (by omega) (by omega) (fun g => ok_some ?_) (fun g => ?_)
      · have : j = 8 := by omega
        subst this
        rw [hv]; rfl
      · have w : wcd (9 + j) = (j : Int) + 1 := by
          have : ∀ j : Nat, j < 8 → wcd (9 + j) = (j : Int) + 1 := by decide
          exact this j (by omega)
        refine ok_beq (s_isWord hT h (j := 9 + j) (by omega) (by omega)) (ok_bi (fun e => ih _ _ (j + 1) (by omega) (by omega) (by omega) ?_) (fun e => ih _ _ (j + 1) (by omega) (by omega) (by omega) ?_))
        · have e := of_decide_eq_false e
          rw [w] at e
          rw [hv]
          by_cases c : tK s N p = 1 ∧ 1 ≤ tV s N p ∧ tV s N p ≤ j
          · rw [if_pos c, if_pos (by omega)]
          · rw [if_neg c, if_neg (fun q => by by_cases c2 : tV s N p = (j : Int) + 1; exact e ⟨q.1, c2⟩; exact c ⟨q.1, q.2.1, by omega⟩)]
        · have e := of_decide_eq_true e
          rw [w] at e
          rw [if_pos ⟨e.1, by omega, by omega⟩]; omega
  apply ok_eq
  unfold g_X12_personHere
  refine key FU (-1) 0 0 rfl (by omega) (by rw [FU_e]; omega) ?_
  rw [if_neg (by omega)]
end
