/-! choice of the reference -/
def cpy (ζ : ZS) (c a b : Nat) : ZS := zI ζ c a (ζ.1 c b)
theorem cpy_1 (ζ : ZS) (c a b x y : Nat) : (cpy ζ c a b).1 x y = if x = c ∧ y = a then ζ.1 c b else ζ.1 x y := zI_1 ζ c a x y _
theorem cps {ζ ζa : ZS} {lo c w j : Nat} (hw : 0 < w) (hc : lo ≤ c) (h : ∀ x y, ζa.1 x y = if lo ≤ x ∧ x < c ∧ y = j then ζ.1 x (w + j) else ζ.1 x y) : ∀ x y, (cpy ζa c j (w + j)).1 x y = if lo ≤ x ∧ x < c + 1 ∧ y = j then ζ.1 x (w + j) else ζ.1 x y := fun x y => by
  rw [cpy_1]
  by_cases e : x = c ∧ y = j
  · rw [if_pos e, if_pos (by omega), h, if_neg (by omega), e.1]
  · rw [if_neg e, h]
    by_cases e2 : lo ≤ x ∧ x < c ∧ y = j
    · rw [if_pos e2, if_pos (by omega)]
    · rw [if_neg e2, if_neg (by omega)]
theorem s_td69 : ∀ (n j : Nat) (z : Int) (ζ1 : ZS), z = j → j ≤ 12 → 12 - j < n → Ok (g_X12_takesDraft_69 n z ζ1) (fun ζ' => (∀ x y, ζ'.1 x y = if 10 ≤ x ∧ x ≤ 15 ∧ j ≤ y ∧ y < 12 then ζ1.1 x (12 + y) else ζ1.1 x y) ∧ ζ'.2 = ζ1.2) := by
  intro n
  induction n with
  | zero => intro _ _ _ _ _ h; omega
  | succ n ih =>
    intro j z ζ1 hz hj hn
    subst hz
    unfold g_X12_takesDraft_69
    refine ok_gI (by omega) (by omega) (by omega) (by omega) (fun g => ok_some ⟨fun x y => by rw [if_neg (by omega)], rfl⟩) (fun g => ?_)
    rw [show Int.toNat (j : Int) = j by omega, show Int.toNat (12 + (j : Int)) = 12 + j by omega]
    refine ok_gk (by omega) (by omega) (ok_gk (by omega) (by omega) (ok_gk (by omega) (by omega) (ok_gk (by omega) (by omega) (ok_gk (by omega) (by omega) (ok_gk (by omega) (by omega) (ok_gk (by omega) (by omega) (ok_gk (by omega) (by omega) (ok_gk (by omega) (by omega) (ok_gk (by omega) (by omega) (ok_gk (by omega) (by omega) (ok_gk (by omega) (by omega) ?_)))))))))))
    show Ok (g_X12_takesDraft_69 n ((j : Int) + 1) (cpy (cpy (cpy (cpy (cpy (cpy ζ1 10 j (12 + j)) 11 j (12 + j)) 12 j (12 + j)) 13 j (12 + j)) 14 j (12 + j)) 15 j (12 + j))) _
    have e := cps (lo := 10) (c := 15) (w := 12) (j := j) (by omega) (by omega) (cps (c := 14) (by omega) (by omega) (cps (c := 13) (by omega) (by omega) (cps (c := 12) (by omega) (by omega) (cps (c := 11) (by omega) (by omega) (cps (ζ := ζ1) (ζa := ζ1) (c := 10) (by omega) (by omega) (fun x y => by rw [if_neg (by omega)]))))))
    have e2 : (cpy (cpy (cpy (cpy (cpy (cpy ζ1 10 j (12 + j)) 11 j (12 + j)) 12 j (12 + j)) 13 j (12 + j)) 14 j (12 + j)) 15 j (12 + j)).2 = ζ1.2 := rfl
    generalize cpy (cpy (cpy (cpy (cpy (cpy ζ1 10 j (12 + j)) 11 j (12 + j)) 12 j (12 + j)) 13 j (12 + j)) 14 j (12 + j)) 15 j (12 + j) = ζ2 at e e2 ⊢
    refine ok_mono (ih (j + 1) _ ζ2 (by omega) (by omega) (by omega)) (fun ζ' ⟨h1, h2⟩ => ⟨fun x y => ?_, h2.trans e2⟩)
    rw [h1 x y]
    by_cases c : 10 ≤ x ∧ x ≤ 15 ∧ j + 1 ≤ y ∧ y < 12
    · rw [if_pos c, if_pos (by omega), e, if_neg (by omega)]
    · rw [if_neg c, e]
      by_cases c2 : 10 ≤ x ∧ x < 15 + 1 ∧ y = j
      · rw [if_pos c2, if_pos (by omega), c2.2.2]
      · rw [if_neg c2, if_neg (by omega)]
theorem zand_b {b : Int} (h : b = 0 ∨ b = 1) : zand b 1 = b := by
  rcases h with h | h
  · rw [h]; exact zand01
  · rw [h]; exact zand11
theorem s_td14 : ∀ (n j : Nat) (z : Int) (ζ1 : ZS), z = j → j ≤ 4 → 4 - j < n → (∀ m, m < 4 → ζ1.1 6 (4 + m) = 0 ∨ ζ1.1 6 (4 + m) = 1) → Ok (g_X12_takesDraft_14 n z ζ1) (fun ζ' => (∀ x y, ζ'.1 x y = if 10 ≤ x ∧ x ≤ 15 ∧ y < 12 then ζ1.1 x (12 + y) else if 6 ≤ x ∧ x ≤ 8 ∧ j ≤ y ∧ y < 4 then ζ1.1 x (4 + y) else ζ1.1 x y) ∧ ζ'.2 = ζ1.2) := by
  intro n
  induction n with
  | zero => intro _ _ _ _ _ h; omega
  | succ n ih =>
    intro j z ζ1 hz hj hn hb
    subst hz
    unfold g_X12_takesDraft_14
    refine ok_gI (by omega) (by omega) (by omega) (by omega) (fun g => ok_mono (s_td69 FU 0 0 ζ1 rfl (by omega) (by rw [FU_e]; omega)) (fun ζ' ⟨h1, h2⟩ => ⟨fun x y => ?_, h2⟩)) (fun g => ?_)
    · rw [h1 x y]
      by_cases c : 10 ≤ x ∧ x ≤ 15 ∧ y < 12
      · rw [if_pos (by omega), if_pos c]
      · rw [if_neg (by omega), if_neg c, if_neg (by omega)]
    rw [show Int.toNat (j : Int) = j by omega, show Int.toNat (4 + (j : Int)) = 4 + j by omega, zand_b (hb j (by omega))]
    refine ok_gk (by omega) (by omega) (ok_gk (by omega) (by omega) (ok_gk (by omega) (by omega) (ok_gk (by omega) (by omega) (ok_gk (by omega) (by omega) (ok_gk (by omega) (by omega) ?_)))))
    show Ok (g_X12_takesDraft_14 n ((j : Int) + 1) (cpy (cpy (cpy ζ1 6 j (4 + j)) 7 j (4 + j)) 8 j (4 + j))) _
    have e := cps (lo := 6) (c := 8) (w := 4) (j := j) (by omega) (by omega) (cps (c := 7) (by omega) (by omega) (cps (ζ := ζ1) (ζa := ζ1) (c := 6) (by omega) (by omega) (fun x y => by rw [if_neg (by omega)])))
    have e2 : (cpy (cpy (cpy ζ1 6 j (4 + j)) 7 j (4 + j)) 8 j (4 + j)).2 = ζ1.2 := rfl
    generalize cpy (cpy (cpy ζ1 6 j (4 + j)) 7 j (4 + j)) 8 j (4 + j) = ζ2 at e e2 ⊢
    refine ok_mono (ih (j + 1) _ ζ2 (by omega) (by omega) (by omega) (fun m hm => by rw [e, if_neg (by omega)]; exact hb m hm)) (fun ζ' ⟨h1, h2⟩ => ⟨fun x y => ?_, h2.trans e2⟩)
    rw [h1 x y]
    by_cases c : 10 ≤ x ∧ x ≤ 15 ∧ y < 12
    · rw [if_pos c, if_pos c, e, if_neg (by omega)]
    · rw [if_neg c, if_neg c]
      by_cases c1 : 6 ≤ x ∧ x ≤ 8 ∧ j + 1 ≤ y ∧ y < 4
      · rw [if_pos c1, if_pos (by omega), e, if_neg (by omega)]
      · rw [if_neg c1, e]
        by_cases c2 : 6 ≤ x ∧ x < 8 + 1 ∧ y = j
        · rw [if_pos c2, if_pos (by omega), c2.2.2]
        · rw [if_neg c2, if_neg (by omega)]
def DrL (D B : Nat → Nat → Int) : Prop := (∀ m, m < 4 → B 6 m = D 6 m ∧ B 7 m = D 7 m ∧ B 8 m = D 8 m) ∧ B 9 0 = D 9 0 ∧ ∀ i : Nat, (i : Int) < D 9 0 → B 10 i = D 10 i ∧ B 11 i = D 11 i ∧ B 14 i = D 14 i ∧ (D 11 i = 5 → B 12 i = D 12 i ∧ B 13 i = D 13 i) ∧ (D 11 i = 6 ∨ D 11 i = 7 → B 12 i = D 12 i) ∧ (D 11 i ≠ 6 ∧ D 11 i ≠ 7 → B 15 i = D 15 i)
def Wch (x y : Nat) : Prop := (x = 0 ∧ (y = 7 ∨ y = 8)) ∨ (6 ≤ x ∧ x ≤ 15)
section
variable {s : Nat → Int} {N T p : Nat} {k : Int} {D : Nat → Nat → Int} {ζ ζ1 : ZS}
theorem s_takesDraft (hD : Dok k D) (h : DrR D ζ1) : Ok (g_X12_takesDraft ζ1) (fun ζ' => DrL D ζ'.1 ∧ Fx Wch ζ1 ζ' ∧ ζ'.1 0 8 = ζ1.1 0 8) := by
  have q9 := hD.2.1
  unfold g_X12_takesDraft
  rw [show Int.toNat 1 = 1 from rfl, show Int.toNat 0 = 0 from rfl]
  have z : ∀ x y, ¬ (x = 9 ∧ y = 0) → (zI ζ1 9 0 (ζ1.1 9 1)).1 x y = ζ1.1 x y := fun x y q => by rw [zI_1, if_neg q]
  refine ok_gk (by omega) (by omega) (ok_gk (by omega) (by omega) (ok_mono (s_td14 FU 0 0 _ rfl (by omega) (by rw [FU_e]; omega) (fun m hm => ?_)) (fun ζ' ⟨h1, h2⟩ => ⟨⟨fun m hm => ?_, ?_, fun i hi => ?_⟩, ⟨fun x y hx => ⟨?_, by rw [h2]; rfl⟩, by rw [h2]; rfl⟩, ?_⟩)))
  · rw [z _ _ (by omega), (h.1 m hm).1]; exact (hD.1 m hm).1
  · rw [h1 6 m, h1 7 m, h1 8 m, if_neg (by omega), if_pos (by omega), if_neg (by omega), if_pos (by omega), if_neg (by omega), if_pos (by omega), z _ _ (by omega), z _ _ (by omega), z _ _ (by omega)]
    exact h.1 m hm
  · rw [h1 9 0, if_neg (by omega), if_neg (by omega), zI_1, if_pos ⟨rfl, rfl⟩]; exact h.2.1
  · rw [h1 10 i, if_pos (by omega), h1 11 i, if_pos (by omega), h1 12 i, if_pos (by omega), h1 13 i, if_pos (by omega), h1 14 i, if_pos (by omega), h1 15 i, if_pos (by omega), z _ _ (by omega), z _ _ (by omega), z _ _ (by omega), z _ _ (by omega), z _ _ (by omega), z _ _ (by omega)]
    exact h.2.2 i hi
  · unfold Wch at hx
    rw [h1 x y, if_neg (by omega), if_neg (by omega), z _ _ (by omega)]
  · rw [h1 0 8, if_neg (by omega), if_neg (by omega), z _ _ (by omega)]
theorem s_rsStep (hT : Tb s N k T ζ) (h : RSt s N T p D ζ ζ1) {n j : Nat} {g z2 z3 : Int} {P : ZS → Prop} (hz3 : z3 = j) (hj : 3 ≤ j) (hj2 : j ≤ 8) (hn : Ok (g_X12_readSaying_55 g n (if isV s N p (wcd j) then (j : Int) else z2) ((j : Int) + 1) ζ1) P) : Ok (g_X12_readSaying_55 g (n + 1) z2 z3 ζ1) P := by
  subst hz3
  unfold g_X12_readSaying_55 g_X12_readSaying_74
  refine ok_gI (by omega) (by omega) (by omega) (by omega) (fun q => by omega) (fun _ => ok_beq (s_isWord hT h (j := j) rfl (by omega)) (ok_bi (fun e => ?_) (fun e => ?_)))
  · rw [if_neg (of_decide_eq_false e)] at hn; exact hn
  · rw [if_pos (of_decide_eq_true e)] at hn; exact hn
theorem s_readSaying (hT : Tb s N k T ζ) (hD : Dok k D) (h : RSt s N T p D ζ ζ1) : Ok (g_X12_readSaying ζ1) (Ren s N T (if ¬ (tK s N p = 1 ∧ 1 ≤ tV s N p ∧ tV s N p ≤ 8) then (1 + 16 * (skp s N p : Int), p, D) else if D 9 0 = 12 then (5 + 16 * (skp s N p : Int), p, D) else spS s N k (tV s N p - 1) (tE s N p) D) ζ) := by
  have q9 := hD.2.1
  have bad : ∀ (c g : Int), 1 ≤ c → c ≤ 5 → Ok ((g_X12_wrong c ζ1).bind fun q3 => g_X12_readSaying_33 g q3) (Ren s N T (c + 16 * (skp s N p : Int), p, D) ζ) := fun c g h1 h2 => by
    refine ok_bind (s_wrong hT h h1 h2) (fun q hq => ?_)
    unfold g_X12_readSaying_33
    obtain ⟨a, e8, v1, v2⟩ := id hq
    rw [e8]
    exact ok_gI (by omega) (by omega) (by omega) (by omega) (fun _ => by omega) (fun _ => ok_some (Or.inr ⟨show c + 16 * (skp s N p : Int) ≠ 0 by omega, hq⟩))
  unfold g_X12_readSaying
  refine ok_beq (s_person hT h) ?_
  by_cases c : tK s N p = 1 ∧ 1 ≤ tV s N p ∧ tV s N p ≤ 8
  · rw [if_pos c, if_neg (fun q => q c)]
    rw [show Int.toNat 1 = 1 from rfl]
    have e91 : ζ1.1 9 1 = D 9 0 := h.2.2.2.2.1
    rw [e91]
    refine ok_gI (by omega) (by omega) (by omega) (by omega) (fun _ => ok_gk (by omega) (by omega) (ok_gI (by omega) (by omega) (by omega) (by omega) (fun c2 => ?_) (fun c2 => ?_))) (fun q => by omega)
    · rw [if_pos c2]; exact bad 5 _ (by omega) (by omega)
    · rw [if_neg c2]
      unfold g_X12_readSaying_33
      rw [h.2.1]
      have rn := rs_next hT h (by omega)
      refine ok_gI (by omega) (by omega) (by omega) (by omega) (fun _ => ?_) (fun q => by omega)
      show Ok (g_X12_readSaying_55 (tV s N p - 1) (4993 + 1 + 1 + 1 + 1 + 1 + 1 + 1) (-1) 3 (zI ζ1 0 7 (ζ1.1 0 7 + 1))) _
      refine s_rsStep (j := 3) hT rn rfl (by omega) (by omega) (s_rsStep (j := 4) hT rn rfl (by omega) (by omega) (s_rsStep (j := 5) hT rn rfl (by omega) (by omega) (s_rsStep (j := 6) hT rn rfl (by omega) (by omega) (s_rsStep (j := 7) hT rn rfl (by omega) (by omega) (s_rsStep (j := 8) hT rn rfl (by omega) (by omega) ?_)))))
      exact s_rsEnd hT (n := (D 9 0).toNat) ⟨by omega, by omega⟩ (by omega) (by omega) rn
  · rw [if_neg c, if_pos c]
    exact ok_gI (by omega) (by omega) (by omega) (by omega) (fun q => by omega) (fun _ => bad 1 _ (by omega) (by omega))
/-- a statement but its semicolon -/
def Fin14 (X : Int × (Nat → Nat → Int)) (k : Int) (ζ : ZS) (r : Int × ZS) : Prop := r.1 = X.1 ∧ Fx Wch ζ r.2 ∧ ((X.1 = 0 ∧ Dok k X.2 ∧ DrL X.2 r.2.1) ∨ (X.1 ≠ 0 ∧ Fx Wpa ζ r.2))
theorem wpa_wch {x y : Nat} (h : Wpa x y) : Wch x y := by unfold Wpa at h; unfold Wch; omega
theorem s_ch14 (hT : Tb s N k T ζ) : ∀ (n m p : Nat) (D : Nat → Nat → Int) (ζ1 : ZS), N - p < n → N - p < m → Dok k D → RSt s N T p D ζ ζ1 → Ok (g_X12_choice_14 n ζ1) (Fin14 (spL s N k m p D) k ζ) := by
  have hk := hT.2.2.2.2.1.2.1
  intro n
  induction n with
  | zero => intro _ _ _ _ h; omega
  | succ n ih =>
    intro m p D ζ1 hn hm hD h
    obtain ⟨m, rfl⟩ : ∃ m', m = m' + 1 := ⟨m - 1, by omega⟩
    have hp := rs_p h
    have hT1 := tb_fx hT h.1
    obtain ⟨f, e8, ⟨t, ht, e7, ep⟩, dr⟩ := id h
    have en := hT1.2.2.1 t ht
    have n1 := hT.1
    have n2 := hT.2.1
    have kr := tK_r (s := s) (N := N) (p := p)
    unfold Ent at en
    rw [ep] at en
    unfold g_X12_choice_14 g_X12_choice_57
    rw [e8, e7, show Int.toNat (t : Int) = t by omega, en.1]
    refine ok_gI (by omega) (by omega) (by omega) (by omega) (fun _ => ok_gk (by omega) (by omega) (ok_gI (by omega) (by omega) (by omega) (by omega) (fun c0 => ?_) (fun c0 => ?_))) (fun q => absurd rfl q)
    · unfold g_X12_choice_77 g_X12_choice_88
      have eX : spL s N k (m + 1) p D = (0, D) := by unfold spL; rw [if_pos c0]
      rw [e8, eX]
      refine ok_gI (by omega) (by omega) (by omega) (by omega) (fun _ => ok_bind (s_takesDraft hD dr) (fun ζ' ⟨t1, t2, t3⟩ => ok_some ⟨t3.trans e8, fx_trans (fx_mono f (fun x y q => wpa_wch q)) t2, Or.inl ⟨rfl, hD, t1⟩⟩)) (fun q => absurd rfl q)
    · have eX : spL s N k (m + 1) p D = if (spA s N k p D).1 ≠ 0 then ((spA s N k p D).1, D) else spL s N k m (spA s N k p D).2.1 (spA s N k p D).2.2 := by rw [spL, if_neg c0]
      have eA : ∀ R : Rz, spT s N k p D = R → spA s N k p D = if R.1 ≠ 0 then R else if tK s N R.2.1 = 3 then (0, tE s N R.2.1, R.2.2) else (1 + 16 * (skp s N R.2.1 : Int), p, D) := fun R hR => by unfold spA; rw [hR]
      have kA := spA_k (s := s) (N := N) (p := p) (D := D) hk hp c0 hD
      -- what comes behind
      have stop : ∀ {v : Int} {ζ2 : ZS}, FSt v ζ ζ2 → (spA s N k p D).1 = v → Ok (g_X12_choice_14 n ζ2) (Fin14 (spL s N k (m + 1) p D) k ζ) := fun {v ζ2} hF hv => by
        have hF' := hF
        obtain ⟨fF, eF, v1, v2⟩ := hF
        have e1 : spL s N k (m + 1) p D = (v, D) := by rw [eX, hv, if_pos (by omega)]
        cases n with
        | zero =>
          exfalso
          have b1 := tE_b (s := s) hp
          have b0 := skp_b (s := s) hp
          have nk : skp s N p ≠ N := fun q => c0 ((tK_0 hp).mpr q)
          omega
        | succ n' =>
          unfold g_X12_choice_14 g_X12_choice_77 g_X12_choice_88
          rw [eF, e1]
          exact ok_gI (by omega) (by omega) (by omega) (by omega) (fun q => by omega) (fun _ => ok_gI (by omega) (by omega) (by omega) (by omega) (fun q => by omega) (fun _ => ok_some ⟨rfl, fx_mono fF (fun x y q => wpa_wch q), Or.inr ⟨by show v ≠ 0; omega, fF⟩⟩))
      have after : ∀ {R : Rz} {ζ2 : ZS}, spT s N k p D = R → Ren s N T R ζ ζ2 → Ok (g_X12_choice_68 (g_X12_choice_14 n) ζ2) (Fin14 (spL s N k (m + 1) p D) k ζ) := fun {R ζ2} hR hh => by
        have eA' := eA R hR
        unfold g_X12_choice_68
        rcases hh with ⟨r0, hh⟩ | ⟨r0, hh⟩
        · rw [if_neg (by omega)] at eA'
          refine ok_bind (s_takeSign hT hh) (fun q hq => ?_)
          rcases hq with ⟨g1, g2⟩ | ⟨g1, g2⟩
          · rw [if_pos g1] at eA'
            rw [eA'] at kA
            have kk := kA rfl
            rw [eX, eA', if_neg (fun q => q rfl)]
            exact ih m _ _ _ (by have := kk.1; have := kk.2.1; show N - tE s N R.2.1 < n; have : p < tE s N R.2.1 := kk.1; omega) (by have : p < tE s N R.2.1 := kk.1; have : tE s N R.2.1 ≤ N := kk.2.1; show N - tE s N R.2.1 < m; omega) kk.2.2 g2
          · rw [if_neg g1] at eA'
            exact stop g2 (by rw [eA'])
        · rw [if_pos r0] at eA'
          exact ok_beq (s_takeSignF hh) (stop hh (by rw [eA']))
      have w0 : wcd 0 = 615403 := rfl
      have w1 : wcd 1 = 4160 := rfl
      have w2 : wcd 2 = 687961 := rfl
      have mea : ∀ j : Nat, j < 3 → spT s N k p D = spM s N k j (tE s N p) D → (j = 0 → isV s N p 615403) → (j = 1 → ¬ isV s N p 615403 ∧ isV s N p 4160) → (j = 2 → ¬ isV s N p 615403 ∧ ¬ isV s N p 4160) → Ok ((g_X12_readMeasure ζ1).bind fun q1 => g_X12_choice_68 (g_X12_choice_14 n) q1) (Fin14 (spL s N k (m + 1) p D) k ζ) := fun j hj hR j0 j1 j2 => by
        have r25 := s_rm25 (j := j) hT hD h hj (show tK s N p ≠ 0 from c0)
        have rM : Ok (g_X12_readMeasure ζ1) (Ren s N T (spM s N k j (tE s N p) D) ζ) := by
          unfold g_X12_readMeasure
          refine ok_beq (s_isWord hT h (j := 0) rfl (by omega)) (ok_bi (fun e => ?_) (fun e => ?_))
          · have e := of_decide_eq_false e
            rw [w0] at e
            refine ok_beq (s_isWord hT h (j := 1) rfl (by omega)) (ok_bi (fun e' => ?_) (fun e' => ?_))
            · have e' := of_decide_eq_false e'
              rw [w1] at e'
              have : j = 2 := by
                rcases (show j = 0 ∨ j = 1 ∨ j = 2 by omega) with q | q | q
                · exact absurd (j0 q) e
                · exact absurd (j1 q).2 e'
                · exact q
              subst this
              exact r25
            · have e' := of_decide_eq_true e'
              rw [w1] at e'
              have : j = 1 := by
                rcases (show j = 0 ∨ j = 1 ∨ j = 2 by omega) with q | q | q
                · exact absurd (j0 q) e
                · exact q
                · exact absurd e' (j2 q).2
              subst this
              exact r25
          · have e := of_decide_eq_true e
            rw [w0] at e
            have : j = 0 := by
              rcases (show j = 0 ∨ j = 1 ∨ j = 2 by omega) with q | q | q
              · exact q
              · exact absurd e (j1 q).1
              · exact absurd e (j2 q).1
            subst this
            exact r25
        exact ok_bind rM (fun q hq => after hR hq)
      refine ok_beq (s_isWord hT h (j := 0) rfl (by omega)) (ok_bi (fun e => ?_) (fun e => ?_))
      · have e := of_decide_eq_false e
        rw [w0] at e
        refine ok_beq (s_isWord hT h (j := 1) rfl (by omega)) (ok_bi (fun e' => ?_) (fun e' => ?_))
        · have e' := of_decide_eq_false e'
          rw [w1] at e'
          refine ok_beq (s_isWord hT h (j := 2) rfl (by omega)) (ok_bi (fun e2 => ?_) (fun e2 => ?_))
          · have e2 := of_decide_eq_false e2
            rw [w2] at e2
            exact ok_bind (s_readSaying hT hD h) (fun q hq => after (by unfold spT; rw [if_neg e, if_neg e', if_neg e2]) hq)
          · have e2 := of_decide_eq_true e2
            rw [w2] at e2
            exact mea 2 (by omega) (by unfold spT; rw [if_neg e, if_neg e', if_pos e2]) (fun q => by omega) (fun q => by omega) (fun _ => ⟨e, e'⟩)
        · have e' := of_decide_eq_true e'
          rw [w1] at e'
          exact mea 1 (by omega) (by unfold spT; rw [if_neg e, if_pos e']) (fun q => by omega) (fun _ => ⟨e, e'⟩) (fun q => by omega)
      · have e := of_decide_eq_true e
        rw [w0] at e
        exact mea 0 (by omega) (by unfold spT; rw [if_pos e]) (fun _ => e) (fun q => by omega) (fun q => by omega)
end
