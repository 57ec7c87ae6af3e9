/-! choice: what it does to what is held; the reference -/
def chL (x y : Nat) : Prop := (x = 0 ∧ y = 2) ∨ (6 ≤ x ∧ x ≤ 15)
def chX (A : Nat → Nat → Int) : Int × (Nat → Nat → Int) := spL (A 1) (A 0 2).toNat (A 0 20) ((A 0 2).toNat + 1) 0 dr0
def QCh (A B : Nat → Nat → Int) (v : Int) : Prop := v = (chX A).1 ∧ B 0 2 = 0 ∧ (∀ x y, ¬ chL x y → B x y = A x y) ∧ (((chX A).1 = 0 ∧ Dok (A 0 20) (chX A).2 ∧ DrL (chX A).2 B) ∨ ((chX A).1 ≠ 0 ∧ Sl A B))
theorem dok_0 {k : Int} : Dok k dr0 := by
  refine ⟨fun m hm => ⟨Or.inl rfl, ?_, ?_, fun _ => ⟨rfl, rfl, rfl⟩⟩, ?_, fun i hi => ?_⟩
  · show (-1 : Int) ≤ -1 ∧ (-1 : Int) ≤ 100; omega
  · show (-1 : Int) ≤ -1 ∧ (-1 : Int) ≤ 100; omega
  · show (0 : Int) ≤ 0 ∧ (0 : Int) ≤ 12; omega
  · have : (i : Int) < 0 := hi
    omega
theorem a_choice {A : Nat → Nat → Int} {ζ : ZS} (h : Rf A ζ) (hW : Wall A) (hw : Wrd ζ) : Ok (g_X12_choice ζ) (fun r => ∃ B, QCh A B r.1 ∧ Rf B r.2 ∧ Fx (fun x _ => x < 25 ∧ x ≠ 5) ζ r.2) := by
  have qk := hW.1.1
  have qN := hW.2.2.2.2.2.2.1
  have f0 : Fx (fun x _ => x < 25 ∧ x ≠ 5) ζ (zI ζ 0 0 0) := fx_I (fx_refl _ _) (by decide)
  have h0 := rf_0 h 0
  have hw0 : Wrd (zI ζ 0 0 0) := hw
  unfold g_X12_choice
  generalize zI ζ 0 0 0 = ζ0 at f0 h0 hw0 ⊢
  refine ok_bind (s_cutAll h0 hW) (fun q2 ⟨T, hTN, hE, hNZ, hZ, fC, c7, c8, c2⟩ => ?_)
  refine ok_bind (s_forgets (o := 1) rfl (by omega)) (fun q3 ⟨g1, g2⟩ => ?_)
  have g3 : ∀ x y, ¬ (6 ≤ x ∧ x ≤ 9) → q3.1 x y = q2.1 x y := fun x y q => by rw [g1 x y, if_neg (by omega), if_neg (by omega), if_neg (by omega)]
  have hT : Tb (A 1) (A 0 2).toNat (A 0 20) T q3 := by
    refine ⟨by omega, hTN, fun i hi => ?_, hZ, ⟨by omega, by omega, ?_⟩, fun j hj => ?_⟩
    · have := hE i hi
      unfold Ent at this ⊢
      rw [g3 _ _ (by omega), g3 _ _ (by omega), g2]
      exact this
    · rw [g3 _ _ (by omega), (fC.1 0 20 (by unfold Wcu; omega)).1]
      exact h0 0 20 (by unfold psl; omega)
    · rw [g2, (fC.1 5 j (by unfold Wcu; omega)).2]; exact hw0 j hj
  have hR : RSt (A 1) (A 0 2).toNat T 0 dr0 q3 q3 := by
    refine ⟨fx_refl _ _, by rw [g3 _ _ (by omega)]; exact c8, ⟨0, by omega, by rw [g3 _ _ (by omega)]; exact c7, rfl⟩, ⟨fun m hm => ?_, ?_, fun i hi => ?_⟩⟩
    · rw [g1 6 (4 + m), if_neg (by omega), if_pos (by omega), g1 7 (4 + m), if_neg (by omega), if_neg (by omega), if_pos (by omega), g1 8 (4 + m), if_neg (by omega), if_neg (by omega), if_pos (by omega)]
      exact ⟨rfl, rfl, rfl⟩
    · rw [g1 9 1, if_pos (by omega)]; rfl
    · have : (i : Int) < 0 := hi
      omega
  refine ok_mono (s_ch14 hT FU ((A 0 2).toNat + 1) 0 dr0 q3 (by rw [FU_e]; omega) (by omega) dok_0 hR) (fun r ⟨r1, r2, r3⟩ => ?_)
  have fr : ∀ x y, ¬ ((x = 0 ∧ (y = 2 ∨ y = 3 ∨ y = 7 ∨ y = 8)) ∨ x = 2 ∨ x = 3 ∨ x = 4 ∨ (6 ≤ x ∧ x ≤ 15)) → r.2.1 x y = ζ0.1 x y ∧ r.2.2.1 x y = ζ0.2.1 x y := fun x y q => by
    have a := r2.1 x y (by unfold Wch; omega)
    have b := fC.1 x y (by unfold Wcu; omega)
    exact ⟨by rw [a.1, g3 _ _ (by omega), b.1], by rw [a.2, g2, b.2]⟩
  have e02 : r.2.1 0 2 = 0 := by rw [(r2.1 0 2 (by unfold Wch; omega)).1, g3 _ _ (by omega)]; exact c2
  refine ⟨fun x y => if (x = 0 ∧ y = 2) ∨ (6 ≤ x ∧ x ≤ 15) then r.2.1 x y else A x y, ⟨r1, ?_, fun x y q => ?_, ?_⟩, fun x y hp => ?_, fx_trans f0 ⟨fun x y q => ?_, ?_⟩⟩
  · show (if _ then _ else _) = _
    rw [if_pos (by omega)]; exact e02
  · show (if _ then _ else _) = _
    unfold chL at q
    rw [if_neg q]
  · rcases r3 with ⟨x0, xd, xl⟩ | ⟨x0, xf⟩
    · refine Or.inl ⟨x0, xd, ⟨fun m hm => ?_, ?_, fun i hi => ?_⟩⟩
      · simp only [if_pos (show (6 = 0 ∧ m = 2) ∨ (6 ≤ 6 ∧ 6 ≤ 15) by omega), if_pos (show (7 = 0 ∧ m = 2) ∨ (6 ≤ 7 ∧ 7 ≤ 15) by omega), if_pos (show (8 = 0 ∧ m = 2) ∨ (6 ≤ 8 ∧ 8 ≤ 15) by omega)]
        exact xl.1 m hm
      · show (if _ then _ else _) = _
        rw [if_pos (by omega)]; exact xl.2.1
      · simp only [if_pos (show (10 = 0 ∧ i = 2) ∨ (6 ≤ 10 ∧ 10 ≤ 15) by omega), if_pos (show (11 = 0 ∧ i = 2) ∨ (6 ≤ 11 ∧ 11 ≤ 15) by omega), if_pos (show (12 = 0 ∧ i = 2) ∨ (6 ≤ 12 ∧ 12 ≤ 15) by omega), if_pos (show (13 = 0 ∧ i = 2) ∨ (6 ≤ 13 ∧ 13 ≤ 15) by omega), if_pos (show (14 = 0 ∧ i = 2) ∨ (6 ≤ 14 ∧ 14 ≤ 15) by omega), if_pos (show (15 = 0 ∧ i = 2) ∨ (6 ≤ 15 ∧ 15 ≤ 15) by omega)]
        exact xl.2.2 i hi
    · refine Or.inr ⟨x0, fun x y hl => ?_⟩
      unfold Liv at hl
      show (if _ then _ else _) = _
      by_cases c : (x = 0 ∧ y = 2) ∨ (6 ≤ x ∧ x ≤ 15)
      · rw [if_pos c, (xf.1 x y (by unfold Wpa; omega)).1]
        have : q3.1 x y = q2.1 x y := by rw [g1 x y, if_neg (by omega), if_neg (by omega), if_neg (by omega)]
        rw [this, (fC.1 x y (by unfold Wcu; omega)).1]
        exact h0 x y (by unfold psl; omega)
      · rw [if_neg c]
  · show _ = (if _ then _ else _)
    by_cases c : (x = 0 ∧ y = 2) ∨ (6 ≤ x ∧ x ≤ 15)
    · rw [if_pos c]
    · rw [if_neg c]
      have e32 : (if (0 = 0 ∧ 32 = 2) ∨ (6 ≤ 0 ∧ 0 ≤ 15) then r.2.1 0 32 else A 0 32) = A 0 32 := by rw [if_neg (by omega)]
      unfold psl at hp
      simp only [e32] at hp
      rw [(fr x y (by omega)).1]
      exact h0 x y (by unfold psl; exact hp)
  · exact fr x y (fun c => q (by omega))
  · rw [r2.2, g2, fC.2]
theorem wall_choice {A B : Nat → Nat → Int} {v : Int} (h : Wall A) (hq : QCh A B v) : Wall B := by
  obtain ⟨h1, h2, h3, h4, h5, h6, h7⟩ := h
  obtain ⟨-, b2, ot, br⟩ := hq
  have o : ∀ x y, ¬ (x = 0 ∧ y = 2) → ¬ (6 ≤ x ∧ x ≤ 15) → B x y = A x y := fun x y g1 g2 => ot x y (by unfold chL; omega)
  refine ⟨?_, ?_, ?_, ?_, ?_, ?_, ?_⟩
  · rcases br with ⟨-, d, l⟩ | ⟨-, sl⟩
    · unfold Wa
      rw [o 0 20 (by omega) (by omega)]
      refine ⟨h1.1, fun t ht => by rw [o 16 t (by omega) (by omega)]; exact h1.2.1 t ht, fun t m ht hm => by rw [o 17 _ (by omega) (by omega)]; exact h1.2.2.1 t m ht hm, fun m hm => ?_⟩
      have q := l.1 m hm
      rw [q.1, q.2.1, q.2.2]
      exact d.1 m hm
    · exact sl_wa h1 sl
  · rcases br with ⟨-, d, l⟩ | ⟨-, sl⟩
    · unfold Ws
      rw [o 0 20 (by omega) (by omega), l.2.1]
      refine ⟨d.2.1, fun i hi => ?_⟩
      obtain ⟨a1, a2, a3, a4, a5, a6⟩ := l.2.2 i hi
      have q := d.2.2 i hi
      rw [a1, a2, a3]
      refine ⟨q.1, q.2.1, q.2.2.1, fun g => by rw [a5 g]; exact q.2.2.2.1 g, fun g => by rw [(a4 g).1, (a4 g).2]; exact q.2.2.2.2.1 g, fun g => by rw [a6 g]; exact q.2.2.2.2.2.1 g, fun g => ⟨(q.2.2.2.2.2.2 g).1, fun g2 => by rw [a6 g2]; exact (q.2.2.2.2.2.2 g).2 g2⟩⟩
    · exact sl_ws h2 sl
  · unfold Wv; rw [o 0 23 (by omega) (by omega)]; exact h3
  · unfold Wx; rw [o 0 32 (by omega) (by omega), o 0 33 (by omega) (by omega), o 0 34 (by omega) (by omega)]; exact h4
  · rw [o 0 32 (by omega) (by omega)]; exact h5
  · unfold Wo
    rw [o 0 24 (by omega) (by omega)]
    exact ⟨h6.1, fun p hp => by rw [o 18 p (by omega) (by omega)]; exact h6.2.1 p hp, fun p q hp hq => by rw [o 18 p (by omega) (by omega), o 18 q (by omega) (by omega)]; exact h6.2.2 p q hp hq⟩
  · exact ⟨by rw [b2]; omega, fun i hi => by rw [b2] at hi; omega⟩
