/-! choice of the class -/
theorem tnF_r {s : Nat → Int} {N : Nat} (hN : N ≤ 1000) {lo hi : Int} {p : Nat} (hp : p ≤ N) : 0 ≤ tnF s N lo hi p ∧ tnF s N lo hi p < 20000 := by
  have b := skp_b (s := s) hp
  unfold tnF
  repeat' split
  all_goals omega
theorem toF_r {s : Nat → Int} {N : Nat} (hN : N ≤ 1000) {o hi : Int} {p : Nat} (hp : p ≤ N) : 0 ≤ toF s N o hi p ∧ toF s N o hi p < 20000 := by
  have b := skp_b (s := s) hp
  have t := tnF_r (s := s) (lo := 0) (hi := hi) hN hp
  unfold toF
  repeat' split
  all_goals omega
def Gzz (N : Nat) (R : Rz) : Prop := 0 ≤ R.1 ∧ R.1 < 20000 ∧ R.2.1 ≤ N
theorem gzz_i {N : Nat} {q : Prop} [Decidable q] {a b : Rz} (h1 : Gzz N a) (h2 : Gzz N b) : Gzz N (if q then a else b) := by split; exact h1; exact h2
theorem spA_r {s : Nat → Int} {N : Nat} {k : Int} {p : Nat} {D : Nat → Nat → Int} (hN : N ≤ 1000) (hp : p ≤ N) : 0 ≤ (spA s N k p D).1 ∧ (spA s N k p D).1 < 20000 := by
  have T1 : ∀ p, p ≤ N → tE s N p ≤ N := fun p hp => (tE_b hp).2.1
  have S1 : ∀ p, p ≤ N → skp s N p ≤ N := fun p hp => (skp_b hp).2
  have b1 := T1 p hp
  have b2 := T1 _ b1
  have b3 := T1 _ b2
  have b4 := T1 _ b3
  have b5 := T1 _ b4
  have b6 := T1 _ b5
  have ff : ∀ (w : Int) (q r : Nat) (E : Nat → Nat → Int), q ≤ N → r ≤ N → 0 ≤ w → w ≤ 5 → Gzz N (w + 16 * (skp s N q : Int), r, E) := fun w q r E hq hr h1 h2 => ⟨by show 0 ≤ w + 16 * (skp s N q : Int); omega, by have := S1 q hq; show w + 16 * (skp s N q : Int) < 20000; omega, hr⟩
  have fn : ∀ (lo hi : Int) (q r : Nat) (E : Nat → Nat → Int), q ≤ N → r ≤ N → Gzz N (tnF s N lo hi q, r, E) := fun lo hi q r E hq hr => ⟨(tnF_r hN hq).1, (tnF_r hN hq).2, hr⟩
  have fo : ∀ (o hi : Int) (q r : Nat) (E : Nat → Nat → Int), q ≤ N → r ≤ N → Gzz N (toF s N o hi q, r, E) := fun lo hi q r E hq hr => ⟨(toF_r hN hq).1, (toF_r hN hq).2, hr⟩
  have f0 : ∀ (r : Nat) (E : Nat → Nat → Int), r ≤ N → Gzz N (0, r, E) := fun r E hr => ⟨Int.le_refl 0, by show (0 : Int) < 20000; omega, hr⟩
  have rM : ∀ j, Gzz N (spM s N k j (tE s N p) D) := fun j => by
    unfold spM
    exact gzz_i (ff 3 _ _ _ b1 b1 (by omega) (by omega)) (gzz_i (fn _ _ _ _ _ b1 b1) (gzz_i (f0 _ _ b2) (gzz_i (fn _ _ _ _ _ b2 b1) (f0 _ _ b3))))
  have rS : ∀ g, Gzz N (spS s N k g (tE s N p) D) := fun g => by
    unfold spS spF spB spP
    exact gzz_i (ff 1 _ _ _ b1 b1 (by omega) (by omega)) (gzz_i (gzz_i (fn _ _ _ _ _ b2 b2) (gzz_i (fn _ _ _ _ _ b3 b2) (gzz_i (fn _ _ _ _ _ b4 b2) (gzz_i (fo _ _ _ _ _ b5 b2) (f0 _ _ b6))))) (gzz_i (gzz_i (fn _ _ _ _ _ b2 b2) (gzz_i (fn _ _ _ _ _ b3 b2) (f0 _ _ b4))) (gzz_i (fn _ _ _ _ _ b2 b2) (gzz_i (fo _ _ _ _ _ b3 b2) (f0 _ _ b4)))))
  have rT : Gzz N (spT s N k p D) := by
    unfold spT
    exact gzz_i (rM 0) (gzz_i (rM 1) (gzz_i (rM 2) (gzz_i (ff 1 _ _ _ hp hp (by omega) (by omega)) (gzz_i (ff 5 _ _ _ hp hp (by omega) (by omega)) (rS _)))))
  have : Gzz N (spA s N k p D) := by
    unfold spA
    exact gzz_i rT (gzz_i (f0 _ _ (T1 _ rT.2.2)) (ff 1 _ _ _ rT.2.2 hp (by omega) (by omega)))
  exact ⟨this.1, this.2.1⟩
theorem spL_r {s : Nat → Int} {N : Nat} {k : Int} (hN : N ≤ 1000) (hk : k ≤ 4) : ∀ (n p : Nat) (D : Nat → Nat → Int), p ≤ N → Dok k D → 0 ≤ (spL s N k n p D).1 ∧ (spL s N k n p D).1 < 20000
  | 0, p, D, _, _ => ⟨Int.le_refl 0, by show (0 : Int) < 20000; omega⟩
  | n + 1, p, D, hp, hD => by
    rw [spL]
    by_cases c : tK s N p = 0
    · rw [if_pos c]; exact ⟨Int.le_refl 0, by show (0 : Int) < 20000; omega⟩
    · rw [if_neg c]
      by_cases c2 : (spA s N k p D).1 ≠ 0
      · rw [if_pos c2]; exact spA_r hN hp
      · rw [if_neg c2]
        have q := spA_k hk hp c hD (Decidable.not_not.mp c2)
        exact spL_r hN hk n _ _ q.2.1 q.2.2
theorem chX_r {A : Nat → Nat → Int} (hW : Wall A) : 0 ≤ (chX A).1 ∧ (chX A).1 < 20000 := by
  have q := hW.2.2.2.2.2.2.1
  have qk := hW.1.1
  exact spL_r (by omega) qk.2 _ 0 dr0 (by omega) dok_0
section
variable {A B D : Nat → Nat → Int} {ζ ζ1 : ZS} {c : Nat}
theorem ch_sl (hs : Ws A) (h : Sl A B) (hc : Ch A ζ c) : Ch B ζ c := by
  have q9 := hs.1
  unfold Ch
  rw [sl_9 h]
  refine ⟨fun m hm => ?_, hc.2.1, fun i hi => ?_⟩
  · rw [h 6 m (by unfold Liv; omega), h 7 m (by unfold Liv; omega), h 8 m (by unfold Liv; omega)]; exact hc.1 m hm
  · rw [h 10 i (by unfold Liv; omega), h 11 i (by unfold Liv; omega), h 12 i (by unfold Liv; omega), h 13 i (by unfold Liv; omega), h 14 i (by unfold Liv; omega), h 15 i (by unfold Liv; omega)]; exact hc.2.2 i hi
theorem ch_dl (h : DrL D B) (hc : Ch D ζ c) : Ch B ζ c := by
  unfold Ch
  rw [h.2.1]
  refine ⟨fun m hm => ?_, hc.2.1, fun i hi => ?_⟩
  · have q := h.1 m hm
    rw [q.1, q.2.1, q.2.2]; exact hc.1 m hm
  · obtain ⟨a1, a2, a3, a4, a5, a6⟩ := h.2.2 i hi
    have q := hc.2.2 i hi
    rw [a1, a2, a3]
    exact ⟨q.1, q.2.1, fun e => by rw [a6 (by omega)]; exact q.2.2.1 e, fun e => by rw [a6 (by omega)]; exact q.2.2.2.1 e, fun e => by rw [a6 (by omega), (a4 e).1, (a4 e).2]; exact q.2.2.2.2.1 e, fun e => by rw [a5 (Or.inl e)]; exact q.2.2.2.2.2.1 e, fun e => by rw [a5 (Or.inr e)]; exact q.2.2.2.2.2.2.1 e, fun e => by rw [a6 (by omega)]; exact q.2.2.2.2.2.2.2 e⟩
theorem s_readC {s : Nat → Int} {N : Nat} {k : Int} (hB : Bdc s N k c) (hx : Tx s N ζ) {z : Int} (hz : z = k) : Ok (g_X6_read c z ζ) (FinC (spL s N k (N + 1) 0 dr0) c ζ) := by
  subst hz
  have hc := hB.2.2.2
  have n1 := hB.1
  unfold cell2 at hc
  unfold g_X6_read
  refine ok_bind s_clearC (fun ζ2 ⟨e1, e2⟩ => ?_)
  have z : ∀ x y, ¬ (x = 29 ∧ (y = 1 ∨ y = 2)) → ¬ (c ≤ x ∧ x ≤ c + 9) → ζ2.1 x y = ζ.1 x y := fun x y q1 q2 => by rw [e1 x y, if_neg (by omega), if_neg (by omega), zI_1, if_neg (by omega), zI_1, if_neg (by omega)]
  have f2 : Fx (Wcc c) ζ ζ2 := ⟨fun x y q => ⟨z x y (by unfold Wcc at q; omega) (by unfold Wcc at q; omega), by rw [e2]; rfl⟩, by rw [e2]; rfl⟩
  have f3 : Fx (Wcc c) ζ (zI ζ2 27 4 0) := fx_I f2 (by unfold Wcc; omega)
  have hx3 : Tx s N (zI ζ2 27 4 0) := tx_fx hx f3 (by unfold Wcc; omega) (fun i => by unfold Wcc; omega)
  unfold g_X8_rewind
  have st := s_step hB.1 hB.2.1 hx3 (e := 0) (by rw [zI_1, if_pos ⟨rfl, rfl⟩]; rfl) (by omega)
  have wr : Ok ((g_X8_step (zI ζ2 27 4 0)).bind fun q2 => some q2) (fun ζ' => Tp s N 0 ζ' ∧ Fx Wt3 (zI ζ2 27 4 0) ζ') := ok_bind st (fun ζ' q => ok_some q)
  refine ok_bind wr (fun ζ4 ⟨t1, t2⟩ => ?_)
  have f4 : Fx (Wcc c) ζ ζ4 := fx_trans f3 (fx_mono t2 (fun x y q => by unfold Wt3 at q; unfold Wcc; omega))
  have z4 : ∀ x y, x ≠ 27 → ζ4.1 x y = ζ2.1 x y := fun x y q => by rw [(t2.1 x y (by unfold Wt3; omega)).1, zI_1, if_neg (by omega)]
  refine s_read23 hB FU (N + 1) 0 0 0 dr0 ζ4 rfl (by omega) (by rw [FU_e]; omega) (by omega) dok_0 ⟨f4, tx_fx hx f4 (by unfold Wcc; omega) (fun i => by unfold Wcc; omega), t1, ?_, ?_, ⟨fun m hm => ?_, ?_, fun i hi => ?_⟩, by omega⟩
  · rw [z4 _ _ (by omega), e1 29 1, if_neg (by omega), if_neg (by omega), zI_1, if_neg (by omega), zI_1, if_pos ⟨rfl, rfl⟩]
  · rw [z4 _ _ (by omega), e1 29 2, if_neg (by omega), if_neg (by omega), zI_1, if_pos ⟨rfl, rfl⟩]
  · have v1 : ∀ w, w = c + 1 ∨ w = c + 2 ∨ w = c + 3 → ζ4.1 w m = -1 := fun w hw => by rw [z4 _ _ (by omega), e1, if_neg (by omega), if_pos ⟨hw, hm⟩]
    rw [v1 (c + 1) (by omega), v1 (c + 2) (by omega), v1 (c + 3) (by omega)]
    exact ⟨rfl, rfl, rfl⟩
  · rw [z4 _ _ (by omega), e1 c 9, if_pos ⟨rfl, rfl⟩]; rfl
  · have : (i : Int) < 0 := hi
    omega
theorem b_choice (h : Cls A ζ) (hW : Wall A) {v : Int} (hq : QCh A B v) : Ok (g_X11_choice ζ) (CPw B ζ (fun w => w = v)) := by
  have qk := hW.1.1
  have qN := hW.2.2.2.2.2.2
  have q1 := qN.1
  obtain ⟨hv, b2, ot, br⟩ := hq
  have o : ∀ x y, ¬ (x = 0 ∧ y = 2) → ¬ (6 ≤ x ∧ x ≤ 15) → B x y = A x y := fun x y g1 g2 => ot x y (by unfold chL; omega)
  obtain ⟨⟨c, d, hc, hd, hcd, r1, r2, hch⟩, hth, a1, a2, a3, a4, a5, a6, a7⟩ := h.1
  have hc' := hc
  have hd' := hd
  unfold cell2 at hc' hd'
  have kd0 : ∀ x, x = 150 ∨ x = 160 → kd x = 0 := fun x q => by rcases q with e | e <;> subst e <;> rfl
  have hB : Bdc (A 1) (A 0 2).toNat (A 0 20) d := ⟨by omega, fun i hi => by have := qN.2 i (by omega); omega, qk, hd⟩
  have hx : Tx (A 1) (A 0 2).toNat ζ := ⟨by rw [a5]; omega, fun i hi => a6 i (by omega)⟩
  unfold g_X11_choice g_X11_choice_51
  refine ok_rk r2 (kd0 d hd') (ok_bind (s_readC hB hx a1) (fun q ⟨e1, e2, e3⟩ => ?_))
  have hX : chX A = spL (A 1) (A 0 2).toNat (A 0 20) ((A 0 2).toNat + 1) 0 dr0 := rfl
  rw [← hX] at e1 e3
  have z : ∀ x y, ¬ (x = 27 ∧ 1 ≤ y ∧ y ≤ 4) → ¬ (x = 29 ∧ (y = 1 ∨ y = 2)) → ¬ (d ≤ x ∧ x ≤ d + 9) → (zI q.2 27 1 0).1 x y = ζ.1 x y := fun x y g1 g2 g3 => by rw [zI_1, if_neg (by omega), (e2.1 x y (by unfold Wcc; omega)).1]
  have zl : ∀ x y, ¬ (x = 27 ∧ 1 ≤ y ∧ y ≤ 4) → ¬ (x = 29 ∧ (y = 1 ∨ y = 2)) → ¬ (d ≤ x ∧ x ≤ d + 9) → (zI q.2 27 1 0).2.1 x y = ζ.2.1 x y := fun x y g1 g2 g3 => (e2.1 x y (by unfold Wcc; omega)).2
  have zr : (zI q.2 27 1 0).2.2 = ζ.2.2 := e2.2
  have z27 : (zI q.2 27 1 0).1 27 1 = 0 := by rw [zI_1, if_pos ⟨rfl, rfl⟩]
  have zch : (chX A).1 = 0 → Ch (chX A).2 (zI q.2 27 1 0) d := fun e => ch_fx (e3 e) (fun x y g1 g2 => by rw [zI_1, if_neg (by omega)])
  generalize zI q.2 27 1 0 = ζ2 at z zl zr z27 zch ⊢
  -- what does not hang on the choice
  have rest : ∀ ζ3 : ZS, (∀ x y, x ≠ 26 ∨ (y ≠ 18) → ζ3.1 x y = ζ2.1 x y) → ζ3.2.1 = ζ2.2.1 → (∃ c d, cell2 c ∧ cell2 d ∧ c ≠ d ∧ ζ3.2.2 26 14 = some c ∧ ζ3.2.2 26 15 = some d ∧ Ch B ζ3 c) → (∀ t, t < 8 → told B t = told A t) → Cr B ζ3 := fun ζ3 w _ hcc ht => by
    refine ⟨hcc, ⟨?_, fun t m g1 g2 => ?_⟩, ?_, ?_, ?_, fun p hp => ?_, ?_, fun i hi => ?_, fun m hm => ?_⟩
    · rw [w _ _ (by omega), z _ _ (by omega) (by omega) (by omega), hth.1]
      congr 1
      exact msk_congr (fun i hi => (ht i hi).symm)
    · rw [w _ _ (by omega), z _ _ (by omega) (by omega) (by omega), o _ _ (by omega) (by omega)]; exact hth.2 t m g1 g2
    · rw [w _ _ (by omega), z _ _ (by omega) (by omega) (by omega), o _ _ (by omega) (by omega)]; exact a1
    · rw [w _ _ (by omega), z _ _ (by omega) (by omega) (by omega), o _ _ (by omega) (by omega)]; exact a2
    · rw [w _ _ (by omega), z _ _ (by omega) (by omega) (by omega), o _ _ (by omega) (by omega)]; exact a3
    · rw [o 0 24 (by omega) (by omega)] at hp
      rw [w _ _ (by omega), z _ _ (by omega) (by omega) (by omega), o _ _ (by omega) (by omega)]; exact a4 p hp
    · rw [w _ _ (by omega), z27, b2]
    · rw [b2] at hi; omega
    · rw [w _ _ (by omega), z _ _ (by omega) (by omega) (by omega)]; exact a7 m hm
  have told_s : ∀ t, t < 8 → told B t = told A t := fun t ht => by unfold told; rw [o 16 t (by omega) (by omega)]
  rw [e1, ← hv]
  have vb : r32 v := by have := chX_r hW; rw [← hv] at this; omega
  refine ok_gI vb.1 vb.2 (by omega) (by omega) (fun g => ?_) (fun g => ok_some ⟨rfl, ?_, fun x y hx26 => ⟨z x y (by omega) (by omega) (by omega), zl x y (by omega) (by omega) (by omega)⟩⟩)
  · have x0 : (chX A).1 = 0 := hv.symm.trans g
    obtain ⟨dok, dl⟩ : Dok (A 0 20) (chX A).2 ∧ DrL (chX A).2 B := by rcases br with ⟨_, a, b⟩ | ⟨a, _⟩; exact ⟨a, b⟩; exact absurd x0 a
    refine ok_rk (a := c) (by rw [zr]; exact r1) (kd0 c hc') (ok_rk (a := d) (by rw [zr]; exact r2) (kd0 d hd') (ok_some ⟨rfl, ⟨?_, ?_, fun g0 => ?_⟩, fun x y hx26 => ⟨?_, zl x y (by omega) (by omega) (by omega)⟩⟩))
    · refine rest _ (fun x y q => by rw [zI_1, if_neg (by omega)]; rfl) rfl ⟨d, c, hd, hc, fun e => hcd e.symm, ?_, ?_, ?_⟩ told_s
      · show (zR (zR ζ2 26 14 (some d)) 26 15 (some c)).2.2 26 14 = some d
        rw [zR_3, if_neg (by omega), zR_3, if_pos ⟨rfl, rfl⟩]
      · show (zR (zR ζ2 26 14 (some d)) 26 15 (some c)).2.2 26 15 = some c
        rw [zR_3, if_pos ⟨rfl, rfl⟩]
      · exact ch_dl dl (ch_fx (zch x0) (fun x y g1 g2 => by rw [zI_1, if_neg (by omega)]; rfl))
    · right; rw [zI_1, if_pos ⟨rfl, rfl⟩]
    · rw [zI_1, if_pos ⟨rfl, rfl⟩] at g0; omega
    · show (zI (zR (zR ζ2 26 14 (some d)) 26 15 (some c)) 26 18 1).1 x y = _
      rw [zI_1, if_neg (by omega)]
      exact z x y (by omega) (by omega) (by omega)
  · have x0 : (chX A).1 ≠ 0 := fun e => g (hv.trans e)
    have sl : Sl A B := by rcases br with ⟨a, _⟩ | ⟨_, b⟩; exact absurd a x0; exact b
    refine cls_sl hW.2.1 sl h (rest ζ2 (fun _ _ _ => rfl) rfl ⟨c, d, hc, hd, hcd, by rw [zr]; exact r1, by rw [zr]; exact r2, ch_sl hW.2.1 sl (ch_fx hch (fun x y g1 g2 => z x y (by omega) (by omega) (by omega)))⟩ told_s) (fun x y g => ⟨z x y (by unfold Wfo at g; omega) (by unfold Wfo at g; omega) (by unfold Wfo at g; omega), zl x y (by unfold Wfo at g; omega) (by unfold Wfo at g; omega) (by unfold Wfo at g; omega)⟩) (z 26 18 (by omega) (by omega) (by omega))
end
