/-! the reference reads: sayings, statements, all -/
section
variable {D : Nat → Nat → Int} {g i c d x y : Int}
theorem sd_9 : sayD D g i c d x y 9 0 = D 9 0 + 1 := by unfold sayD; rw [up_e, if_pos ⟨rfl, rfl⟩]
theorem sd_o {a b : Nat} (h : ¬ (a = 9 ∧ b = 0)) (h2 : b ≠ (D 9 0).toNat ∨ a < 10 ∨ 15 < a) : sayD D g i c d x y a b = D a b := by
  unfold sayD
  rw [up_e, if_neg h, up_e, if_neg (by omega), up_e, if_neg (by omega), up_e, if_neg (by omega), up_e, if_neg (by omega), up_e, if_neg (by omega), up_e, if_neg (by omega)]
theorem sd_n {n : Nat} (hn : (D 9 0).toNat = n) : sayD D g i c d x y 10 n = g ∧ sayD D g i c d x y 11 n = i ∧ sayD D g i c d x y 12 n = c ∧ sayD D g i c d x y 13 n = d ∧ sayD D g i c d x y 14 n = x ∧ sayD D g i c d x y 15 n = y := by
  unfold sayD
  rw [hn]
  refine ⟨?_, ?_, ?_, ?_, ?_, ?_⟩
  · rw [up_e, if_neg (by omega), up_e, if_neg (by omega), up_e, if_neg (by omega), up_e, if_neg (by omega), up_e, if_neg (by omega), up_e, if_neg (by omega), up_e, if_pos ⟨rfl, rfl⟩]
  · rw [up_e, if_neg (by omega), up_e, if_neg (by omega), up_e, if_neg (by omega), up_e, if_neg (by omega), up_e, if_neg (by omega), up_e, if_pos ⟨rfl, rfl⟩]
  · rw [up_e, if_neg (by omega), up_e, if_neg (by omega), up_e, if_neg (by omega), up_e, if_neg (by omega), up_e, if_pos ⟨rfl, rfl⟩]
  · rw [up_e, if_neg (by omega), up_e, if_neg (by omega), up_e, if_neg (by omega), up_e, if_pos ⟨rfl, rfl⟩]
  · rw [up_e, if_neg (by omega), up_e, if_neg (by omega), up_e, if_pos ⟨rfl, rfl⟩]
  · rw [up_e, if_neg (by omega), up_e, if_pos ⟨rfl, rfl⟩]
end
section
variable {s : Nat → Int} {N T p : Nat} {k : Int} {D : Nat → Nat → Int} {ζ ζ1 : ZS}
theorem dr_say {n : Nat} {g i c d x y : Int} (hn : D 9 0 = n) (h : DrR D ζ1) (h10 : ζ1.1 10 (12 + n) = g) (h11 : ζ1.1 11 (12 + n) = i) (h14 : ζ1.1 14 (12 + n) = x) (h5 : i = 5 → ζ1.1 12 (12 + n) = c ∧ ζ1.1 13 (12 + n) = d) (h6 : i = 6 ∨ i = 7 → ζ1.1 12 (12 + n) = c) (h15 : i ≠ 6 ∧ i ≠ 7 → ζ1.1 15 (12 + n) = y) : DrR (sayD D g i c d x y) (zI ζ1 9 1 (ζ1.1 9 1 + 1)) := by
  have en : (D 9 0).toNat = n := by omega
  have z : ∀ a b, a ≠ 9 → (zI ζ1 9 1 (ζ1.1 9 1 + 1)).1 a b = ζ1.1 a b := fun a b q => by rw [zI_1, if_neg (by omega)]
  refine ⟨fun m hm => ?_, ?_, fun j hj => ?_⟩
  · rw [z _ _ (by omega), z _ _ (by omega), z _ _ (by omega), sd_o (by omega) (by omega), sd_o (by omega) (by omega), sd_o (by omega) (by omega)]; exact h.1 m hm
  · rw [sd_9, zI_1, if_pos ⟨rfl, rfl⟩, h.2.1]
  · rw [sd_9] at hj
    rw [z _ _ (by omega), z _ _ (by omega), z _ _ (by omega), z _ _ (by omega), z _ _ (by omega), z _ _ (by omega)]
    by_cases e : j = n
    · subst e
      obtain ⟨a1, a2, a3, a4, a5, a6⟩ := sd_n (g := g) (i := i) (c := c) (d := d) (x := x) (y := y) en
      rw [a1, a2, a3, a4, a5, a6]
      exact ⟨h10, h11, h14, h5, h6, h15⟩
    · rw [sd_o (by omega) (by omega), sd_o (by omega) (by omega), sd_o (by omega) (by omega), sd_o (by omega) (by omega), sd_o (by omega) (by omega), sd_o (by omega) (by omega)]
      exact h.2.2 j (by omega)
theorem rs_put {n a : Nat} {v : Int} (hn : D 9 0 = n) (h : RSt s N T p D ζ ζ1) (h1 : 10 ≤ a) (h2 : a ≤ 15) : RSt s N T p D ζ (zI ζ1 a (12 + n) v) := by
  obtain ⟨a1, a2, ⟨t, a3, a4, a5⟩, a6⟩ := h
  exact ⟨fx_I a1 (by unfold Wpa; omega), by rw [zI_1, if_neg (by omega)]; exact a2, ⟨t, a3, by rw [zI_1, if_neg (by omega)]; exact a4, a5⟩, dr_same a6 (fun x y g1 g2 => by rw [zI_1, if_neg (by omega)])⟩
theorem s_rs293 {n : Nat} {g i c d x y : Int} (hn : D 9 0 = n) (h : RSt s N T p D ζ ζ1) (h10 : ζ1.1 10 (12 + n) = g) (h11 : ζ1.1 11 (12 + n) = i) (h14 : ζ1.1 14 (12 + n) = x) (h5 : i = 5 → ζ1.1 12 (12 + n) = c ∧ ζ1.1 13 (12 + n) = d) (h6 : i = 6 ∨ i = 7 → ζ1.1 12 (12 + n) = c) (h15 : i ≠ 6 ∧ i ≠ 7 → ζ1.1 15 (12 + n) = y) : Ok (g_X12_readSaying_293 ζ1) (RSt s N T p (sayD D g i c d x y) ζ) := by
  unfold g_X12_readSaying_293
  rw [show Int.toNat 1 = 1 from rfl]
  obtain ⟨a1, a2, ⟨t, a3, a4, a5⟩, a6⟩ := h
  exact ok_gk (by omega) (by omega) (ok_gk (by omega) (by omega) (ok_some ⟨fx_I a1 (by unfold Wpa; omega), by rw [zI_1, if_neg (by omega)]; exact a2, ⟨t, a3, by rw [zI_1, if_neg (by omega)]; exact a4, a5⟩, dr_say hn a6 h10 h11 h14 h5 h6 h15⟩))
theorem s_rs293F {v : Int} (h : FSt v ζ ζ1) : Ok (g_X12_readSaying_293 ζ1) (FSt v ζ) := by
  unfold g_X12_readSaying_293
  rw [show Int.toNat 1 = 1 from rfl]
  exact ok_gk (by omega) (by omega) (ok_gk (by omega) (by omega) (ok_some (fs_put h _ (by unfold Wpa; omega) (by omega))))
theorem s_rs210 (hT : Tb s N k T ζ) {n : Nat} {g i z : Int} (hn : D 9 0 = n) (hn2 : n < 12) (hz : z = 12 + (n : Int)) (hi : i = 6 ∨ i = 7) (h : RSt s N T p D ζ ζ1) (h10 : ζ1.1 10 (12 + n) = g) (h11 : ζ1.1 11 (12 + n) = i) : Ok (g_X12_readSaying_210 z ζ1) (Ren s N T (spB s N k g i p D) ζ) := by
  subst hz
  have hT1 := tb_fx hT h.1
  obtain ⟨k1, k2, k3⟩ := hT1.2.2.2.2.1
  unfold g_X12_readSaying_210 spB
  rw [k3, show Int.toNat (12 + (n : Int)) = 12 + n by omega]
  refine ok_bind (s_takeNumber hT h (by omega) (by omega)) (fun r hr => ok_gk (by omega) (by omega) ?_)
  rcases hr with ⟨f0, r1, r2, r3, r4, r5, r6⟩ | ⟨f0, r1, r2⟩
  · rw [if_neg (by omega)]
    refine ok_bind (s_takeNumber hT (rs_put (a := 14) (v := r.1) hn r5 (by omega) (by omega)) (by omega) (by omega)) (fun r' hr' => ok_gk (by omega) (by omega) ?_)
    rcases hr' with ⟨g0, g1, g2, g3, g4, g5, g6⟩ | ⟨g0, g1, g2⟩
    · rw [if_neg (by omega)]
      have z2 : ∀ a b, a ≠ 0 → a ≠ 14 → r'.2.1 a b = ζ1.1 a b := fun a b q1 q2 => by rw [g6 a b q1, zI_1, if_neg (by omega), r6 a b q1]
      refine ok_mono (s_rs293 (g := g) (i := i) (c := tV s N (tE s N p)) (d := 0) (x := tV s N p) (y := 0) hn (rs_put (a := 12) (v := r'.1) hn g5 (by omega) (by omega)) ?_ ?_ ?_ (fun q => by omega) (fun _ => ?_) (fun q => by omega)) (fun ζ' q => Or.inl ⟨rfl, q⟩)
      · rw [zI_1, if_neg (by omega), z2 _ _ (by omega) (by omega)]; exact h10
      · rw [zI_1, if_neg (by omega), z2 _ _ (by omega) (by omega)]; exact h11
      · rw [zI_1, if_neg (by omega), g6 _ _ (by omega), zI_1, if_pos ⟨rfl, rfl⟩]; exact r1
      · rw [zI_1, if_pos ⟨rfl, rfl⟩]; exact g1
    · rw [if_pos g0]
      exact ok_mono (s_rs293F (fs_put g2 _ (by unfold Wpa; omega) (by omega))) (fun ζ' q => Or.inr ⟨g0, q⟩)
  · rw [if_pos f0]
    have f1 := fs_put (x := 14) (y := 12 + n) r2 r.1 (by unfold Wpa; omega) (by omega)
    exact ok_beq (s_takeNumberF f1 _ _) (ok_gk (by omega) (by omega) (ok_mono (s_rs293F (fs_put f1 _ (by unfold Wpa; omega) (by omega))) (fun ζ' q => Or.inr ⟨f0, q⟩)))
theorem s_rs260 (hT : Tb s N k T ζ) {n : Nat} {g i z hi : Int} (hn : D 9 0 = n) (hn2 : n < 12) (hz : z = 12 + (n : Int)) (hh : r32 hi) (hi3 : i = 3 ∨ i = 4 ∨ i = 8) (h : RSt s N T p D ζ ζ1) (h10 : ζ1.1 10 (12 + n) = g) (h11 : ζ1.1 11 (12 + n) = i) : Ok (g_X12_readSaying_260 z hi ζ1) (Ren s N T (spP s N hi g i p D) ζ) := by
  subst hz
  unfold g_X12_readSaying_260 spP
  rw [show Int.toNat (12 + (n : Int)) = 12 + n by omega]
  refine ok_bind (s_takeNumber hT h (by omega) hh) (fun r hr => ok_gk (by omega) (by omega) (ok_gk (by omega) (by omega) ?_))
  rw [show (zI r.2 14 (12 + n) r.1).1 14 (12 + n) = r.1 by rw [zI_1, if_pos ⟨rfl, rfl⟩]]
  rcases hr with ⟨f0, r1, r2, r3, r4, r5, r6⟩ | ⟨f0, r1, r2⟩
  · rw [if_neg (by omega)]
    have vr := tV_2 r4
    refine ok_bind (s_takeOther hT (rs_put (a := 14) (v := r.1) hn r5 (by omega) (by omega)) (o := r.1) (by omega) hh) (fun r' ⟨hr', _⟩ => ok_gk (by omega) (by omega) ?_)
    rw [r1] at hr'
    rcases hr' with ⟨g0, g1, g2, g3, g4, g5, g6⟩ | ⟨g0, g1, g2⟩
    · rw [if_neg (by omega)]
      have z2 : ∀ a b, a ≠ 0 → a ≠ 14 → r'.2.1 a b = ζ1.1 a b := fun a b q1 q2 => by rw [g6 a b q1, zI_1, if_neg (by omega), r6 a b q1]
      refine ok_mono (s_rs293 (g := g) (i := i) (c := 0) (d := 0) (x := tV s N p) (y := tV s N (tE s N p)) hn (rs_put (a := 15) (v := r'.1) hn g5 (by omega) (by omega)) ?_ ?_ ?_ (fun q => by omega) (fun q => by omega) (fun _ => ?_)) (fun ζ' q => Or.inl ⟨rfl, q⟩)
      · rw [zI_1, if_neg (by omega), z2 _ _ (by omega) (by omega)]; exact h10
      · rw [zI_1, if_neg (by omega), z2 _ _ (by omega) (by omega)]; exact h11
      · rw [zI_1, if_neg (by omega), g6 _ _ (by omega), zI_1, if_pos ⟨rfl, rfl⟩]
      · rw [zI_1, if_pos ⟨rfl, rfl⟩]; exact g1
    · rw [if_pos g0]
      exact ok_mono (s_rs293F (fs_put g2 _ (by unfold Wpa; omega) (by omega))) (fun ζ' q => Or.inr ⟨g0, q⟩)
  · rw [if_pos f0]
    have f1 := fs_put (x := 14) (y := 12 + n) r2 r.1 (by unfold Wpa; omega) (by omega)
    exact ok_beq (s_takeOtherF f1 _ _) (ok_gk (by omega) (by omega) (ok_mono (s_rs293F (fs_put f1 _ (by unfold Wpa; omega) (by omega))) (fun ζ' q => Or.inr ⟨f0, q⟩)))
theorem s_rsEnd (hT : Tb s N k T ζ) {n m : Nat} {g : Int} (hg : r32 g) (hn : D 9 0 = n) (hn2 : n < 12) (h : RSt s N T p D ζ ζ1) : Ok (g_X12_readSaying_55 g (m + 1) (wix s N p) 9 ζ1) (Ren s N T (spS s N k g p D) ζ) := by
  have hT1 := tb_fx hT h.1
  obtain ⟨k1, k2, k3⟩ := hT1.2.2.2.2.1
  have wr : wix s N p = -1 ∨ (tK s N p = 1 ∧ (wix s N p = 3 ∨ wix s N p = 4 ∨ wix s N p = 5 ∨ wix s N p = 6 ∨ wix s N p = 7 ∨ wix s N p = 8)) := by
    unfold wix
    repeat' split
    all_goals first | (rename_i c; exact Or.inr ⟨c.1, by omega⟩) | exact Or.inl rfl
  generalize ew : wix s N p = i at wr
  unfold g_X12_readSaying_55
  refine ok_gI (by omega) (by omega) (by omega) (by omega) (fun _ => ok_gI (by omega) (by omega) (by omega) (by omega) (fun c => ?_) (fun c => ?_)) (fun q => by omega)
  · obtain ⟨w1, wi⟩ : tK s N p = 1 ∧ (i = 3 ∨ i = 4 ∨ i = 5 ∨ i = 6 ∨ i = 7 ∨ i = 8) := by rcases wr with e | e; omega; exact e
    have e91 : (zI ζ1 0 7 (ζ1.1 0 7 + 1)).1 9 (Int.toNat 1) = n := by rw [zI_1, if_neg (by omega)]; exact h.2.2.2.2.1.trans hn
    rw [e91, show Int.toNat (12 + (n : Int)) = 12 + n by omega]
    have r1 := rs_put (a := 11) (v := i) hn (rs_put (a := 10) (v := g) hn (rs_next hT h (by omega)) (by omega) (by omega)) (by omega) (by omega)
    have x10 : (zI (zI (zI ζ1 0 7 (ζ1.1 0 7 + 1)) 10 (12 + n) g) 11 (12 + n) i).1 10 (12 + n) = g := by rw [zI_1, if_neg (by omega), zI_1, if_pos ⟨rfl, rfl⟩]
    have x11 : (zI (zI (zI ζ1 0 7 (ζ1.1 0 7 + 1)) 10 (12 + n) g) 11 (12 + n) i).1 11 (12 + n) = i := by rw [zI_1, if_pos ⟨rfl, rfl⟩]
    have x20 := (tb_fx hT r1.1).2.2.2.2.1.2.2
    generalize zI (zI (zI ζ1 0 7 (ζ1.1 0 7 + 1)) 10 (12 + n) g) 11 (12 + n) i = ζ2 at r1 x10 x11 x20
    unfold spS
    rw [ew, if_neg (by omega)]
    refine ok_gk (by omega) (by omega) (ok_gk (by omega) (by omega) (ok_gk (by omega) (by omega) (ok_gI (by omega) (by omega) (by omega) (by omega) (fun c5 => ?_) (fun c5 => ?_))))
    · rw [if_pos c5]
      unfold spF
      subst c5
      generalize tE s N p = p2 at r1 ⊢
      refine ok_bind (s_takeNumber hT r1 (by omega) (by omega)) (fun r hr => ok_gk (by omega) (by omega) ?_)
      rcases hr with ⟨f0, f1, f2, f3, f4, f5, f6⟩ | ⟨f0, f1, f2⟩
      · rw [if_neg (show ¬ tnF s N 1 100 p2 ≠ 0 by omega)]
        have r2 := rs_put (a := 12) (v := r.1) hn f5 (by omega) (by omega)
        rw [(tb_fx hT r2.1).2.2.2.2.1.2.2]
        refine ok_bind (s_takeNumber hT r2 (by omega) (by omega)) (fun r' hr' => ok_gk (by omega) (by omega) ?_)
        rcases hr' with ⟨g0, g1, g2, g3, g4, g5, g6⟩ | ⟨g0, g1, g2⟩
        · rw [if_neg (show ¬ tnF s N 0 (k - 1) (tE s N p2) ≠ 0 by omega)]
          have r3 := rs_put (a := 14) (v := r'.1) hn g5 (by omega) (by omega)
          refine ok_bind (s_takeNumber hT r3 (by omega) (by omega)) (fun r'' hr'' => ok_gk (by omega) (by omega) (ok_gk (by omega) (by omega) ?_))
          rcases hr'' with ⟨j0, j1, j2, j3, j4, j5, j6⟩ | ⟨j0, j1, j2⟩
          · rw [if_neg (show ¬ tnF s N 1 100 (tE s N (tE s N p2)) ≠ 0 by omega)]
            have r4 := rs_put (a := 13) (v := r''.1) hn j5 (by omega) (by omega)
            have e14 : (zI r''.2 13 (12 + n) r''.1).1 14 (12 + n) = tV s N (tE s N p2) := by rw [zI_1, if_neg (by omega), j6 _ _ (by omega), zI_1, if_pos ⟨rfl, rfl⟩]; exact g1
            rw [(tb_fx hT r4.1).2.2.2.2.1.2.2, e14]
            refine ok_bind (s_takeOther hT r4 (o := tV s N (tE s N p2)) (by omega) (by omega)) (fun r3 ⟨hr3, _⟩ => ok_gk (by omega) (by omega) ?_)
            rcases hr3 with ⟨l0, l1, l2, l3, l4, l5, l6⟩ | ⟨l0, l1, l2⟩
            · rw [if_neg (show ¬ toF s N (tV s N (tE s N p2)) (k - 1) (tE s N (tE s N (tE s N p2))) ≠ 0 by omega)]
              refine ok_mono (s_rs293 (g := g) (i := 5) (c := tV s N p2) (d := tV s N (tE s N (tE s N p2))) (x := tV s N (tE s N p2)) (y := tV s N (tE s N (tE s N (tE s N p2)))) hn (rs_put (a := 15) (v := r3.1) hn l5 (by omega) (by omega)) ?_ ?_ ?_ (fun _ => ⟨?_, ?_⟩) (fun q => by omega) (fun _ => ?_)) (fun ζ' q => Or.inl ⟨rfl, q⟩)
              · rw [zI_1, if_neg (by omega), l6 _ _ (by omega), zI_1, if_neg (by omega), j6 _ _ (by omega), zI_1, if_neg (by omega), g6 _ _ (by omega), zI_1, if_neg (by omega), f6 _ _ (by omega)]; exact x10
              · rw [zI_1, if_neg (by omega), l6 _ _ (by omega), zI_1, if_neg (by omega), j6 _ _ (by omega), zI_1, if_neg (by omega), g6 _ _ (by omega), zI_1, if_neg (by omega), f6 _ _ (by omega)]; exact x11
              · rw [zI_1, if_neg (by omega), l6 _ _ (by omega)]; exact e14
              · rw [zI_1, if_neg (by omega), l6 _ _ (by omega), zI_1, if_neg (by omega), j6 _ _ (by omega), zI_1, if_neg (by omega), g6 _ _ (by omega), zI_1, if_pos ⟨rfl, rfl⟩]; exact f1
              · rw [zI_1, if_neg (by omega), l6 _ _ (by omega), zI_1, if_pos ⟨rfl, rfl⟩]; exact j1
              · rw [zI_1, if_pos ⟨rfl, rfl⟩]; exact l1
            · rw [if_pos l0]
              exact ok_mono (s_rs293F (fs_put l2 _ (by unfold Wpa; omega) (by omega))) (fun ζ' q => Or.inr ⟨l0, q⟩)
          · rw [if_pos j0]
            have k1 := fs_put (x := 13) (y := 12 + n) j2 r''.1 (by unfold Wpa; omega) (by omega)
            exact ok_beq (s_takeOtherF k1 _ _) (ok_gk (by omega) (by omega) (ok_mono (s_rs293F (fs_put k1 _ (by unfold Wpa; omega) (by omega))) (fun ζ' q => Or.inr ⟨j0, q⟩)))
        · rw [if_pos g0]
          have k1 := fs_put (x := 14) (y := 12 + n) g2 r'.1 (by unfold Wpa; omega) (by omega)
          have k2 := fs_put (x := 13) (y := 12 + n) k1 0 (by unfold Wpa; omega) (by omega)
          exact ok_beq (s_takeNumberF k1 _ _) (ok_gk (by omega) (by omega) (ok_gk (by omega) (by omega) (ok_beq (s_takeOtherF k2 _ _) (ok_gk (by omega) (by omega) (ok_mono (s_rs293F (fs_put k2 _ (by unfold Wpa; omega) (by omega))) (fun ζ' q => Or.inr ⟨g0, q⟩))))))
      · rw [if_pos f0]
        have k0 := fs_put (x := 12) (y := 12 + n) f2 r.1 (by unfold Wpa; omega) (by omega)
        have k1 := fs_put (x := 14) (y := 12 + n) k0 0 (by unfold Wpa; omega) (by omega)
        have k2 := fs_put (x := 13) (y := 12 + n) k1 0 (by unfold Wpa; omega) (by omega)
        exact ok_beq (s_takeNumberF k0 _ _) (ok_gk (by omega) (by omega) (ok_beq (s_takeNumberF k1 _ _) (ok_gk (by omega) (by omega) (ok_gk (by omega) (by omega) (ok_beq (s_takeOtherF k2 _ _) (ok_gk (by omega) (by omega) (ok_mono (s_rs293F (fs_put k2 _ (by unfold Wpa; omega) (by omega))) (fun ζ' q => Or.inr ⟨f0, q⟩))))))))
    · rw [if_neg c5]
      refine ok_gI (by omega) (by omega) (by omega) (by omega) (fun c6 => ?_) (fun c6 => ok_gI (by omega) (by omega) (by omega) (by omega) (fun c7 => ?_) (fun c7 => ?_))
      · rw [if_pos (Or.inl c6)]
        exact s_rs210 hT hn hn2 rfl (Or.inl c6) r1 x10 x11
      · rw [if_pos (Or.inr c7)]
        exact s_rs210 hT hn hn2 rfl (Or.inr c7) r1 x10 x11
      · rw [if_neg (by omega)]
        refine ok_gI (by omega) (by omega) (by omega) (by omega) (fun c8 => ?_) (fun c8 => ?_)
        · rw [if_pos c8]
          exact s_rs260 hT hn hn2 rfl (by omega) (Or.inr (Or.inr c8)) r1 x10 x11
        · rw [if_neg c8, x20]
          exact s_rs260 hT hn hn2 rfl (by omega) (by omega) r1 x10 x11
  · unfold spS
    rw [ew, if_pos (by omega)]
    exact ok_bind (s_wrong hT h (by omega) (by omega)) (fun q hq => ok_some (Or.inr ⟨show 1 + 16 * (skp s N p : Int) ≠ 0 by omega, hq⟩))
end
