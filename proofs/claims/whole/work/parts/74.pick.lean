/-! the fewest of some rows: the class -/
/-- of a call of the class that may set its picker's rows anew: its answer, what stays, and the reference's cells as they were -/
def CPw (A : Nat → Nat → Int) (ζ : ZS) (Q : Int → Prop) (r : Int × ZS) : Prop := Q r.1 ∧ Cls A r.2 ∧ ∀ x y, x < 26 → r.2.1 x y = ζ.1 x y ∧ r.2.2.1 x y = ζ.2.1 x y
theorem cp_w {A : Nat → Nat → Int} {ζ : ZS} {Q : Int → Prop} {r : Int × ZS} (h : CP A ζ Q r) : CPw A ζ Q r := ⟨h.1, h.2.1, fun x y hx => h.2.2.1 x y (by show ¬ 26 ≤ x; omega)⟩
theorem cs_implies (ζ : ZS) (c e g : Nat) {k q : Nat} {X : V4 → Prop} {r gg : V4} (h : Cs ζ c k X q) (hq : q ≤ 19) (hl : ln e = 4) (hrow : ∀ m, m < 4 → ζ.1 e m = r m) (hbd : bd r) (hlg : ln g = 4) (hrg : ∀ m, m < 4 → ζ.1 g m = gg m) (hbg : bd gg) : Ok (g_X1_impliesWith c e g ζ) (fun x => x.2 = ζ ∧ ∃ p : Bool, x.1 = bi p ∧ (p = true ↔ ∀ w, X w → 0 ≤ dt r w → 0 ≤ dt gg w)) := by
  obtain ⟨R, n, ρ, h1, h2, h3, h4⟩ := h
  have b1 : bd (fun m => ζ.1 e m) := fun m hm => by dsimp only; rw [hrow m hm]; exact hbd m hm
  have b2 : bd (fun m => ζ.1 g m) := fun m hm => by dsimp only; rw [hrg m hm]; exact hbg m hm
  have d1 : ∀ w, dt (fun m => ζ.1 e m) w = dt r w := fun w => dt_e4l hrow
  have d2 : ∀ w, dt (fun m => ζ.1 g m) w = dt gg w := fun w => dt_e4l hrg
  have n42 := cs_44 h1 h2 h3 hq
  refine ok_mono (s_impliesWith ζ c e g h1 h2 (by omega) hl b1 hlg b2) (fun x ⟨x1, x2, x3⟩ => ⟨x1, ?_⟩)
  have fin : (∀ x, InC (Ak k R ρ) x → 0 ≤ dt (fun m => ζ.1 e m) x → 0 ≤ dt (fun m => ζ.1 g m) x) ↔ ∀ w, X w → 0 ≤ dt r w → 0 ≤ dt gg w := by
    constructor
    · intro a w hw hd
      have := a w ((h4 w).mpr hw)
      rw [d1, d2] at this
      exact this hd
    · intro a w hw hd
      rw [d1] at hd
      rw [d2]
      exact a w ((h4 w).mp hw) hd
  rcases x2 with x2 | x2
  · exact ⟨false, x2, ⟨fun q => (by cases q), fun q => (by have := x3.mpr (fin.mpr q); omega)⟩⟩
  · exact ⟨true, x2, ⟨fun _ => fin.mp (x3.mp x2), fun _ => rfl⟩⟩
/-- what of a set keeps the rows of P -/
def XP (X : V4 → Prop) (row : Nat → V4) (N : Nat) (P : Nat → Bool) (w : V4) : Prop := X w ∧ ∀ r, r < N → P r = true → 0 ≤ dt (row r) w
theorem xp_ins {X : V4 → Prop} {row : Nat → V4} {N : Nat} {P : Nat → Bool} {s : Nat} (hs : s < N) {w : V4} : (XP X row N P w ∧ 0 ≤ dt (row s) w) ↔ XP X row N (ins P s) w := by
  unfold XP ins
  constructor
  · rintro ⟨⟨a, b⟩, c⟩
    refine ⟨a, fun r hr hp => ?_⟩
    rw [Bool.or_eq_true, decide_eq_true_eq] at hp
    rcases hp with g | g
    · exact b r hr g
    · subst g; exact c
  · rintro ⟨a, b⟩
    exact ⟨⟨a, fun r hr hp => b r hr (by rw [hp]; rfl)⟩, b s hs (by simp)⟩
theorem xpz_0 {X : V4 → Prop} {row : Nat → V4} {N : Nat} {w : V4} : XP X row N (fun _ => false) w ↔ X w := ⟨fun h => h.1, fun h => ⟨h, fun r _ hp => by cases hp⟩⟩
/-- the picker's rows, which may be used, and the goal -/
def Pk (ζ : ZS) (c g : Nat) (U : Nat → Bool) (N : Nat) (row : Nat → V4) (goal : V4) : Prop := ζ.2.2 141 1 = some c ∧ (c = 51 ∧ N = 12 ∨ c = 126 ∧ N = 8) ∧ ζ.1 141 2 = ((msk U N : Nat) : Int) ∧ (∀ r, r < N → U r = true → (∀ m, m < 4 → ζ.1 (c + 1 + r) m = row r m) ∧ bd (row r)) ∧ (g = 147 ∨ g = 148) ∧ (∀ m, m < 4 → ζ.1 g m = goal m) ∧ bd goal
theorem pk_fx {ζ ζ' : ZS} {c g N : Nat} {U : Nat → Bool} {row : Nat → V4} {goal : V4} (h : Pk ζ c g U N row goal) (hf : Fx Wst ζ ζ') : Pk ζ' c g U N row goal := by
  obtain ⟨h1, h2, h3, h4, h5, h6, h7⟩ := h
  have e : ∀ x y, ¬ Wst x y → ζ'.1 x y = ζ.1 x y := fun x y q => (hf.1 x y q).1
  refine ⟨by rw [hf.2]; exact h1, h2, by rw [e _ _ (by unfold Wst; omega)]; exact h3, fun r hr hu => ⟨fun m hm => ?_, (h4 r hr hu).2⟩, h5, fun m hm => ?_, h7⟩
  · rw [e _ _ (by unfold Wst; omega)]; exact (h4 r hr hu).1 m hm
  · rw [e _ _ (by unfold Wst; omega)]; exact h6 m hm
def Wdp (d : Nat) (x _y : Nat) : Prop := 73 + 4 * d + 3 ≤ x ∧ x ≤ 124
theorem wdp_st {d : Nat} {ζ ζ' : ZS} (h : Fx (Wdp d) ζ ζ') : Fx Wst ζ ζ' := fx_mono h (fun x y q => by unfold Wdp at q; unfold Wst; omega)
noncomputable def Dg' (X : V4 → Prop) (row : Nat → V4) (N : Nat) (goal : V4) (P : Nat → Bool) : Bool := cdec (Al (XP X row N P) goal)
def PkP (ζ : ZS) (dp N : Nat) (o : Option (Nat → Bool)) (r : Int × ZS) : Prop := Fx (Wdp dp) ζ r.2 ∧ match o with
  | some q => r.1 = ((msk q N : Nat) : Int)
  | none => r.1 = -1
theorem ln_pk {c N r : Nat} (h : c = 51 ∧ N = 12 ∨ c = 126 ∧ N = 8) (hr : r < N) : kd c = 18 ∧ ln c = N ∧ ln (c + 1 + r) = 4 := by
  have a : kd 51 = 18 ∧ ln 51 = 12 := by decide
  have b : kd 126 = 18 ∧ ln 126 = 8 := by decide
  rcases h with ⟨h1, h2⟩ | ⟨h1, h2⟩ <;> subst h1 <;> subst h2
  · exact ⟨a.1, a.2, ((kd_c18 51 a.1).1 r (by rw [a.2]; exact hr)).2⟩
  · exact ⟨b.1, b.2, ((kd_c18 126 b.1).1 r (by rw [b.2]; exact hr)).2⟩
theorem s_pick {c g N k q : Nat} {U : Nat → Bool} {row : Nat → V4} {goal : V4} {X : V4 → Prop} : ∀ (D l : Nat), l < D → ∀ (dp fr : Nat) (P : Nat → Bool) (z y x : Int) (ζ : ZS), z = dp → y = fr → x = l → dp + l ≤ 12 → q + dp + l ≤ 18 → fr ≤ N → Pk ζ c g U N row goal → Cs ζ (73 + 4 * dp) k (XP X row N P) (q + dp) → Ok (g_X5_pick D z y x g ζ) (PkP ζ dp N (fsp (Dg' X row N goal) U N l fr P)) := by
  intro D
  induction D with
  | zero => intro l h; omega
  | succ D ihD =>
    intro l hl dp fr P z y x ζ hz hy hx hdp hq hfr hpk hcs
    subst hz; subst hy; subst hx
    have pk0 := hpk
    obtain ⟨h1, h2, h3, h4, h5, h6, h7⟩ := hpk
    have lng : ln g = 4 := by rcases h5 with e | e <;> subst e <;> rfl
    have l72 : ln 72 = 13 := rfl
    have N12 : N ≤ 12 ∧ 0 < N := by omega
    have kc := ln_pk h2 N12.2
    unfold g_X5_pick g_X5_pick_0
    cases l with
    | zero =>
      refine ok_gI (by omega) (by omega) (by omega) (by omega) (fun q => by omega) (fun _ => ?_)
      unfold g_X5_pick_23 fsp
      rw [show Int.toNat (dp : Int) = dp by omega]
      refine ok_gk (by omega) (by omega) (ok_bind (cs_keeps ζ (73 + 4 * dp) g hcs (by omega) lng h6 h7) (fun r ⟨r1, p, r2, r3⟩ => ?_))
      rw [r2, r1]
      refine ok_bi (fun e => ok_some ⟨fx_refl _ _, ?_⟩) (fun e => ok_some ⟨fx_refl _ _, ?_⟩)
      · have d : Dg' X row N goal P = false := cdec_f.mpr (fun q => by rw [r3.mpr q] at e; cases e)
        rw [d, if_neg (by decide)]
      · have d : Dg' X row N goal P = true := cdec_iff.mpr (r3.mp e)
        rw [d, if_pos rfl]
        show (0 : Int) = ((msk (fun _ => false) N : Nat) : Int)
        rw [msk_0 _ (fun _ _ => rfl)]; rfl
    | succ l =>
      refine ok_gI (by omega) (by omega) (by omega) (by omega) (fun _ => ?_) (fun q => by omega)
      unfold fsp
      have key : ∀ (n : Nat) (w : Int) (s : Nat) (ζ1 : ZS), w = s → s ≤ N → N - s < n → Fx (Wdp dp) ζ ζ1 → Ok (g_X5_pick_27 (g_X5_pick D) (dp : Int) ((l + 1 : Nat) : Int) g n w ζ1) (PkP ζ dp N (lop U (fun s => (fsp (Dg' X row N goal) U N l (s + 1) (ins P s)).map (fun q => ins q s)) (N - s) s)) := by
        intro n
        induction n with
        | zero => intro _ _ _ _ _ h; omega
        | succ n ih =>
          intro w s ζ1 hw hs hn hf
          subst hw
          have pk1 := pk_fx pk0 (wdp_st hf)
          obtain ⟨k1, k2, k3, k4, k5, k6, k7⟩ := id pk1
          have cs1 : Cs ζ1 (73 + 4 * dp) k (XP X row N P) (q + dp) := cs_fx hcs (fun x y g1 g2 => hf.1 x y (by unfold Wdp; omega))
          unfold g_X5_pick_27 g_X5_pick_75
          refine ok_rk k1 kc.1 ?_
          rw [kc.2.1]
          refine ok_gI (by omega) (by omega) (by omega) (by omega) (fun g0 => ?_) (fun g0 => ?_)
          · rw [show N - s = 0 by omega]
            exact ok_some ⟨hf, rfl⟩
          · rw [show N - s = (N - (s + 1)) + 1 by omega]
            refine bit_test k3 rfl (by omega) (by omega) (fun e => ?_) (fun e => ?_)
            · rw [lop_skip e]
              exact ih _ (s + 1) ζ1 (by omega) (by omega) (by omega) hf
            · have rs := k4 s (by omega) e
              have lr := (ln_pk h2 (r := s) (by omega)).2.2
              -- what comes back for this row
              have back : Ok (g_X5_pickBehind (g_X5_pick D) (dp : Int) (s : Int) ((l + 1 : Nat) : Int) g ζ1) (fun r => Fx (Wdp dp) ζ1 r.2 ∧ match fsp (Dg' X row N goal) U N l (s + 1) (ins P s) with | some q => r.1 = ((msk q N : Nat) : Int) | none => r.1 = -1) := by
                unfold g_X5_pickBehind g_X5_pickBehind_30
                rw [show Int.toNat (dp : Int) = dp by omega, show Int.toNat (s : Int) = s by omega, show Int.toNat ((dp : Int) + 1) = dp + 1 by omega, l72]
                refine ok_gI (by omega) (by omega) (by omega) (by omega) (fun g1 => ?_) (fun g1 => ?_)
                · have el : l = 0 := by omega
                  subst el
                  refine ok_gk (by omega) (by omega) (ok_rk k1 kc.1 ?_)
                  rw [kc.2.1]
                  refine ok_gk (by omega) (by omega) (ok_bind (cs_implies ζ1 (73 + 4 * dp) (c + 1 + s) g cs1 (by omega) lr rs.1 rs.2 lng k6 k7) (fun r ⟨r1, p, r2, r3⟩ => ?_))
                  rw [r2, r1]
                  have ai : (∀ w, XP X row N P w → 0 ≤ dt (row s) w → 0 ≤ dt goal w) ↔ Al (XP X row N (ins P s)) goal := by
                    constructor
                    · intro a w hw
                      have := (xp_ins (s := s) (by omega)).mpr hw
                      exact a w this.1 this.2
                    · intro a w hw hd
                      exact a w ((xp_ins (s := s) (by omega)).mp ⟨hw, hd⟩)
                  unfold fsp
                  refine ok_bi (fun e2 => ok_some ⟨fx_refl _ _, ?_⟩) (fun e2 => ok_some ⟨fx_refl _ _, ?_⟩)
                  · have d : Dg' X row N goal (ins P s) = false := cdec_f.mpr (fun q => by rw [r3.mpr (ai.mpr q)] at e2; cases e2)
                    rw [d, if_neg (by decide)]
                  · have d : Dg' X row N goal (ins P s) = true := cdec_iff.mpr (ai.mp (r3.mp e2))
                    rw [d, if_pos rfl]
                    show (0 : Int) = ((msk (fun _ => false) N : Nat) : Int)
                    rw [msk_0 _ (fun _ _ => rfl)]; rfl
                · refine ok_gI (by omega) (by omega) (by omega) (by omega) (fun _ => ok_gk (by omega) (by omega) (ok_gk (by omega) (by omega) (ok_rk k1 kc.1 ?_))) (fun g2 => by omega)
                  rw [kc.2.1]
                  refine ok_gk (by omega) (by omega) (ok_bind (cs_cut ζ1 (73 + 4 * (dp + 1)) (73 + 4 * dp) (c + 1 + s) cs1 (by omega) (by omega) lr (by omega) (by omega) rs.1 rs.2) (fun ζ2 ⟨c2, f2⟩ => ?_))
                  have c2' : Cs ζ2 (73 + 4 * (dp + 1)) k (XP X row N (ins P s)) (q + (dp + 1)) := cs_congr c2 (fun w => xp_ins (by omega))
                  have f2' : Fx (Wdp dp) ζ1 ζ2 := fx_mono f2 (fun x y q => by unfold Wc at q; unfold Wdp; omega)
                  refine ok_bind (ihD l (by omega) (dp + 1) (s + 1) (ins P s) _ _ _ ζ2 (by omega) (by omega) (by omega) (by omega) (by omega) (by omega) (pk_fx pk1 (wdp_st f2')) c2') (fun r ⟨r1, r2⟩ => ok_some ⟨fx_trans f2' (fx_mono r1 (fun x y q => by unfold Wdp at *; omega)), r2⟩)
              refine ok_bind back (fun r ⟨r1, r2⟩ => ?_)
              have f3 := fx_trans hf r1
              cases ef : fsp (Dg' X row N goal) U N l (s + 1) (ins P s) with
              | none =>
                rw [ef] at r2
                have r2 : r.1 = -1 := r2
                rw [r2, lop_miss e (by rw [ef]; rfl)]
                exact ok_gI (by omega) (by omega) (by omega) (by omega) (fun _ => ih _ (s + 1) r.2 (by omega) (by omega) (by omega) f3) (fun g => absurd rfl g)
              | some qq =>
                rw [ef] at r2
                have r2 : r.1 = ((msk qq N : Nat) : Int) := r2
                have mb := msk_31 qq (n := N) (by omega)
                rw [r2, lop_hit (x := ins qq s) e (by rw [ef]; rfl)]
                refine ok_gI (by omega) (by omega) (by omega) (by omega) (fun g => by omega) (fun _ => ok_some ⟨f3, ?_⟩)
                show zor ((msk qq N : Nat) : Int) (zshl 1 (s : Int)) = ((msk (ins qq s) N : Nat) : Int)
                rw [z_in qq (by omega) (by omega)]; rfl
      exact key FU _ fr ζ rfl hfr (by rw [FU_e]; omega) (fx_refl _ _)
theorem s_fewest {c g N k q c1 M : Nat} {U : Nat → Bool} {row : Nat → V4} {goal : V4} {X : V4 → Prop} {ζ : ZS} {z : Int} (hz : z = M) (hM : M ≤ 4) (hq : q ≤ 12) (hc1 : c1 = 64 ∨ c1 = 68) (hpk : Pk ζ c g U N row goal) (hcs : Cs ζ c1 k X q) : Ok (g_X5_fewest c1 z g ζ) (fun r => Fx Wst ζ r.2 ∧ Qz (fz (Dg' X row N goal) U N (M + 1) 0) N 1 r.1) := by
  subst hz
  have e0 : Int.toNat 0 = 0 := rfl
  unfold g_X5_fewest
  rw [e0]
  refine ok_gk (by omega) (by omega) (ok_bind (cs_become ζ (73 + 4 * 0) c1 hcs (by omega) (by omega)) (fun ζ1 ⟨cb, fb⟩ => ?_))
  have fb' : Fx Wst ζ ζ1 := fx_mono fb (fun x y q => by unfold Wb at q; unfold Wst; omega)
  have key : ∀ (n : Nat) (w : Int) (j : Nat) (ζ2 : ZS), w = j → j ≤ M + 1 → M + 1 - j < n → Pk ζ2 c g U N row goal → Cs ζ2 (73 + 4 * 0) k (XP X row N (fun _ => false)) (q + 0) → Fx Wst ζ ζ2 → Ok (g_X5_fewest_13 (M : Int) g n w ζ2) (fun r => Fx Wst ζ r.2 ∧ Qz (fz (Dg' X row N goal) U N (M + 1 - j) j) N 1 r.1) := by
    intro n
    induction n with
    | zero => intro _ _ _ _ _ h; omega
    | succ n ih =>
      intro w j ζ2 hw hj hn hp hc hf
      subst hw
      unfold g_X5_fewest_13
      refine ok_gI (by omega) (by omega) (by omega) (by omega) (fun g0 => ?_) (fun g0 => ?_)
      · rw [show M + 1 - j = 0 by omega]
        exact ok_some ⟨hf, rfl⟩
      · rw [show M + 1 - j = (M + 1 - (j + 1)) + 1 by omega]
        refine ok_bind (s_pick DEP j (by rw [DEP_e]; omega) 0 0 (fun _ => false) _ _ _ ζ2 rfl rfl rfl (by omega) (by omega) (by omega) hp hc) (fun r ⟨r1, r2⟩ => ?_)
        have f3 := fx_trans hf (wdp_st r1)
        unfold fz
        cases ef : fsp (Dg' X row N goal) U N j 0 (fun _ => false) with
        | none =>
          rw [ef] at r2
          have r2 : r.1 = -1 := r2
          rw [r2]
          exact ok_gI (by omega) (by omega) (by omega) (by omega) (fun _ => ih _ (j + 1) r.2 (by omega) (by omega) (by omega) (pk_fx hp (wdp_st r1)) (cs_fx hc (fun x y g1 g2 => r1.1 x y (by unfold Wdp; omega))) f3) (fun g => absurd rfl g)
        | some qq =>
          rw [ef] at r2
          have r2 : r.1 = ((msk qq N : Nat) : Int) := r2
          have N12 : N ≤ 12 := by have := hp.2.1; omega
          have mb := msk_31 qq (n := N) (by omega)
          rw [r2]
          exact ok_gI (by omega) (by omega) (by omega) (by omega) (fun g => by omega) (fun _ => ok_some ⟨f3, rfl⟩)
  exact key FU 0 0 ζ1 rfl (by omega) (by rw [FU_e]; omega) (pk_fx hpk fb') (cs_congr cb (fun w => xpz_0.symm)) fb'
theorem s_sizeOrSet (ζ : ZS) {D : (Nat → Bool) → Bool} {U : Nat → Bool} {N f n0 : Nat} {v z : Int} (hN : N ≤ 24) (h : Qz (fz D U N f n0) N 1 v) (hz : 0 ≤ z ∧ z ≤ 1) : Ok (g_X11_sizeOrSet v z ζ) (fun r => r.2 = ζ ∧ Qz (fz D U N f n0) N z r.1) := by
  have fb : ∀ f n0 n q, fz D U N f n0 = some (n, q) → bc q N = n := by
    intro f
    induction f with
    | zero => intro n0 n q h; cases h
    | succ f ih =>
      intro n0 n q h
      unfold fz at h
      cases e : fsp D U N n0 0 (fun _ => false) with
      | none => rw [e] at h; exact ih _ _ _ h
      | some s => rw [e] at h; cases h; exact (fsp_bc e).1
  unfold g_X11_sizeOrSet g_X11_sizeOrSet_10 g_X11_sizeOrSet_18 g_J6_bitCount_0f7a4
  cases e : fz D U N f n0 with
  | none =>
    rw [e] at h
    have h : v = -1 := h
    subst h
    exact ok_gI (by omega) (by omega) (by omega) (by omega) (fun _ => ok_some ⟨rfl, rfl⟩) (fun g => absurd rfl g)
  | some p =>
    obtain ⟨n, q⟩ := p
    rw [e] at h
    have h : v = if (1 : Int) = 0 then (n : Int) else ((msk q N : Nat) : Int) := h
    rw [if_neg (by decide)] at h
    subst h
    have ml := msk_31 q (n := N) (by omega)
    refine ok_gI (by omega) (by omega) (by omega) (by omega) (fun g => by omega) (fun _ => ok_gI (by omega) (by omega) (by omega) (by omega) (fun g => ok_some ⟨rfl, ?_⟩) (fun g => ok_beq rfl (ok_some ⟨rfl, ?_⟩)))
    · show ((msk q N : Nat) : Int) = if z = 0 then (n : Int) else ((msk q N : Nat) : Int)
      rw [if_neg (by omega)]
    · show zbc ((msk q N : Nat) : Int) = if z = 0 then (n : Int) else ((msk q N : Nat) : Int)
      rw [if_pos (by omega), zbc_msk q hN, fb f n0 n q e]
theorem al_never {X : V4 → Prop} (hp : Xp X) : Al X (fun _ => -1) ↔ ¬ NV X := by
  have e : ∀ w : V4, dt (fun _ => -1) w = -(w 0 + w 1 + w 2 + w 3) := fun w => by simp only [dt]; omega
  constructor
  · rintro h ⟨w, hw, i, hi, hne⟩
    have a := h w hw
    rw [e] at a
    have b0 := hp w hw 0 (by omega)
    have b1 := hp w hw 1 (by omega)
    have b2 := hp w hw 2 (by omega)
    have b3 := hp w hw 3 (by omega)
    rcases (show i = 0 ∨ i = 1 ∨ i = 2 ∨ i = 3 by omega) with q | q | q | q <;> subst q <;> omega
  · intro h w hw
    rw [e]
    have z : ∀ i, i < 4 → w i = 0 := fun i hi => by
      apply Classical.byContradiction
      intro c
      exact h ⟨w, hw, i, hi, c⟩
    rw [z 0 (by omega), z 1 (by omega), z 2 (by omega), z 3 (by omega)]
    omega
/-- the rows of the sayings, of those that there are not null -/
def srz (A : Nat → Nat → Int) (s : Nat) : V4 := if (s : Int) < A 9 0 then sr A s else fun _ => 0
theorem xp_sc {A : Nat → Nat → Int} (hs : Ws A) {k : Nat} (hk : A 0 20 = k) {P : Nat → Bool} {w : V4} : XP (Aw k) (srz A) 12 P w ↔ Sc A P w := by
  have q9 := hs.1
  unfold XP Aw Sc srz
  constructor
  · rintro ⟨⟨a, b⟩, c⟩
    refine ⟨a, fun i hi hki => b i hi (by omega), fun s h1 h2 => ?_⟩
    have := c s (by omega) h2
    rw [if_pos h1] at this
    exact this
  · rintro ⟨a, b, c⟩
    refine ⟨⟨a, fun i hi hki => b i hi (by omega)⟩, fun s h1 h2 => ?_⟩
    split
    · exact c s (by assumption) h2
    · simp [dt]
theorem cf_among {A : Nat → Nat → Int} {ζ : ZS} (hs : Ws A) (h : Cf A ζ) (c : Nat) (v : Int) : Cf A (zI (zR ζ 141 1 (some c)) 141 2 v) := by
  obtain ⟨h1, h2, h3⟩ := h
  have e : ∀ x y, x ≠ 141 → (zI (zR ζ 141 1 (some c)) 141 2 v).1 x y = ζ.1 x y := fun x y q => by rw [zI_1, if_neg (by omega)]; rfl
  refine ⟨cr_fx h1 ⟨?_, ?_⟩ (fun x y g => e x y (by omega)), fr_sl hs (fun _ _ _ => rfl) h2 (fun x y g => ⟨e x y (by unfold Wfo at g; omega), rfl⟩), by rw [e _ _ (by omega)]; exact h3⟩
  · show (zR ζ 141 1 (some c)).2.2 26 14 = _
    rw [zR_3, if_neg (by omega)]
  · show (zR ζ 141 1 (some c)).2.2 26 15 = _
    rw [zR_3, if_neg (by omega)]
theorem among_r (ζ : ZS) (c : Nat) (v : Int) : (zI (zR ζ 141 1 (some c)) 141 2 v).2.2 141 1 = some c := by
  show (zR ζ 141 1 (some c)).2.2 141 1 = some c
  rw [zR_3, if_pos ⟨rfl, rfl⟩]
theorem among_2 (ζ : ZS) (c : Nat) (v : Int) : (zI (zR ζ 141 1 (some c)) 141 2 v).1 141 2 = v := by rw [zI_1, if_pos ⟨rfl, rfl⟩]
theorem among_e (ζ : ZS) (c : Nat) (v : Int) (x y : Nat) (h : x ≠ 141) : (zI (zR ζ 141 1 (some c)) 141 2 v).1 x y = ζ.1 x y := by rw [zI_1, if_neg (by omega)]; rfl
theorem pk_say {A : Nat → Nat → Int} {ζ : ZS} (hW : Wall A) (h : Cf A ζ) {g : Nat} {goal : V4} (hg : g = 147 ∨ g = 148) (hgo : ∀ m, m < 4 → ζ.1 g m = goal m) (hb : bd goal) : Pk (zI (zR ζ 141 1 (some 51)) 141 2 (ζ.1 50 4)) 51 g (hrd A) 12 (srz A) goal := by
  obtain ⟨b1, b2, b3, -⟩ := h.2.1
  refine ⟨among_r _ _ _, Or.inl ⟨rfl, rfl⟩, by rw [among_2]; exact b3, fun r hr hu => ?_, hg, fun m hm => by rw [among_e _ _ _ _ _ (by omega)]; exact hgo m hm, hb⟩
  have hr9 : (r : Int) < A 9 0 := by unfold hrd at hu; simp only [Bool.and_eq_true, decide_eq_true_eq] at hu; exact hu.1
  unfold srz
  rw [if_pos hr9]
  refine ⟨fun m hm => ?_, sr_bd hW.1 hW.2.1 hr9⟩
  rw [among_e _ _ _ _ _ (by omega), show 51 + 1 + r = 52 + r by omega]
  exact b2 r m hr9 hm
theorem nev_bd : bd (fun _ => -1) := fun m _ => by dsimp only; omega
theorem b_small {A : Nat → Nat → Int} {ζ : ZS} (h : Cls A ζ) (hW : Wall A) {z : Int} (hz : r32 z) : Ok (g_X11_small z ζ) (CPw A ζ (QSm A z)) := by
  have qk := hW.1.1
  obtain ⟨k, hk⟩ : ∃ k : Nat, A 0 20 = k := ⟨(A 0 20).toNat, by omega⟩
  unfold g_X11_small g_X11_small_21 g_X5_among
  refine ok_bind (s_fresh hW h) (fun ζ1 ⟨c1, f1⟩ => ok_beq (s_isPart ζ1 hz) (ok_bi (fun e => ok_some (cp_w ⟨Or.inr ⟨fun q => bd_f e q.1, rfl⟩, cf_cls c1, f1⟩)) (fun e => ?_)))
  have ez := bd_t e
  refine ok_bind (s_theyCan (A := A) (cf_fit c1 hk) (by omega)) (fun r ⟨r1, b, r2, r3⟩ => ?_)
  rw [r2, r1]
  refine ok_bi (fun e2 => ?_) (fun e2 => ok_some (cp_w ⟨Or.inr ⟨fun q => q.2 (r3.mp e2), rfl⟩, cf_cls c1, f1⟩))
  have hno : ¬ NV (Sc A (hrd A)) := fun q => by rw [r3.mpr q] at e2; cases e2
  refine ok_beq rfl ?_
  have ca := cf_among hW.2.1 c1 51 (ζ1.1 50 4)
  have pk := pk_say hW c1 (g := 148) (goal := fun _ => -1) (Or.inr rfl) (fun m hm => c1.1.2.2.2.2.2.2.2.2 m hm) nev_bd
  have ae := among_e ζ1 51 (ζ1.1 50 4)
  have al : ∀ x y, (zI (zR ζ1 141 1 (some 51)) 141 2 (ζ1.1 50 4)).2.1 x y = ζ1.2.1 x y := fun _ _ => rfl
  generalize zI (zR ζ1 141 1 (some 51)) 141 2 (ζ1.1 50 4) = ζa at ca pk ae al
  obtain ⟨-, ⟨_, _, _, k', hk', c64, -⟩, -⟩ := id ca
  have ek : k' = k := by omega
  subst ek
  have cs : Cs ζa 64 k' (Aw k') 0 := cs_whole (by omega) (by omega) c64
  refine ok_bind (s_fewest (M := 4) rfl (by omega) (by omega) (Or.inl rfl) pk cs) (fun r ⟨fr, hr⟩ => ?_)
  have eD : Dg' (Aw k') (srz A) 12 (fun _ => -1) = Dn A := by
    funext P
    unfold Dg' Dn
    congr 1
    apply propext
    have : XP (Aw k') (srz A) 12 P = Sc A P := by funext w; exact propext (xp_sc hW.2.1 hk)
    rw [this]
    exact al_never sc_xp
  rw [eD] at hr
  have e5 : fz (Dn A) (hrd A) 12 5 0 = fz (Dn A) (hrd A) 12 4 1 := by
    show (match fsp (Dn A) (hrd A) 12 0 0 (fun _ => false) with | some q => some (0, q) | none => fz (Dn A) (hrd A) 12 4 1) = _
    have d : Dn A (fun _ => false) = false := cdec_f.mpr (fun q => q ⟨un 0, ⟨fun i _ => by unfold un; split <;> omega, fun i hi hki => by unfold un; rw [if_neg (by omega)], fun s _ hs => by cases hs⟩, un_nv (by omega)⟩)
    have : fsp (Dn A) (hrd A) 12 0 0 (fun _ => false) = none := by unfold fsp; rw [d, if_neg (by decide)]
    rw [this]
  have hr' : Qz (fz (Dn A) (hrd A) 12 5 0) 12 1 r.1 := hr
  refine ok_bind (s_sizeOrSet r.2 (by omega) hr' ez) (fun q ⟨q1, q2⟩ => ok_some ⟨Or.inl ⟨⟨ez, hno⟩, by rw [← e5]; exact q2⟩, ?_, fun x y hx => ?_⟩)
  · rw [q1]
    exact cf_cls (cf_sc hW.2.1 ca (fx_mono fr (fun x y q => by unfold Wst at q; unfold Wsc; omega)))
  · rw [q1, (fr.1 x y (by unfold Wst; omega)).1, ae x y (by omega), (fr.1 x y (by unfold Wst; omega)).2, al]
    exact f1.1 x y (by show ¬ 26 ≤ x; omega)
theorem b_why {A : Nat → Nat → Int} {ζ : ZS} (h : Cls A ζ) (hW : Wall A) {x y z : Int} (hx : r32 x) (hy : r32 y) (hz : r32 z) : Ok (g_X11_why x y z ζ) (CPw A ζ (QWy A x y z)) := by
  have qk := hW.1.1
  obtain ⟨k, hk⟩ : ∃ k : Nat, A 0 20 = k := ⟨(A 0 20).toNat, by omega⟩
  unfold g_X11_why g_X11_why_31 g_X5_among
  refine ok_bind (s_fresh hW h) (fun ζ1 ⟨c1, f1⟩ => ok_beq (s_isPart ζ1 hz) (ok_bi (fun e => ok_some (cp_w ⟨Or.inr ⟨fun q => bd_f e q.1, rfl⟩, cf_cls c1, f1⟩)) (fun e => ?_)))
  have ez := bd_t e
  refine ok_bind (s_compare hW.1 c1.2.1.1 (cf_fit c1 hk) (by omega) (by omega) hx hy) (fun r ⟨r1, r2⟩ => ?_)
  have fs : Fx Wsc ζ1 r.2 := fx_mono r2 (fun x y q => by unfold We at q; unfold Wsc; omega)
  have c2 := cf_sc hW.2.1 c1 fs
  have f12 := fx_trans f1 (wsc_26 fs)
  have rb : -1 ≤ r.1 ∧ r.1 ≤ 2 := by
    rcases r1 with ⟨_, _, q⟩ | ⟨_, q⟩
    · rcases q with ⟨q, _⟩ | ⟨q, _⟩ | ⟨q, _⟩ <;> omega
    · omega
  refine ok_gI (by omega) (by omega) (by omega) (by omega) (fun g => ?_) (fun g => ok_some (cp_w ⟨Or.inr ⟨fun q => ?_, rfl⟩, cf_cls c2, f12⟩))
  case refine_2 =>
    rcases r1 with ⟨a, b, c⟩ | ⟨a, _⟩
    · rcases c with ⟨c, _⟩ | ⟨_, c, _⟩ | ⟨_, c, _⟩
      · exact g c
      · exact c q.2.2.2
      · exact c q.2.2.2
    · exact a ⟨q.2.1, q.2.2.1⟩
  have wc : wyC A x y z := by
    rcases r1 with ⟨a, b, c⟩ | ⟨_, c⟩
    · rcases c with ⟨_, c⟩ | ⟨c, _⟩ | ⟨c, _⟩
      · exact ⟨ez, a, b, c⟩
      · omega
      · omega
    · omega
  have e2 := wc.2.1
  unfold two at e2
  simp only [Bool.and_eq_true] at e2
  have ix := inz_r e2.1.1
  have iy := inz_r e2.1.2
  refine ok_bind (s_fillLead (A := A) (a := x.toNat) (b := y.toNat) (e := 147) c2.2.1.1.1 (by omega) (by omega) (by omega) (by omega) (by omega) rfl) (fun ζ3 ⟨h3, f3⟩ => ?_)
  have fs3 : Fx Wsc r.2 ζ3 := fx_mono f3 (fun x y q => by unfold We at q; unfold Wsc; omega)
  have c3 := cf_sc hW.2.1 c2 fs3
  have f13 := fx_trans f12 (wsc_26 fs3)
  refine ok_beq rfl ?_
  have ca := cf_among hW.2.1 c3 51 (ζ3.1 50 4)
  have pk := pk_say hW c3 (g := 147) (goal := leadv A x.toNat y.toNat) (Or.inl rfl) h3 (leadv_bd hW.1 (by omega) (by omega))
  have ae := among_e ζ3 51 (ζ3.1 50 4)
  have al : ∀ x y, (zI (zR ζ3 141 1 (some 51)) 141 2 (ζ3.1 50 4)).2.1 x y = ζ3.2.1 x y := fun _ _ => rfl
  generalize zI (zR ζ3 141 1 (some 51)) 141 2 (ζ3.1 50 4) = ζa at ca pk ae al
  obtain ⟨-, ⟨_, _, _, k', hk', c64, -⟩, -⟩ := id ca
  have ek : k' = k := by omega
  subst ek
  have cs : Cs ζa 64 k' (Aw k') 0 := cs_whole (by omega) (by omega) c64
  refine ok_bind (s_fewest (M := 3) rfl (by omega) (by omega) (Or.inl rfl) pk cs) (fun r ⟨fr, hr⟩ => ?_)
  have eD : Dg' (Aw k') (srz A) 12 (leadv A x.toNat y.toNat) = Dw A x.toNat y.toNat := by
    funext P
    unfold Dg' Dw
    have : XP (Aw k') (srz A) 12 P = Sc A P := by funext w; exact propext (xp_sc hW.2.1 hk)
    rw [this]
  rw [eD] at hr
  have hr' : Qz (fz (Dw A x.toNat y.toNat) (hrd A) 12 4 0) 12 1 r.1 := hr
  refine ok_bind (s_sizeOrSet r.2 (by omega) hr' ez) (fun q ⟨q1, q2⟩ => ok_some ⟨Or.inl ⟨wc, q2⟩, ?_, fun x y hx => ?_⟩)
  · rw [q1]
    exact cf_cls (cf_sc hW.2.1 ca (fx_mono fr (fun x y q => by unfold Wst at q; unfold Wsc; omega)))
  · rw [q1, (fr.1 x y (by unfold Wst; omega)).1, ae x y (by omega), (fr.1 x y (by unfold Wst; omega)).2, al]
    exact f13.1 x y (by show ¬ 26 ≤ x; omega)
