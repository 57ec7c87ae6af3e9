/-! standing, holds, voices, drop: reference and class -/
theorem rp_same {A : Nat → Nat → Int} {ζ : ZS} (h : Rf A ζ) {Q : Int → Prop} {v : Int} (hq : Q v) : RP A ζ Q (v, zI ζ 0 0 0) := ⟨hq, rf_0 h 0, fx_I (fx_refl _ _) (show (0 : Nat) < 25 ∧ (0 : Nat) ≠ 5 by decide)⟩
def standV (A : Nat → Nat → Int) (z : Int) : Int := if thz A z = true then bi (inz A z) else -1
theorem a_standing {A : Nat → Nat → Int} {ζ : ZS} (h : Rf A ζ) (hW : Wall A) {z : Int} (hz : r32 z) : Ok (g_X12_standing z ζ) (RP A ζ (fun v => v = standV A z)) := by
  unfold g_X12_standing g_X12_standing_30
  refine ok_beq (s_isThing (rf_0 h 0) hW.1 hz) (ok_bi (fun e => ok_some (rp_same h (by unfold standV; rw [e]; rfl))) (fun e => ?_))
  refine ok_beq (s_isIn (rf_0 h 0) hW.1 hz) (ok_bi (fun e2 => ok_some (rp_same h ?_)) (fun e2 => ok_some (rp_same h ?_)))
  · unfold standV; rw [e, if_pos rfl, e2]; rfl
  · unfold standV; rw [e, if_pos rfl, e2]; rfl
theorem b_standing {A : Nat → Nat → Int} {ζ : ZS} (h : Cls A ζ) (hW : Wall A) {z : Int} (hz : r32 z) : Ok (g_X11_standing z ζ) (CP A ζ (fun v => v = standV A z)) := by
  unfold g_X11_standing g_X11_standing_33
  refine ok_bind (s_fresh hW h) (fun ζ1 ⟨c1, f1⟩ => ok_beq (s_isTold c1.1.2.1.1 hz) (ok_bi (fun e => ok_some ⟨by unfold standV; rw [e]; rfl, cf_cls c1, f1⟩) (fun e => ?_)))
  refine ok_beq (s_isInC c1.2.1.1.2 hz) (ok_bi (fun e2 => ok_some ⟨?_, cf_cls c1, f1⟩) (fun e2 => ok_some ⟨?_, cf_cls c1, f1⟩))
  · unfold standV; rw [e, if_pos rfl, e2]; rfl
  · unfold standV; rw [e, if_pos rfl, e2]; rfl
/-- without one saying -/
def wo (A : Nat → Nat → Int) (s : Nat) : Nat → Bool := fun i => hrd A i && !decide (i = s)
def QH (A : Nat → Nat → Int) (x z y v : Int) : Prop := ((0 ≤ x ∧ x < A 9 0) ∧ QC A (Sc A (wo A x.toNat)) z y v) ∨ (¬ (0 ≤ x ∧ x < A 9 0) ∧ v = -1)
theorem qh_fun {A : Nat → Nat → Int} {x z y v w : Int} (h : QH A x z y v) (g : QH A x z y w) : v = w := by
  rcases h with ⟨a, b⟩ | ⟨a, b⟩ <;> rcases g with ⟨a', b'⟩ | ⟨a', b'⟩
  · exact qc_fun b b'
  · exact absurd a a'
  · exact absurd a' a
  · omega
theorem a_holds {A : Nat → Nat → Int} {ζ : ZS} (h : Rf A ζ) (hW : Wall A) {x z y : Int} (hx : r32 x) (hz : r32 z) (hy : r32 y) : Ok (g_X12_holds x z y ζ) (RP A ζ (QH A x z y)) := by
  obtain ⟨hw, hs, hv, hwx, h32, _⟩ := hW
  have q9 := hs.1
  have h0 := rf_0 h 0
  have f0 : Fx (fun x _ => x < 25 ∧ x ≠ 5) ζ (zI ζ 0 0 0) := fx_I (fx_refl _ _) (by decide)
  unfold g_X12_holds g_X12_holds_30 g_X12_holds_69
  refine ok_beq (s_areTwo h0 hw hz hy) (ok_bi (fun e => ok_some (rp_same h ?_)) (fun e => ?_))
  · by_cases g : 0 ≤ x ∧ x < A 9 0
    · exact Or.inl ⟨g, Or.inr ⟨fun q => (by rw [e] at q; cases q.1), rfl⟩⟩
    · exact Or.inr ⟨g, rfl⟩
  have t0 : Int.toNat 0 = 0 := rfl
  rw [t0]
  have e9 : (zI ζ 0 0 0).1 9 0 = A 9 0 := rf_c h0 (by omega) (by omega)
  refine ok_gk (by omega) (by omega) ?_
  rw [e9]
  refine ok_beq (s_within _ hx (by omega) (by omega)) (ok_bi (fun g => ok_some (rp_same h ?_)) (fun g => ?_))
  · refine Or.inr ⟨fun q => ?_, rfl⟩
    rw [decide_eq_true q.1, decide_eq_true (show x ≤ A 9 0 - 1 by omega)] at g
    cases g
  simp only [Bool.and_eq_true, decide_eq_true_eq] at g
  have hx9 : 0 ≤ x ∧ x < A 9 0 := by omega
  refine ok_beq (s_heard h0 hs hv) ?_
  have ez : zand ((msk (hrd A) 12 : Nat) : Int) (zxor (zshl 1 x) (-1)) = ((msk (wo A x.toNat) 12 : Nat) : Int) := by
    have := z_out (hrd A) (n := 12) (t := x.toNat) (by omega) (by omega)
    rw [show ((x.toNat : Nat) : Int) = x by omega] at this
    exact this
  dsimp only
  rw [ez]
  obtain ⟨ζ1, e1, h1⟩ := s_lay (P := wo A x.toNat) h0 hw hs rfl
  cases hc : g_X12_laysRows ((msk (wo A x.toNat) 12 : Nat) : Int) (zI ζ 0 0 0) with
  | none => rw [hc] at e1; cases e1
  | some q =>
    rw [hc] at e1
    have e1 : g_X12_findCorners q = some ζ1 := e1
    refine ok_beq rfl (ok_beq e1 ?_)
    have lw := l0_lw h1.1
    have hr := rf_Wq h0 h1.2
    have f1 := fx_trans f0 (wq_25 h1.2)
    obtain ⟨n, hn, n44, hne, _⟩ := lb_n lw.1 (by omega)
    rw [hn]
    refine ok_gk (by omega) (by omega) (ok_gI (by omega) (by omega) (by omega) (by omega) (fun g => ok_some ⟨Or.inl ⟨hx9, Or.inr ⟨fun q => (by have := hne.mpr q.2; omega), rfl⟩⟩, hr, f1⟩) (fun g => ?_))
    have e2 := e
    unfold two at e2
    simp only [Bool.and_eq_true] at e2
    have iz := inz_r e2.1.1
    have iy := inz_r e2.1.2
    refine ok_bind (s_betterNow hr hw hwx (a := z.toNat) (b := y.toNat) (by omega) (by omega) (by omega) (by omega) lw.1 (by omega)) (fun q ⟨q1, q2⟩ => ok_some ⟨Or.inl ⟨hx9, Or.inl ⟨e, hne.mp (by omega), ?_⟩⟩, by rw [q1]; exact hr, by rw [q1]; exact f1⟩)
    rw [abv_lead h32] at q2
    exact q2
theorem b_holds {A : Nat → Nat → Int} {ζ : ZS} (h : Cls A ζ) (hW : Wall A) {x z y : Int} (hx : r32 x) (hz : r32 z) (hy : r32 y) : Ok (g_X11_holds x z y ζ) (CP A ζ (QH A x z y)) := by
  have qk := hW.1.1
  have q9 := hW.2.1.1
  unfold g_X11_holds g_X11_holds_19
  refine ok_bind (s_fresh hW h) (fun ζ1 ⟨c1, f1⟩ => ?_)
  refine ok_gI hx.1 hx.2 (by omega) (by omega) (fun g => ok_some ⟨Or.inr ⟨fun q => (by omega), rfl⟩, cf_cls c1, f1⟩) (fun g => ?_)
  obtain ⟨⟨⟨c, d, hc, hd, hcd, r1, r2, hch⟩, -⟩, hfr, -⟩ := id c1
  have hc' := hc
  unfold cell2 at hc'
  have kc : kd c = 0 := by rcases hc' with e | e <;> subst e <;> decide
  refine ok_rk r1 kc ?_
  rw [hch.2.1]
  refine ok_gI hx.1 hx.2 (by omega) (by omega) (fun g2 => ?_) (fun g2 => ok_some ⟨Or.inr ⟨fun q => (by omega), rfl⟩, cf_cls c1, f1⟩)
  obtain ⟨b1, b2, b3, k, b4, b5, -⟩ := hfr
  have ez : zand (ζ1.1 50 4) (zxor (zshl 1 x) (-1)) = ((msk (wo A x.toNat) 12 : Nat) : Int) := by
    have := z_out (hrd A) (n := 12) (t := x.toNat) (by omega) (by omega)
    rw [show ((x.toNat : Nat) : Int) = x by omega] at this
    rw [b3]; exact this
  refine ok_bind (s_cutBy (P := wo A x.toNat) hW.1 hW.2.1 b4 ez (fun s _ g => ?_) b2 b5) (fun q ⟨dd, hdd, e1, hcs, f4⟩ => ?_)
  · unfold wo hrd at g
    simp only [Bool.and_eq_true, decide_eq_true_eq] at g
    exact g.1.1
  rw [e1]
  refine ok_rk rfl (kd_c17 dd (by omega)) ?_
  have fs : Fx Wsc ζ1 q.2 := fx_mono f4 (fun x y g => by unfold Wst at g; unfold Wsc; omega)
  have c2 := cf_sc hW.2.1 c1 fs
  refine ok_bind (s_compare hW.1 c2.2.1.1 hcs (by omega) (by omega) hz hy) (fun r ⟨r1, r2⟩ => ?_)
  have f2 : Fx Wsc q.2 r.2 := fx_mono r2 (fun x y g => by unfold We at g; unfold Wsc; omega)
  exact ok_some ⟨Or.inl ⟨by omega, r1⟩, cf_cls (cf_sc hW.2.1 c2 f2), fx_trans f1 (fx_trans (wsc_26 fs) (wsc_26 f2))⟩
/-! calls that change what is held -/
def up (A : Nat → Nat → Int) (c k : Nat) (v : Int) : Nat → Nat → Int := u2 A c k v
theorem up_e (A : Nat → Nat → Int) (c k x y : Nat) (v : Int) : up A c k v x y = if x = c ∧ y = k then v else A x y := u2_e A c k x y v
theorem rf_up {A : Nat → Nat → Int} {ζ : ZS} (h : Rf A ζ) (c k : Nat) (v : Int) (hck : ¬ (c = 0 ∧ k = 32)) : Rf (up A c k v) (zI ζ c k v) := fun x y hp => by
  have e : up A c k v 0 32 = A 0 32 := by rw [up_e, if_neg (by omega)]
  rw [zI_1, up_e]
  split
  · rfl
  · refine h x y ?_
    unfold psl at hp ⊢
    rw [e] at hp
    exact hp
def voiceA (A : Nat → Nat → Int) (z : Int) : Nat → Nat → Int := if 0 ≤ z ∧ z ≤ 255 then up A 0 23 z else A
def okV (z lo hi v : Int) : Prop := v = bi (decide (lo ≤ z) && decide (z ≤ hi))
theorem a_voices {A : Nat → Nat → Int} {ζ : ZS} (h : Rf A ζ) {z : Int} (hz : r32 z) : Ok (g_X12_voices z ζ) (RP (voiceA A z) ζ (okV z 0 255)) := by
  have f0 : Fx (fun x _ => x < 25 ∧ x ≠ 5) ζ (zI ζ 0 0 0) := fx_I (fx_refl _ _) (by decide)
  unfold g_X12_voices
  refine ok_beq (s_within _ hz (by omega) (by omega)) (ok_bi (fun e => ok_some ⟨by unfold okV; rw [e]; rfl, ?_, f0⟩) (fun e => ok_some ⟨by unfold okV; rw [e]; rfl, ?_, fx_I f0 (show (0 : Nat) < 25 ∧ (0 : Nat) ≠ 5 by decide)⟩))
  · unfold voiceA
    rw [if_neg (fun q => by rw [decide_eq_true q.1, decide_eq_true q.2] at e; cases e)]
    exact rf_0 h 0
  · unfold voiceA
    simp only [Bool.and_eq_true, decide_eq_true_eq] at e
    rw [if_pos e]
    exact rf_up (rf_0 h 0) 0 23 z (by omega)
theorem cls_stale {A : Nat → Nat → Int} {ζ : ZS} (h : Cr A ζ) (h1 : ζ.1 26 18 = 1) : Cls A ζ := ⟨h, Or.inr h1, fun g => by omega⟩
theorem ch_same {A B : Nat → Nat → Int} {ζ : ZS} {c : Nat} (h : Ch A ζ c) (e : ∀ x y, 6 ≤ x → x ≤ 15 → B x y = A x y) : Ch B ζ c := by
  unfold Ch
  rw [e 9 0 (by omega) (by omega)]
  refine ⟨fun m hm => ?_, h.2.1, fun s hs => ?_⟩
  · rw [e 6 m (by omega) (by omega), e 7 m (by omega) (by omega), e 8 m (by omega) (by omega)]; exact h.1 m hm
  · rw [e 10 s (by omega) (by omega), e 11 s (by omega) (by omega), e 12 s (by omega) (by omega), e 13 s (by omega) (by omega), e 14 s (by omega) (by omega), e 15 s (by omega) (by omega)]; exact h.2.2 s hs
theorem b_voices {A : Nat → Nat → Int} {ζ : ZS} (h : Cls A ζ) {z : Int} (hz : r32 z) : Ok (g_X11_voices z ζ) (CP (voiceA A z) ζ (okV z 0 255)) := by
  unfold g_X11_voices g_X11_voices_11
  have no : ¬ (0 ≤ z ∧ z ≤ 255) → Ok (some ((0 : Int), ζ)) (CP (voiceA A z) ζ (okV z 0 255)) := by
    intro g
    refine ok_some ⟨?_, ?_, fx_refl _ _⟩
    · unfold okV
      cases e : (decide (0 ≤ z) && decide (z ≤ 255)) with
      | false => rfl
      | true => simp only [Bool.and_eq_true, decide_eq_true_eq] at e; exact absurd e g
    · unfold voiceA; rw [if_neg g]; exact h
  refine ok_gI hz.1 hz.2 (by omega) (by omega) (fun g => no (fun q => by omega)) (fun g => ok_gI hz.1 hz.2 (by omega) (by omega) (fun g2 => ?_) (fun g2 => no (fun q => by omega)))
  refine ok_some ⟨?_, ?_, fx_I (fx_I (fx_refl _ _) (show 26 ≤ 26 by decide)) (show 26 ≤ 26 by decide)⟩
  · unfold okV; rw [decide_eq_true (show 0 ≤ z by omega), decide_eq_true g2]; rfl
  · unfold voiceA
    rw [if_pos (by omega)]
    obtain ⟨⟨c, d, hc, hd, hcd, r1, r2, hch⟩, hth, a1, a2, a3, a4, a5, a6, a7⟩ := h.1
    have hc' := hc
    unfold cell2 at hc'
    have z1 : ∀ x y, x ≠ 26 → (zI (zI ζ 26 17 z) 26 18 1).1 x y = ζ.1 x y := fun x y g => by rw [zI_1, if_neg (by omega), zI_1, if_neg (by omega)]
    have ot : ∀ x y, ¬ (x = 0 ∧ y = 23) → up A 0 23 z x y = A x y := fun x y g => by rw [up_e, if_neg g]
    refine cls_stale ⟨⟨c, d, hc, hd, hcd, r1, r2, ch_same (ch_fx hch (fun x y g1 g2 => z1 x y (by omega))) (fun x y g1 g2 => ot x y (by omega))⟩, ⟨?_, fun t m g1 g2 => by rw [z1 _ _ (by omega), ot _ _ (by omega)]; exact hth.2 t m g1 g2⟩, ?_, ?_, ?_, fun p g => ?_, ?_, fun i g => ?_, fun m g => by rw [z1 _ _ (by omega)]; exact a7 m g⟩ (by rw [zI_1, if_pos ⟨rfl, rfl⟩])
    · rw [z1 _ _ (by omega), hth.1]; rfl
    · rw [zI_1, if_neg (by omega), zI_1, if_neg (by omega), ot 0 20 (by omega)]; exact a1
    · rw [zI_1, if_neg (by omega), zI_1, if_pos ⟨rfl, rfl⟩, up_e, if_pos ⟨rfl, rfl⟩]
    · rw [zI_1, if_neg (by omega), zI_1, if_neg (by omega), ot 0 24 (by omega)]; exact a3
    · rw [ot 0 24 (by omega)] at g
      rw [z1 _ _ (by omega), ot _ _ (by omega)]; exact a4 p g
    · rw [z1 _ _ (by omega), ot _ _ (by omega)]; exact a5
    · rw [ot 0 2 (by omega)] at g
      rw [z1 _ _ (by omega), ot _ _ (by omega)]; exact a6 i g
