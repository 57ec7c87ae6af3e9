/-! next: the question that parts most -/
def cutX (A : Nat → Nat → Int) (X : V4 → Prop) (a b : Nat) (w : V4) : Prop := X w ∧ 0 ≤ dt (leadv A a b) w
/-- who may be best behind an answer -/
noncomputable def mbh (A : Nat → Nat → Int) (X : V4 → Prop) (a b : Nat) (t : Nat) : Bool := cdec (inb A t = true ∧ may A (cutX A X a b) t)
noncomputable def nbh (A : Nat → Nat → Int) (X : V4 → Prop) (a b : Nat) : Nat := bc (mbh A X a b) 8
noncomputable def mxh (A : Nat → Nat → Int) (X : V4 → Prop) (a b : Nat) : Nat := if nbh A X a b ≤ nbh A X b a then nbh A X b a else nbh A X a b
theorem msk_812 (p : Nat → Bool) : msk p 8 = msk (fun i => decide (i < 8) && p i) 12 := by
  refine msk_of (Nat.lt_of_lt_of_le (msk_lt p 8) (by decide)) (fun i hi => ?_)
  rw [msk_tb]
theorem bc_ff : ∀ N, bc (fun _ => false) N = 0
  | 0 => rfl
  | N + 1 => by simp only [bc]; rw [bc_ff N]; rfl
def Bf (x y a b : Nat) : Prop := x < a ∨ (x = a ∧ y < b)
def Pnn (p : Nat → Bool) (a b : Nat) : Prop := ∀ c d, c < d → d < 8 → p c = true → p d = true → ¬ Bf c d a b
def Pff (p : Nat → Bool) (M : Nat → Nat → Nat) (a b x y : Nat) : Prop := (x < y ∧ y < 8 ∧ p x = true ∧ p y = true) ∧ ∀ c d, c < d → d < 8 → p c = true → p d = true → Bf c d a b → M x y ≤ M c d ∧ (Bf c d x y → M x y < M c d)
section
variable {p : Nat → Bool} {M : Nat → Nat → Nat} {a b x y : Nat}
theorem bf_s {c d : Nat} : Bf c d a (b + 1) ↔ (Bf c d a b ∨ (c = a ∧ d = b)) := by unfold Bf; omega
theorem bf_row {c d : Nat} (h : c < d) (h8 : d < 8) : Bf c d a 8 ↔ Bf c d (a + 1) (a + 1 + 1) := by unfold Bf; omega
theorem pn_skip (h : Pnn p a b) (n : ¬ (p a = true ∧ p b = true)) : Pnn p a (b + 1) := fun c d h1 h2 h3 h4 h5 => by
  rcases bf_s.mp h5 with q | ⟨q1, q2⟩
  · exact h c d h1 h2 h3 h4 q
  · subst q1; subst q2; exact n ⟨h3, h4⟩
theorem pf_skip (h : Pff p M a b x y) (n : ¬ (p a = true ∧ p b = true)) : Pff p M a (b + 1) x y := ⟨h.1, fun c d h1 h2 h3 h4 h5 => by
  rcases bf_s.mp h5 with q | ⟨q1, q2⟩
  · exact h.2 c d h1 h2 h3 h4 q
  · subst q1; subst q2; exact absurd ⟨h3, h4⟩ n⟩
theorem pn_take (h : Pnn p a b) (hab : a < b) (hb : b < 8) (ha : p a = true) (hpb : p b = true) : Pff p M a (b + 1) a b := ⟨⟨hab, hb, ha, hpb⟩, fun c d h1 h2 h3 h4 h5 => by
  rcases bf_s.mp h5 with q | ⟨q1, q2⟩
  · exact absurd q (h c d h1 h2 h3 h4)
  · subst q1; subst q2; exact ⟨Nat.le_refl _, fun z => by unfold Bf at z; omega⟩⟩
theorem pf_keep (h : Pff p M a b x y) (hxy : Bf x y a b) (le : M x y ≤ M a b) : Pff p M a (b + 1) x y := ⟨h.1, fun c d h1 h2 h3 h4 h5 => by
  rcases bf_s.mp h5 with q | ⟨q1, q2⟩
  · exact h.2 c d h1 h2 h3 h4 q
  · subst q1; subst q2
    exact ⟨le, fun z => by unfold Bf at z hxy; omega⟩⟩
theorem pf_take (h : Pff p M a b x y) (hab : a < b) (hb : b < 8) (ha : p a = true) (hpb : p b = true) (lt : M a b < M x y) : Pff p M a (b + 1) a b := ⟨⟨hab, hb, ha, hpb⟩, fun c d h1 h2 h3 h4 h5 => by
  rcases bf_s.mp h5 with q | ⟨q1, q2⟩
  · have := (h.2 c d h1 h2 h3 h4 q).1
    exact ⟨by omega, fun _ => by omega⟩
  · subst q1; subst q2; exact ⟨Nat.le_refl _, fun z => by unfold Bf at z; omega⟩⟩
theorem pn_row (h : Pnn p a 8) : Pnn p (a + 1) (a + 1 + 1) := fun c d h1 h2 h3 h4 h5 => h c d h1 h2 h3 h4 ((bf_row h1 h2).mpr h5)
theorem pf_row (h : Pff p M a 8 x y) : Pff p M (a + 1) (a + 1 + 1) x y := ⟨h.1, fun c d h1 h2 h3 h4 h5 => h.2 c d h1 h2 h3 h4 ((bf_row h1 h2).mpr h5)⟩
end
/-- the question, or none: a, b and the count -/
def QQ (p : Nat → Bool) (M : Nat → Nat → Nat) (a b n : Int) : Prop := (∃ x y : Nat, a = x ∧ b = y ∧ n = ((M x y : Nat) : Int) ∧ Pff p M 8 9 x y) ∨ (Pnn p 8 9 ∧ a = -1 ∧ b = -1)
theorem pf_uniq {p : Nat → Bool} {M : Nat → Nat → Nat} {x y x' y' : Nat} (h : Pff p M 8 9 x y) (g : Pff p M 8 9 x' y') : x = x' ∧ y = y' := by
  have a1 := h.2 x' y' g.1.1 g.1.2.1 g.1.2.2.1 g.1.2.2.2 (by unfold Bf; have := g.1; omega)
  have a2 := g.2 x y h.1.1 h.1.2.1 h.1.2.2.1 h.1.2.2.2 (by unfold Bf; have := h.1; omega)
  have n1 : ¬ Bf x' y' x y := fun q => by have := a1.2 q; omega
  have n2 : ¬ Bf x y x' y' := fun q => by have := a2.2 q; omega
  unfold Bf at n1 n2
  omega
theorem pf_pn {p : Nat → Bool} {M : Nat → Nat → Nat} {x y : Nat} (h : Pff p M 8 9 x y) (g : Pnn p 8 9) : False := g x y h.1.1 h.1.2.1 h.1.2.2.1 h.1.2.2.2 (by unfold Bf; have := h.1; omega)
def nxC (A : Nat → Nat → Int) (z : Int) : Prop := (0 ≤ z ∧ z ≤ 2) ∧ NV (Sc A (hrd A))
def QNx (A : Nat → Nat → Int) (z v : Int) : Prop := (nxC A z ∧ ∃ a b n, QQ (inb A) (mxh A (Sc A (hrd A))) a b n ∧ v = (if a = -1 then -1 else if z = 0 then a else if z = 1 then b else n)) ∨ (¬ nxC A z ∧ v = -1)
theorem qnx_fun {A : Nat → Nat → Int} {z v w : Int} (h : QNx A z v) (g : QNx A z w) : v = w := by
  rcases h with ⟨p, a, b, n, q, r⟩ | ⟨p, q⟩ <;> rcases g with ⟨p', a', b', n', q', r'⟩ | ⟨p', q'⟩
  · rcases q with ⟨x, y, e1, e2, e3, f⟩ | ⟨f, e1, e2⟩ <;> rcases q' with ⟨x', y', e1', e2', e3', f'⟩ | ⟨f', e1', e2'⟩
    · have u := pf_uniq f f'
      obtain ⟨u1, u2⟩ := u
      subst u1; subst u2
      rw [r, r', e1, e2, e3, e1', e2', e3']
    · exact (pf_pn f f').elim
    · exact (pf_pn f' f).elim
    · rw [r, r', e1, e1', if_pos rfl, if_pos rfl]
  · exact absurd p p'
  · exact absurd p' p
  · omega
theorem s_behind {A : Nat → Nat → Int} {ζ : ZS} (h : Rf A ζ) (hW : Wall A) {a b R : Nat} {z y : Int} {X : V4 → Prop} (hz : z = a) (hy : y = b) (ha : a < 8) (hb : b < 8) (hL : Lw A ζ 0 X 12) (hR : ζ.1 21 0 = R) : Ok (g_X12_behind z y ζ) (fun r => r.1 = ((nbh A X a b : Nat) : Int) ∧ Lw A r.2 0 X 12 ∧ Rf A r.2 ∧ Fx (Wm 0 R) ζ r.2) := by
  have hx := hW.2.2.2.1
  have h32 := hW.2.2.2.2.1
  have t1 : Int.toNat 1 = 1 := rfl
  obtain ⟨ζ2, e2, g1, g3, g4, g5⟩ := s_deeper (x := (0 : Int)) h hW.1 hx (a := a) (b := b) (lv := 0) hz hy rfl ha hb (by omega) hL (by omega) hR
  unfold g_X12_behind g_X12_behind_32
  cases hc : g_X12_addsAbove z y ζ with
  | none => rw [hc] at e2; cases e2
  | some q3 =>
    rw [hc] at e2
    have e2 : g_X12_findMore ((0 : Int) + 1) q3 = some ζ2 := e2
    rw [show (0 : Int) + 1 = 1 by omega] at e2
    have g5 : (R : Int) ≤ ζ2.1 21 1 := g5
    refine ok_beq rfl (ok_beq e2 ?_)
    have L2 : Lw A ζ2 1 (cutX A X a b) 13 := lw_congr g1 (fun w => by rw [abv_lead h32]; exact Iff.rfl) (by omega)
    have Lb0 := lb_fx hL.1 (by omega) hR g4
    obtain ⟨n, hn, n44, hne, _⟩ := lb_n L2.1 (by omega)
    rw [t1, hn]
    have fin : ∀ ζ3, Lb A ζ3 0 X 12 ∧ ζ3.1 21 0 = R → Rf A ζ3 → Fx (Wm 0 R) ζ ζ3 → ∀ v, v = ((nbh A X a b : Nat) : Int) → Ok ((g_X12_backTo 0 ζ3).bind fun q1 => some (v, q1)) (fun r => r.1 = ((nbh A X a b : Nat) : Int) ∧ Lw A r.2 0 X 12 ∧ Rf A r.2 ∧ Fx (Wm 0 R) ζ r.2) := fun ζ3 L3 h3 f3 v hv => by
      have bk := s_backTo (x := (0 : Int)) (lv := 0) rfl (by omega) L3.1 L3.2
      refine ok_beq bk.1 (ok_some ⟨hv, bk.2, fun x y hp => ?_, fx_I f3 (by unfold Wm; omega)⟩)
      show (zI ζ3 0 26 (R : Int)).1 x y = A x y
      rw [zI_1, if_neg (by unfold psl at hp; omega)]; exact h3 x y hp
    refine ok_gk (by omega) (by omega) (ok_gI (by omega) (by omega) (by omega) (by omega) (fun g => fin ζ2 Lb0 g3 g4 0 ?_) (fun g => ?_))
    · have z : ∀ t, t < 8 → mbh A X a b t = false := fun t _ => cdec_f.mpr (fun q => by
        obtain ⟨w, ⟨w1, _⟩, w2⟩ := q.2
        have := hne.mpr ⟨w, w1, w2⟩
        omega)
      have : nbh A X a b = bc (fun _ => false) 8 := bc_congr (fun i hi => z i hi)
      rw [this, bc_ff]; rfl
    · obtain ⟨R', hR'⟩ : ∃ R' : Nat, ζ2.1 21 1 = R' := ⟨(ζ2.1 21 1).toNat, by omega⟩
      refine ok_bind (s_mayBest g3 hW.1 hx (lv := 1) rfl (by omega) L2 (by omega) hR') (fun q ⟨⟨p, q1, q2⟩, q3, q4, q5⟩ => ?_)
      have f3 : Fx (Wm 0 R) ζ q.2 := fx_trans g4 (fx_mono q5 (fun x y c => wm_mono (by omega) (by omega) x y c))
      rw [q1, msk_812]
      refine ok_beq (s_bits _ rfl) (fin q.2 (lb_fx hL.1 (by omega) hR f3) q4 f3 _ ?_)
      dsimp only
      rw [bc_24 p (by omega)]
      congr 1
      refine bc_congr (fun i hi => ?_)
      unfold mbh
      cases e : p i with
      | true => exact (cdec_iff.mpr ((q2 i hi).mp e)).symm
      | false => exact (cdec_f.mpr (fun c => by rw [(q2 i hi).mpr c] at e; cases e)).symm
theorem nbh_8 (A : Nat → Nat → Int) (X : V4 → Prop) (a b : Nat) : nbh A X a b ≤ 8 := bc_le _ 8
theorem mxh_8 (A : Nat → Nat → Int) (X : V4 → Prop) (a b : Nat) : mxh A X a b ≤ 8 := by unfold mxh; have := nbh_8 A X a b; have := nbh_8 A X b a; split <;> omega
/-- none yet, or the best so far -/
def NxS (A : Nat → Nat → Int) (X : V4 → Prop) (a b : Nat) (l x y : Int) : Prop := (Pnn (inb A) a b ∧ l = 9 ∧ x = -1 ∧ y = -1) ∨ ∃ c d : Nat, x = c ∧ y = d ∧ l = ((mxh A X c d : Nat) : Int) ∧ Bf c d a b ∧ Pff (inb A) (mxh A X) a b c d
theorem a_next {A : Nat → Nat → Int} {ζ : ZS} (h : Rf A ζ) (hW : Wall A) {z : Int} (hz : r32 z) : Ok (g_X12_next z ζ) (RP A ζ (QNx A z)) := by
  have f0 : Fx (fun x _ => x < 25 ∧ x ≠ 5) ζ (zI ζ 0 0 0) := fx_I (fx_refl _ _) (by decide)
  have h0 := rf_0 h 0
  unfold g_X12_next g_X12_next_21
  refine ok_beq (s_within _ hz (by omega) (by omega)) (ok_bi (fun e => ok_some (rp_same h (Or.inr ⟨fun q => bd_f e q.1, rfl⟩))) (fun e => ?_))
  have ez := bd_t e
  refine ok_bind (s_findNow h0 hW) (fun r ⟨lw, hr, hf, r01, r1⟩ => ?_)
  have f1 := fx_trans f0 (wq_25 hf)
  refine ok_gI (by omega) (by omega) (by omega) (by omega) (fun g => ok_some ⟨Or.inr ⟨fun q => (by have := r1.mpr q.2; omega), rfl⟩, hr, f1⟩) (fun g => ?_)
  have hcan := r1.mp (by omega)
  obtain ⟨X, hX⟩ : ∃ X, X = Sc A (hrd A) := ⟨_, rfl⟩
  rw [← hX] at lw
  have M8 := mxh_8 A X
  generalize r.2 = ζ0 at lw hr hf f1
  obtain ⟨R, hR⟩ : ∃ R : Nat, ζ0.1 21 0 = R := by
    obtain ⟨⟨k, R', n', ρ, a1, a2, a3, a4, a5, a6⟩, a7⟩ := lw
    exact ⟨R', a6.2.1⟩
  have stb : ∀ {a b l x y}, NxS A X a b l x y → (0 ≤ l ∧ l ≤ 9) ∧ (-1 ≤ x ∧ x ≤ 7) ∧ (-1 ≤ y ∧ y ≤ 7) := fun {a b l x y} hs => by
    rcases hs with ⟨_, q1, q2, q3⟩ | ⟨c, d, q1, q2, q3, _, q4⟩
    · omega
    · have := q4.1; have := M8 c d; omega
  have outer : ∀ (m : Nat) (l x y w : Int) (a : Nat) (ζ1 : ZS), w = a → a ≤ 8 → 8 - a < m → Lw A ζ1 0 X 12 → Rf A ζ1 → ζ1.1 21 0 = R → Fx (fun x _ => x < 25 ∧ x ≠ 5) ζ ζ1 → NxS A X a (a + 1) l x y → Ok (g_X12_next_34 z m l x y w ζ1) (RP A ζ (QNx A z)) := by
    intro m
    induction m with
    | zero => intro _ _ _ _ _ _ _ _ h; omega
    | succ m ih =>
      intro l x y w a ζ1 hw ha hm hL1 h1 hR1 hf1 hs
      subst hw
      have sb := stb hs
      unfold g_X12_next_34 g_X12_next_163
      refine ok_gI (by omega) (by omega) (by omega) (by omega) (fun g1 => ?_) (fun g1 => ?_)
      · have ea : a = 8 := by omega
        subst ea
        have q : ∃ n, QQ (inb A) (mxh A X) x y n ∧ (x ≠ -1 → n = l) := by
          rcases hs with ⟨q0, q1, q2, q3⟩ | ⟨c, d, q1, q2, q3, _, q4⟩
          · exact ⟨0, Or.inr ⟨q0, q2, q3⟩, fun c => absurd q2 c⟩
          · exact ⟨_, Or.inl ⟨c, d, q1, q2, rfl, q4⟩, fun _ => q3.symm⟩
        obtain ⟨n, qq, qn⟩ := q
        rw [hX] at qq
        have fin : ∀ v, v = (if x = -1 then -1 else if z = 0 then x else if z = 1 then y else n) → RP A ζ (QNx A z) (v, ζ1) := fun v hv => ⟨Or.inl ⟨⟨ez, hcan⟩, x, y, n, qq, hv⟩, h1, hf1⟩
        refine ok_gI (by omega) (by omega) (by omega) (by omega) (fun g2 => ok_gI hz.1 hz.2 (by omega) (by omega) (fun g3 => ok_some (fin _ ?_)) (fun g3 => ok_gI hz.1 hz.2 (by omega) (by omega) (fun g4 => ok_some (fin _ ?_)) (fun g4 => ok_some (fin _ ?_)))) (fun g2 => ok_some (fin _ ?_))
        · rw [if_neg (by omega), if_pos g3]
        · rw [if_neg (by omega), if_neg g3, if_pos g4]
        · rw [if_neg (by omega), if_neg g3, if_neg g4, qn (by omega)]
        · rw [if_pos (by omega)]
      · have ha8 : a < 8 := by omega
        have inner : ∀ (m2 : Nat) (l x y w : Int) (b : Nat) (ζ2 : ZS), w = b → a < b → b ≤ 8 → 8 - b < m2 → Lw A ζ2 0 X 12 → Rf A ζ2 → ζ2.1 21 0 = R → Fx (fun x _ => x < 25 ∧ x ≠ 5) ζ ζ2 → NxS A X a b l x y → Ok (g_X12_next_47 z (a : Int) (g_X12_next_34 z m) m2 l x y w ζ2) (RP A ζ (QNx A z)) := by
          intro m2
          induction m2 with
          | zero => intro _ _ _ _ _ _ _ _ _ h; omega
          | succ m2 ih2 =>
            intro l x y w b ζ2 hw hab hb hm2 hL2 h2 hR2 hf2 hs2
            subst hw
            have sb2 := stb hs2
            unfold g_X12_next_47 g_X12_next_124
            refine ok_gI (by omega) (by omega) (by omega) (by omega) (fun g2 => ?_) (fun g2 => ?_)
            · have eb : b = 8 := by omega
              subst eb
              refine ih l x y _ (a + 1) ζ2 (by omega) (by omega) (by omega) hL2 h2 hR2 hf2 ?_
              rcases hs2 with ⟨q0, q1, q2, q3⟩ | ⟨c, d, q1, q2, q3, q5, q4⟩
              · exact Or.inl ⟨pn_row q0, q1, q2, q3⟩
              · exact Or.inr ⟨c, d, q1, q2, q3, (bf_row q4.1.1 q4.1.2.1).mp q5, pf_row q4⟩
            · have hb8 : b < 8 := by omega
              have skip : ¬ (inb A a = true ∧ inb A b = true) → Ok (g_X12_next_47 z (a : Int) (g_X12_next_34 z m) m2 l x y ((b : Int) + 1) ζ2) (RP A ζ (QNx A z)) := fun hn => by
                refine ih2 l x y _ (b + 1) ζ2 (by omega) (by omega) (by omega) (by omega) hL2 h2 hR2 hf2 ?_
                rcases hs2 with ⟨q0, q1, q2, q3⟩ | ⟨c, d, q1, q2, q3, q5, q4⟩
                · exact Or.inl ⟨pn_skip q0 hn, q1, q2, q3⟩
                · exact Or.inr ⟨c, d, q1, q2, q3, bf_s.mpr (Or.inl q5), pf_skip q4 hn⟩
              refine ok_beq (s_isInN h2 hW.1 rfl ha8) (ok_bi (fun e1 => skip (fun q => by rw [e1] at q; cases q.1)) (fun e1 => ok_beq (s_isInN h2 hW.1 rfl hb8) (ok_bi (fun e2 => skip (fun q => by rw [e2] at q; cases q.2)) (fun e2 => ?_))))
              refine ok_bind (s_behind h2 hW (a := a) (b := b) rfl rfl ha8 hb8 hL2 hR2) (fun q ⟨q1, q2, q3, q4⟩ => ?_)
              have hRq : q.2.1 21 0 = R := (lb_fx hL2.1 (by omega) hR2 q4).2
              refine ok_bind (s_behind q3 hW (a := b) (b := a) rfl rfl hb8 ha8 q2 hRq) (fun s ⟨s1, s2, s3, s4⟩ => ?_)
              have hRs : s.2.1 21 0 = R := (lb_fx q2.1 (by omega) hRq s4).2
              have fs := fx_trans hf2 (fx_trans (wm_25 q4) (wm_25 s4))
              have b1 := nbh_8 A X a b
              have b2 := nbh_8 A X b a
              rw [q1, s1]
              have next : ∀ v, v = ((mxh A X a b : Nat) : Int) → Ok (g_X12_next_106 (g_X12_next_34 z m) (g_X12_next_47 z (a : Int) (g_X12_next_34 z m) m2) z l x y (a : Int) (b : Int) v s.2) (RP A ζ (QNx A z)) := fun v hv => by
                have mb := M8 a b
                unfold g_X12_next_106 g_X12_next_124
                refine ok_gI (by omega) (by omega) (by omega) (by omega) (fun g3 => ih2 l x y _ (b + 1) s.2 (by omega) (by omega) (by omega) (by omega) s2 s3 hRs fs ?_) (fun g3 => ih2 v _ _ _ (b + 1) s.2 (by omega) (by omega) (by omega) (by omega) s2 s3 hRs fs ?_)
                · rcases hs2 with ⟨q0, q1, q2, q3⟩ | ⟨c, d, q1, q2, q3, q5, q4⟩
                  · omega
                  · exact Or.inr ⟨c, d, q1, q2, q3, bf_s.mpr (Or.inl q5), pf_keep q4 q5 (by omega)⟩
                · rcases hs2 with ⟨q0, q1, q2, q3⟩ | ⟨c, d, q1, q2, q3, q5, q4⟩
                  · exact Or.inr ⟨a, b, rfl, rfl, hv, bf_s.mpr (Or.inr ⟨rfl, rfl⟩), pn_take q0 hab hb8 e1 e2⟩
                  · exact Or.inr ⟨a, b, rfl, rfl, hv, bf_s.mpr (Or.inr ⟨rfl, rfl⟩), pf_take q4 hab hb8 e1 e2 (by omega)⟩
              refine ok_gI (by omega) (by omega) (by omega) (by omega) (fun g3 => next _ ?_) (fun g3 => next _ ?_)
              · unfold mxh; rw [if_pos (by omega)]
              · unfold mxh; rw [if_neg (by omega)]
        exact inner FU l x y _ (a + 1) ζ1 (by omega) (by omega) (by omega) (by rw [FU_e]; omega) hL1 h1 hR1 hf1 hs
  exact outer FU 9 (-1) (-1) 0 0 ζ0 rfl (by omega) (by rw [FU_e]; omega) lw hr hR f1 (Or.inl ⟨fun c d h1 h2 h3 h4 h5 => by unfold Bf at h5; omega, rfl, rfl, rfl⟩)
