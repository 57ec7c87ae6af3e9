/-! agree, yields: whose voices go together -/
def Hh (A : Nat → Nat → Int) (K : Nat → Bool) : Prop := NV (Sc A (sof A K))
def Gg (A : Nat → Nat → Int) (must : Bool) (K : Nat → Bool) : Prop := must = true → Sb A (Sc A (sof A K))
/-- more are kept, or as many and the least (most) as bits -/
def btr (must : Bool) (K L : Nat → Bool) : Prop := bc L 8 < bc K 8 ∨ (bc L 8 = bc K 8 ∧ ((must = false ∧ msk K 8 < msk L 8) ∨ (must = true ∧ msk L 8 < msk K 8)))
theorem btr_trans {must : Bool} {K L M : Nat → Bool} (h : ¬ btr must K L) (g : ¬ btr must L M) : ¬ btr must K M := by
  unfold btr at *
  cases must
  · simp at *; omega
  · simp at *; omega
def sbs (K V : Nat → Bool) : Prop := ∀ i, i < 8 → K i = true → V i = true
def Qcr (A : Nat → Nat → Int) (must : Bool) (V : Nat → Bool) (o : Option (Nat → Bool)) : Prop := match o with
  | some K => sbs K V ∧ Hh A K ∧ Gg A must K ∧ ∀ L, sbs L V → Hh A L → Gg A must L → ¬ btr must L K
  | none => ∀ L, sbs L V → Hh A L → Gg A must L → False
theorem msk_eq_of {K L : Nat → Bool} (h : msk K 8 = msk L 8) : ∀ i, i < 8 → K i = L i := fun _ hi => msk_inj h hi
theorem qcr_fun {A : Nat → Nat → Int} {must : Bool} {V : Nat → Bool} {o p : Option (Nat → Bool)} (h : Qcr A must V o) (g : Qcr A must V p) : (o = none ∧ p = none) ∨ ∃ K L, o = some K ∧ p = some L ∧ msk K 8 = msk L 8 ∧ bc K 8 = bc L 8 := by
  cases o with
  | none =>
    cases p with
    | none => exact Or.inl ⟨rfl, rfl⟩
    | some L => exact (h L g.1 g.2.1 g.2.2.1).elim
  | some K =>
    cases p with
    | none => exact (g K h.1 h.2.1 h.2.2.1).elim
    | some L =>
      have a := h.2.2.2 L g.1 g.2.1 g.2.2.1
      have b := g.2.2.2 K h.1 h.2.1 h.2.2.1
      refine Or.inr ⟨K, L, rfl, rfl, ?_⟩
      unfold btr at a b
      cases must <;> simp at a b <;> omega
theorem sof_congr {A : Nat → Nat → Int} (hs : Ws A) {K L : Nat → Bool} (h : ∀ i, i < 8 → K i = L i) : sof A K = sof A L := by
  funext s
  unfold sof
  by_cases c : (s : Int) < A 9 0
  · have := (hs.2 s c).1
    rw [h _ (by omega)]
  · rw [decide_eq_false c]; rfl
theorem s_sayingsR {A : Nat → Nat → Int} {ζ : ZS} (h : Rf A ζ) (hs : Ws A) {Q : Nat → Bool} {z : Int} (hz : z = ((msk Q 8 : Nat) : Int)) : g_X12_sayingsOf z ζ = some (((msk (sof A Q) 12 : Nat) : Int), ζ) := by
  have q9 := hs.1
  have t0 : Int.toNat 0 = 0 := rfl
  obtain ⟨N, hN⟩ : ∃ N : Nat, A 9 0 = N := ⟨(A 9 0).toNat, by omega⟩
  have key : ∀ (n : Nat) (acc w : Int) (s : Nat) (p : Nat → Bool), w = s → s ≤ N → N - s < n → acc = ((msk p 12 : Nat) : Int) → (∀ i, i < 12 → p i = (decide (i < s) && sof A Q i)) → g_X12_sayingsOf_4 z n acc w ζ = some (((msk (sof A Q) 12 : Nat) : Int), ζ) := by
    intro n
    induction n with
    | zero => intro _ _ _ _ _ _ h; omega
    | succ n ih =>
      intro acc w s p hws hsn hn ha hp
      subst hws
      apply ok_eq
      unfold g_X12_sayingsOf_4 g_X12_sayingsOf_36
      rw [t0, rf_c h (c := 9) (by omega) (by omega), hN]
      refine ok_gk (by omega) (by omega) (ok_gI (by omega) (by omega) (by omega) (by omega) (fun g => ok_some ?_) (fun g => ?_))
      · rw [ha]
        congr 2
        refine msk_congr (fun i hi => ?_)
        rw [hp i hi]
        by_cases c : i < s
        · rw [decide_eq_true c]; rfl
        · rw [decide_eq_false c]
          unfold sof
          rw [decide_eq_false (show ¬ (i : Int) < A 9 0 by omega)]; rfl
      · have q := (hs.2 s (by omega)).1
        rw [show Int.toNat (s : Int) = s by omega, rf_c h (c := 10) (by omega) (by omega)]
        have zs := z_sh Q (n := 8) (t := (A 10 s).toNat) (by omega) (by omega)
        rw [show (((A 10 s).toNat : Nat) : Int) = A 10 s by omega] at zs
        rw [hz, zs]
        have es : sof A Q s = Q (A 10 s).toNat := by unfold sof; rw [decide_eq_true (show (s : Int) < A 9 0 by omega)]; rfl
        have dd : ∀ i, i < 12 → i ≠ s → decide (i < s) = decide (i < s + 1) := fun i _ hne => by
          by_cases c : i < s
          · rw [decide_eq_true c, decide_eq_true (by omega)]
          · rw [decide_eq_false c, decide_eq_false (by omega)]
        refine ok_gk (by omega) (by omega) ?_
        cases e : Q (A 10 s).toNat with
        | true =>
          rw [if_pos rfl]
          refine ok_gI (by omega) (by omega) (by omega) (by omega) (fun _ => ?_) (fun c => absurd rfl c)
          rw [← hz]
          refine ok_of (ih _ _ (s + 1) (fun i => p i || decide (i = s)) (by omega) (by omega) (by omega) (by rw [ha, z_in p (by omega) (by omega)]) (fun i hi => ?_))
          rw [hp i hi]
          by_cases c : i = s
          · subst c; rw [es, e]; simp
          · rw [dd i hi c]; simp [c]
        | false =>
          rw [if_neg (by decide)]
          refine ok_gI (by omega) (by omega) (by omega) (by omega) (fun c => absurd c (by omega)) (fun _ => ?_)
          rw [← hz]
          refine ok_of (ih _ _ (s + 1) p (by omega) (by omega) (by omega) (by rw [ha, z_or0 p (by omega)]) (fun i hi => ?_))
          rw [hp i hi]
          by_cases c : i = s
          · subst c; rw [es, e]; simp
          · rw [dd i hi c]
  unfold g_X12_sayingsOf
  exact key FU 0 0 0 (fun _ => false) rfl (by omega) (by rw [FU_e]; omega) (by rw [msk_0 _ (fun _ _ => rfl)]; rfl) (fun i _ => by simp)
def tb8 (n : Nat) : Nat → Bool := fun i => n.testBit i
theorem msk_tb8 {n : Nat} (h : n < 256) : msk (tb8 n) 8 = n := by
  have := int_msk (a := (n : Int)) (n := 8) (by omega) (by show (n : Int) < 256; omega)
  rw [show Int.toNat (n : Int) = n by omega] at this
  exact Int.ofNat_inj.mp this.symm
theorem tb8_msk (K : Nat → Bool) : ∀ i, i < 8 → tb8 (msk K 8) i = K i := fun i hi => by unfold tb8; rw [msk_tb, decide_eq_true hi]; rfl
theorem msk_256 (K : Nat → Bool) : msk K 8 < 256 := msk_lt K 8
theorem hh_0 {A : Nat → Nat → Int} (hk : 1 ≤ A 0 20) : Hh A (fun _ => false) := ⟨un 0, ⟨fun i _ => by unfold un; split <;> omega, fun i hi hki => by unfold un; rw [if_neg (by omega)], fun s _ hs => by unfold sof at hs; simp at hs⟩, un_nv (by omega)⟩
theorem s_bitsN (ζ : ZS) {n : Nat} (h : n < 256) : g_X12_bits (n : Int) ζ = some (((bc (tb8 n) 8 : Nat) : Int), ζ) := by
  have e : (n : Int) = ((msk (fun i => decide (i < 8) && tb8 n i) 12 : Nat) : Int) := by rw [← msk_812, msk_tb8 h]
  rw [s_bits ζ e, bc_24 (tb8 n) (by omega)]
def agV (K : Nat → Bool) (z : Int) : Int := if z = 0 then ((bc K 8 : Nat) : Int) else ((msk K 8 : Nat) : Int)
def QAg (A : Nat → Nat → Int) (z v : Int) : Prop := ((0 ≤ z ∧ z ≤ 1) ∧ ∃ K, Qcr A false (fun _ => true) (some K) ∧ v = agV K z) ∨ (¬ (0 ≤ z ∧ z ≤ 1) ∧ v = -1)
theorem qag_fun {A : Nat → Nat → Int} {z v w : Int} (h : QAg A z v) (g : QAg A z w) : v = w := by
  rcases h with ⟨p, K, q, r⟩ | ⟨p, q⟩ <;> rcases g with ⟨p', K', q', r'⟩ | ⟨p', q'⟩
  · rcases qcr_fun q q' with ⟨c, _⟩ | ⟨M, L, e1, e2, e3, e4⟩
    · cases c
    · cases e1; cases e2
      rw [r, r']; unfold agV; rw [e3, e4]
  · exact absurd p p'
  · exact absurd p' p
  · omega
theorem a_agree {A : Nat → Nat → Int} {ζ : ZS} (h : Rf A ζ) (hW : Wall A) {z : Int} (hz : r32 z) : Ok (g_X12_agree z ζ) (RP A ζ (QAg A z)) := by
  have f0 : Fx (fun x _ => x < 25 ∧ x ≠ 5) ζ (zI ζ 0 0 0) := fx_I (fx_refl _ _) (by decide)
  have h0 := rf_0 h 0
  have hs := hW.2.1
  have t0 : Int.toNat 0 = 0 := rfl
  unfold g_X12_agree
  refine ok_beq (s_within _ hz (by omega) (by omega)) (ok_bi (fun e => ok_some (rp_same h (Or.inr ⟨fun q => bd_f e q, rfl⟩))) (fun e => ?_))
  have ez := bd_t e
  have key : ∀ (m : Nat) (b w : Int) (x n : Nat) (ζ1 : ZS), b = x → w = n → n ≤ 256 → 256 - n < m → x < 256 → x ≤ n → Hh A (tb8 x) → (∀ i, i < n → Hh A (tb8 i) → ¬ btr false (tb8 i) (tb8 x)) → Rf A ζ1 → Fx (fun x _ => x < 25 ∧ x ≠ 5) ζ ζ1 → Ok (g_X12_agree_20 z m b w ζ1) (RP A ζ (QAg A z)) := by
    intro m
    induction m with
    | zero => intro _ _ _ _ _ _ _ _ h; omega
    | succ m ih =>
      intro b w x n ζ1 hb hw hn hm hx hxn hH hold h1 hf1
      subst hb; subst hw
      unfold g_X12_agree_20 g_X12_agree_84 g_X12_agree_65 g_X12_agree_66
      have bx := bc_le (tb8 x) 8
      have bn := bc_le (tb8 n) 8
      refine ok_gI (by omega) (by omega) (by omega) (by omega) (fun g => ?_) (fun g => ?_)
      · have fin : ∀ v, v = agV (tb8 x) z → RP A ζ (QAg A z) (v, ζ1) := fun v hv => ⟨Or.inl ⟨ez, tb8 x, ⟨fun _ _ _ => rfl, hH, fun c => (by cases c), fun L _ hL _ => ?_⟩, hv⟩, h1, hf1⟩
        · refine ok_gI hz.1 hz.2 (by omega) (by omega) (fun g2 => ok_beq (s_bitsN ζ1 hx) (ok_some (fin _ ?_))) (fun g2 => ok_some (fin _ ?_))
          · unfold agV; rw [if_pos g2]
          · unfold agV; rw [if_neg g2, msk_tb8 hx]
        · have lt := msk_256 L
          have eL := sof_congr hs (tb8_msk L)
          have := hold (msk L 8) (by omega) (by unfold Hh; rw [eL]; exact hL)
          unfold btr at this ⊢
          rw [bc_congr (tb8_msk L), msk_tb8 lt] at this
          exact this
      · refine ok_beq (s_bitsN ζ1 (n := n) (by omega)) (ok_beq (s_bitsN ζ1 hx) ?_)
        dsimp only
        have skip : ∀ ζ2, Rf A ζ2 → Fx (fun x _ => x < 25 ∧ x ≠ 5) ζ ζ2 → (Hh A (tb8 n) → ¬ btr false (tb8 n) (tb8 x)) → Ok (g_X12_agree_20 z m (x : Int) ((n : Int) + 1) ζ2) (RP A ζ (QAg A z)) := fun ζ2 h2 f2 hn2 => ih _ _ x (n + 1) ζ2 rfl (by omega) (by omega) (by omega) hx (by omega) hH (fun i hi hHi => by
          by_cases c : i = n
          · subst c; exact hn2 hHi
          · exact hold i (by omega) hHi) h2 f2
        refine ok_gI (by omega) (by omega) (by omega) (by omega) (fun g2 => skip ζ1 h1 hf1 (fun _ c => ?_)) (fun g2 => ?_)
        · unfold btr at c
          rw [msk_tb8 (show n < 256 by omega), msk_tb8 hx] at c
          simp at c
          omega
        · refine ok_beq (s_sayingsR h1 hs (Q := tb8 n) (by rw [msk_tb8 (by omega)])) ?_
          obtain ⟨ζ2, e1, q1⟩ := s_lay (P := sof A (tb8 n)) h1 hW.1 hs rfl
          dsimp only
          cases hc : g_X12_laysRows ((msk (sof A (tb8 n)) 12 : Nat) : Int) ζ1 with
          | none => rw [hc] at e1; cases e1
          | some q =>
            rw [hc] at e1
            have e1 : g_X12_findCorners q = some ζ2 := e1
            refine ok_beq rfl (ok_beq e1 ?_)
            have lw := l0_lw q1.1
            have hr := rf_Wq h1 q1.2
            have f2 := fx_trans hf1 (wq_25 q1.2)
            obtain ⟨nn, hnn, n44, hne, _⟩ := lb_n lw.1 (by omega)
            rw [t0, hnn]
            refine ok_gk (by omega) (by omega) (ok_gI (by omega) (by omega) (by omega) (by omega) (fun g3 => skip ζ2 hr f2 (fun c => by have := hne.mpr c; omega)) (fun g3 => ?_))
            refine ih _ _ n (n + 1) ζ2 rfl (by omega) (by omega) (by omega) (by omega) (by omega) (hne.mp (by omega)) (fun i hi hHi => ?_) hr f2
            by_cases c : i = n
            · subst c; unfold btr; simp
            · have := hold i (by omega) hHi
              unfold btr at this ⊢
              simp at this ⊢
              omega
  have e0 : ∀ i, i < 8 → (fun _ => false : Nat → Bool) i = tb8 0 i := fun i _ => by unfold tb8; simp
  exact key FU 0 0 0 0 _ rfl rfl (by omega) (by rw [FU_e]; omega) (by omega) (by omega) (by have := hh_0 (A := A) hW.1.1.1; unfold Hh at this ⊢; rw [← sof_congr hs e0]; exact this) (fun i hi => by omega) h0 f0
/-! yields -/
theorem msk_minus {S V : Nat → Bool} : ∀ n, (∀ i, i < n → S i = true → V i = true) → msk (fun i => V i && !S i) n + msk S n = msk V n ∧ bc (fun i => V i && !S i) n + bc S n = bc V n
  | 0, _ => ⟨rfl, rfl⟩
  | n + 1, h => by
    have ih := msk_minus n (fun i hi => h i (by omega))
    have hn := h n (by omega)
    simp only [msk, bc]
    by_cases c1 : S n = true <;> by_cases c2 : V n = true
    · simp [c1, c2]; omega
    · exact absurd (hn c1) c2
    · simp [c1, c2]; omega
    · simp [c1, c2]; omega
def yiV (V : Nat → Bool) (o : Option (Nat → Bool)) (z : Int) : Int := match o with
  | some K => if z = 0 then ((bc (fun i => V i && !K i) 8 : Nat) : Int) else ((msk (fun i => V i && !K i) 8 : Nat) : Int)
  | none => -1
def QYi (A : Nat → Nat → Int) (z v : Int) : Prop := ((0 ≤ z ∧ z ≤ 1) ∧ ∃ o, Qcr A true (voc A) o ∧ v = yiV (voc A) o z) ∨ (¬ (0 ≤ z ∧ z ≤ 1) ∧ v = -1)
theorem qyi_fun {A : Nat → Nat → Int} {z v w : Int} (h : QYi A z v) (g : QYi A z w) : v = w := by
  rcases h with ⟨p, K, q, r⟩ | ⟨p, q⟩ <;> rcases g with ⟨p', K', q', r'⟩ | ⟨p', q'⟩
  · rw [r, r']
    rcases qcr_fun q q' with ⟨c1, c2⟩ | ⟨M, L, e1, e2, e3, e4⟩
    · rw [c1, c2]
    · rw [e1, e2]
      have ee := msk_eq_of e3
      unfold yiV
      dsimp only
      rw [bc_congr (q := fun i => voc A i && !L i) (fun i hi => by rw [ee i hi]), msk_congr (q := fun i => voc A i && !L i) (fun i hi => by rw [ee i hi])]
  · exact absurd p p'
  · exact absurd p' p
  · omega
/-- without a set of the voices -/
def wos (A : Nat → Nat → Int) (S : Nat → Bool) : Nat → Bool := fun i => voc A i && !S i
theorem wos_bt {A : Nat → Nat → Int} {S T : Nat → Bool} (hS : sbs S (voc A)) (hT : sbs T (voc A)) : btr true (wos A S) (wos A T) ↔ (bc S 8 < bc T 8 ∨ (bc S 8 = bc T 8 ∧ msk S 8 < msk T 8)) := by
  have a := msk_minus (S := S) (V := voc A) 8 (fun i hi => hS i hi)
  have b := msk_minus (S := T) (V := voc A) 8 (fun i hi => hT i hi)
  unfold btr wos
  simp
  omega
def Goo (A : Nat → Nat → Int) (i : Nat) : Prop := sbs (tb8 i) (voc A) ∧ Hh A (wos A (tb8 i)) ∧ Sb A (Sc A (sof A (wos A (tb8 i))))
/-- the best so far: none, or a set -/
def YiS (A : Nat → Nat → Int) (n : Nat) (b : Int) : Prop := (b = -1 ∧ ∀ i, i < n → ¬ Goo A i) ∨ ∃ x : Nat, b = x ∧ x < n ∧ Goo A x ∧ ∀ i, i < n → Goo A i → bc (tb8 x) 8 ≤ bc (tb8 i) 8 ∧ (bc (tb8 x) 8 = bc (tb8 i) 8 → x ≤ i)
theorem a_yields {A : Nat → Nat → Int} {ζ : ZS} (h : Rf A ζ) (hW : Wall A) {z : Int} (hz : r32 z) : Ok (g_X12_yields z ζ) (RP A ζ (QYi A z)) := by
  have f0 : Fx (fun x _ => x < 25 ∧ x ≠ 5) ζ (zI ζ 0 0 0) := fx_I (fx_refl _ _) (by decide)
  have h0 := rf_0 h 0
  have hs := hW.2.1
  have hv := hW.2.2.1
  have t0 : Int.toNat 0 = 0 := rfl
  have h32 := hW.2.2.2.2.1
  unfold g_X12_yields
  refine ok_beq (s_within _ hz (by omega) (by omega)) (ok_bi (fun e => ok_some (rp_same h (Or.inr ⟨fun q => bd_f e q, rfl⟩))) (fun e => ?_))
  have ez := bd_t e
  have key : ∀ (m : Nat) (b w : Int) (n : Nat) (ζ1 : ZS), w = n → n ≤ 256 → 256 - n < m → YiS A n b → Rf A ζ1 → Fx (fun x _ => x < 25 ∧ x ≠ 5) ζ ζ1 → Ok (g_X12_yields_20 z m b w ζ1) (RP A ζ (QYi A z)) := by
    intro m
    induction m with
    | zero => intro _ _ _ _ _ _ h; omega
    | succ m ih =>
      intro b w n ζ1 hw hn hm hb h1 hf1
      subst hw
      have bb : -1 ≤ b ∧ b ≤ 255 := by rcases hb with ⟨q, _⟩ | ⟨x, q, q2, _⟩ <;> omega
      have ev : ζ1.1 0 23 = ((msk (voc A) 8 : Nat) : Int) := by rw [h1 0 23 (by unfold psl; omega)]; exact voc_msk hv
      unfold g_X12_yields_20 g_X12_yields_122 g_X12_yields_96
      refine ok_gI (by omega) (by omega) (by omega) (by omega) (fun g => ?_) (fun g => ?_)
      · have fin : ∀ o v, Qcr A true (voc A) o → v = yiV (voc A) o z → RP A ζ (QYi A z) (v, ζ1) := fun o v ho hv => ⟨Or.inl ⟨ez, o, ho, hv⟩, h1, hf1⟩
        have conv : ∀ L, sbs L (voc A) → Hh A L → Sb A (Sc A (sof A L)) → ∃ i, i < 256 ∧ Goo A i ∧ (∀ j, j < 8 → wos A (tb8 i) j = L j) := fun L hL hH hG => by
          have ei : ∀ j, j < 8 → wos A (tb8 (msk (fun j => voc A j && !L j) 8)) j = L j := fun j hj => by
            unfold wos
            rw [tb8_msk _ j hj]
            cases eL : L j with
            | true => rw [hL j hj eL]; rfl
            | false => cases voc A j <;> rfl
          have es := sof_congr hs ei
          refine ⟨msk (fun j => voc A j && !L j) 8, msk_256 _, ⟨fun j hj q => ?_, ?_, ?_⟩, ei⟩
          · rw [tb8_msk _ j hj] at q
            exact (Bool.and_eq_true_iff.mp q).1
          · unfold Hh; rw [es]; exact hH
          · rw [es]; exact hG
        refine ok_gI (by omega) (by omega) (by omega) (by omega) (fun g2 => ?_) (fun g2 => ok_some (fin none _ (fun L q1 q2 q3 => ?_) rfl))
        · rcases hb with ⟨q, _⟩ | ⟨x, q, q2, q3, q4⟩
          · omega
          · have hx : x < 256 := by omega
            subst q
            have ok' : Qcr A true (voc A) (some (wos A (tb8 x))) := ⟨fun i hi q => (Bool.and_eq_true_iff.mp q).1, q3.2.1, fun _ => q3.2.2, fun L l1 l2 l3 => by
              obtain ⟨i, i1, i2, i3⟩ := conv L l1 l2 (l3 rfl)
              have c := q4 i (by omega) i2
              have w := wos_bt i2.1 q3.1
              intro bt
              have : btr true (wos A (tb8 i)) (wos A (tb8 x)) := by
                unfold btr at bt ⊢
                rw [bc_congr i3, msk_congr i3]; exact bt
              have := w.mp this
              rw [msk_tb8 i1, msk_tb8 hx] at this
              omega⟩
            have e8 : ∀ i, i < 8 → (fun i => voc A i && !wos A (tb8 x) i) i = tb8 x i := fun i hi => by
              dsimp only
              unfold wos
              cases ex : tb8 x i with
              | true => rw [q3.1 i hi ex]; rfl
              | false => cases voc A i <;> rfl
            refine ok_gI hz.1 hz.2 (by omega) (by omega) (fun g3 => ok_beq (s_bitsN ζ1 hx) (ok_some (fin _ _ ok' ?_))) (fun g3 => ok_some (fin _ _ ok' ?_))
            · unfold yiV; dsimp only; rw [if_pos g3, bc_congr e8]
            · unfold yiV; dsimp only; rw [if_neg g3, msk_congr e8, msk_tb8 hx]
        · rcases hb with ⟨qa, qb⟩ | ⟨x, qa, _⟩
          · obtain ⟨i, i1, i2, _⟩ := conv L q1 q2 (q3 rfl)
            exact qb i (by omega) i2
          · omega
      · have hn8 : n < 256 := by omega
        have en : (n : Int) = ((msk (tb8 n) 8 : Nat) : Int) := by rw [msk_tb8 hn8]
        have zz : zand (n : Int) (zxor (ζ1.1 0 23) (-1)) = ((msk (fun i => tb8 n i && !voc A i) 8 : Nat) : Int) := by rw [ev, en]; exact z_andn (tb8 n) (voc A) (by omega)
        have ml := msk_31 (fun i => tb8 n i && !voc A i) (n := 8) (by omega)
        rw [zz]
        have skip : ∀ ζ2, Rf A ζ2 → Fx (fun x _ => x < 25 ∧ x ≠ 5) ζ ζ2 → (Goo A n → ∃ x : Nat, b = x ∧ bc (tb8 x) 8 ≤ bc (tb8 n) 8) → Ok (g_X12_yields_20 z m b ((n : Int) + 1) ζ2) (RP A ζ (QYi A z)) := fun ζ2 h2 f2 hn2 => ih _ _ (n + 1) ζ2 (by omega) (by omega) (by omega) (by
          rcases hb with ⟨q, q2⟩ | ⟨x, q, q2, q3, q4⟩
          · refine Or.inl ⟨q, fun i hi hG => ?_⟩
            by_cases c : i = n
            · subst c; obtain ⟨y, hy, _⟩ := hn2 hG; omega
            · exact q2 i (by omega) hG
          · refine Or.inr ⟨x, q, by omega, q3, fun i hi hG => ?_⟩
            by_cases c : i = n
            · subst c
              obtain ⟨y, hy, hle⟩ := hn2 hG
              have : y = x := by omega
              subst this
              exact ⟨hle, fun _ => by omega⟩
            · exact q4 i (by omega) hG) h2 f2
        refine ok_gI (by omega) (by omega) (by omega) (by omega) (fun g2 => ?_) (fun g2 => skip ζ1 h1 hf1 (fun hG => ?_))
        · have sub : sbs (tb8 n) (voc A) := fun i hi q => by
            have := msk_none.mp (show msk (fun i => tb8 n i && !voc A i) 8 = 0 by omega) i hi
            rw [q] at this
            simpa using this
          have tryit : (∀ x : Nat, b = x → bc (tb8 n) 8 < bc (tb8 x) 8) → Ok (g_X12_yields_53 (g_X12_yields_20 z m) z b (n : Int) ζ1) (RP A ζ (QYi A z)) := fun hlt => by
            unfold g_X12_yields_53 g_X12_yields_94 g_X12_yields_95 g_X12_yields_96
            have zw : zand (ζ1.1 0 23) (zxor (n : Int) (-1)) = ((msk (wos A (tb8 n)) 8 : Nat) : Int) := by rw [ev, en]; exact z_andn (voc A) (tb8 n) (by omega)
            refine ok_beq (s_sayingsR h1 hs zw) ?_
            obtain ⟨ζ2, e1, q1⟩ := s_lay (P := sof A (wos A (tb8 n))) h1 hW.1 hs rfl
            dsimp only
            cases hc : g_X12_laysRows ((msk (sof A (wos A (tb8 n))) 12 : Nat) : Int) ζ1 with
            | none => rw [hc] at e1; cases e1
            | some q =>
              rw [hc] at e1
              have e1 : g_X12_findCorners q = some ζ2 := e1
              refine ok_beq rfl (ok_beq e1 ?_)
              have lw := l0_lw q1.1
              have hr := rf_Wq h1 q1.2
              have f2 := fx_trans hf1 (wq_25 q1.2)
              obtain ⟨nn, hnn, n44, hne, _⟩ := lb_n lw.1 (by omega)
              rw [t0, hnn]
              have no : ∀ ζ3, Rf A ζ3 → Fx (fun x _ => x < 25 ∧ x ≠ 5) ζ ζ3 → ¬ Goo A n → Ok (g_X12_yields_20 z m b ((n : Int) + 1) ζ3) (RP A ζ (QYi A z)) := fun ζ3 h3 f3 c => skip ζ3 h3 f3 (fun hG => absurd hG c)
              refine ok_gk (by omega) (by omega) (ok_gI (by omega) (by omega) (by omega) (by omega) (fun g3 => no ζ2 hr f2 (fun c => by have := hne.mpr c.2.1; omega)) (fun g3 => ?_))
              refine ok_bind (s_sureBest hr hW.1 hW.2.2.2.1 (lv := 0) rfl (by omega) lw.1 (by omega)) (fun s ⟨s1, s2⟩ => ?_)
              have qn := qs_ne s2
              rw [s1]
              refine ok_gI (by omega) (by omega) (by omega) (by omega) (fun g4 => no ζ2 hr f2 (fun c => qn.1.mpr ((sur_sb h32).mpr c.2.2) g4)) (fun g4 => ?_)
              have gn : Goo A n := ⟨sub, hne.mp (by omega), (sur_sb h32).mp (qn.1.mp g4)⟩
              refine ih _ _ (n + 1) ζ2 (by omega) (by omega) (by omega) (Or.inr ⟨n, rfl, by omega, gn, fun i hi hG => ?_⟩) hr f2
              by_cases c : i = n
              · subst c; exact ⟨Nat.le_refl _, fun _ => by omega⟩
              · rcases hb with ⟨q, q2⟩ | ⟨x, q, q2, q3, q4⟩
                · exact absurd hG (q2 i (by omega))
                · have := (q4 i (by omega) hG).1
                  have := hlt x q
                  exact ⟨by omega, fun _ => by omega⟩
          refine ok_gI (by omega) (by omega) (by omega) (by omega) (fun g3 => tryit (fun x hx => by omega)) (fun g3 => ?_)
          obtain ⟨x, hx⟩ : ∃ x : Nat, b = x := ⟨b.toNat, by omega⟩
          subst hx
          have bx := bc_le (tb8 x) 8
          have bn := bc_le (tb8 n) 8
          refine ok_beq (s_bitsN ζ1 hn8) (ok_beq (s_bitsN ζ1 (n := x) (by omega)) ?_)
          dsimp only
          exact ok_gI (by omega) (by omega) (by omega) (by omega) (fun g4 => skip ζ1 h1 hf1 (fun _ => ⟨x, rfl, by omega⟩)) (fun g4 => tryit (fun y hy => by rw [show y = x by omega]; omega))
        · exfalso
          apply g2
          rw [msk_0 _ (fun i hi => ?_)]
          · rfl
          · cases ex : tb8 n i with
            | false => rfl
            | true => rw [hG.1 i hi ex]; rfl
  exact key FU (-1) 0 0 _ rfl (by omega) (by rw [FU_e]; omega) (Or.inl ⟨rfl, fun i hi => by omega⟩) h0 f0
