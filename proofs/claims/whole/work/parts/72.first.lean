/-! first -/
def dig (o i : Nat) : Nat := o / 10 ^ i % 10
def sn (o : Nat) : Nat → Nat → Bool
  | 0 => fun _ => false
  | i + 1 => fun d => sn o i d || decide (d = dig o i)
def dok (k o : Nat) : Nat → Bool
  | 0 => true
  | i + 1 => dok k o i && decide (dig o i < k) && !sn o i (dig o i)
def topB (p : Nat → Bool) (f : Nat → Int) (t : Nat) : Bool := p t && (List.range 8).all (fun u => !p u || decide (f u ≤ f t))
theorem topB_iff {p : Nat → Bool} {f : Nat → Int} {t : Nat} : topB p f t = true ↔ (p t = true ∧ ∀ u, u < 8 → p u = true → f u ≤ f t) := by
  unfold topB
  rw [Bool.and_eq_true, List.all_eq_true]
  refine and_congr_right (fun _ => ⟨fun h u hu hp => ?_, fun h u hu => ?_⟩)
  · have := h u (List.mem_range.mpr hu)
    rw [hp] at this
    simpa using this
  · cases e : p u with
    | false => rfl
    | true => simpa using h u (List.mem_range.mp hu) e
theorem qs_top {p : Nat → Bool} {f : Nat → Int} {v : Int} (h : QS (fun t => p t = true ∧ ∀ u, u < 8 → p u = true → f u ≤ f t) v) : v = ((msk (topB p f) 8 : Nat) : Int) := qs_fun h ⟨topB p f, rfl, fun _ _ => topB_iff⟩
def tops (A : Nat → Nat → Int) (k o : Nat) : Nat → Nat → Bool
  | 0 => inb A
  | j + 1 => topB (tops A k o j) (fun t => val A t (dig o (k - 1 - j)))
def QD (A : Nat → Nat → Int) (z v : Int) : Prop := (∃ o : Nat, z = o ∧ dok (A 0 20).toNat o (A 0 20).toNat = true ∧ o / 10 ^ (A 0 20).toNat = 0 ∧ v = ((msk (tops A (A 0 20).toNat o (A 0 20).toNat) 8 : Nat) : Int)) ∨ ((∀ o : Nat, z = o → ¬ (dok (A 0 20).toNat o (A 0 20).toNat = true ∧ o / 10 ^ (A 0 20).toNat = 0)) ∧ v = -1)
theorem qd_fun {A : Nat → Nat → Int} {z v w : Int} (h : QD A z v) (g : QD A z w) : v = w := by
  rcases h with ⟨o, a, b, c, d⟩ | ⟨a, b⟩ <;> rcases g with ⟨o', a', b', c', d'⟩ | ⟨a', b'⟩
  · have : o = o' := by omega
    subst this
    exact d.trans d'.symm
  · exact absurd ⟨b, c⟩ (a' o a)
  · exact absurd ⟨b', c'⟩ (a o' a')
  · omega
theorem dok_mono {k o : Nat} : ∀ {i j : Nat}, i ≤ j → dok k o j = true → dok k o i = true
  | i, 0, h, hd => by rw [show i = 0 by omega]; rfl
  | i, j + 1, h, hd => by
    by_cases c : i = j + 1
    · rw [c]; exact hd
    · unfold dok at hd
      simp only [Bool.and_eq_true] at hd
      exact dok_mono (by omega) hd.1.1
theorem dig_lt (o i : Nat) : dig o i < 10 := Nat.mod_lt _ (by decide)
theorem pw_s (o i : Nat) : o / 10 ^ (i + 1) = o / 10 ^ i / 10 := by rw [Nat.pow_succ, Nat.div_div_eq_div_mul]
theorem s_bestOf {A : Nat → Nat → Int} {ζ : ZS} (h : Rf A ζ) (hw : Wa A) {p : Nat → Bool} {m : Nat} {z y : Int} (hz : z = ((msk p 8 : Nat) : Int)) (hy : y = m) (hm : (m : Int) < A 0 20) : g_X12_bestOf z y ζ = some (((msk (topB p (fun t => val A t m)) 8 : Nat) : Int), ζ) := by
  have qk := hw.1
  have vb : ∀ t, t < 8 → 0 ≤ val A t m ∧ val A t m ≤ 100 := fun t ht => val_bd hw ht (by omega)
  have key : ∀ (n : Nat) (most set w : Int) (t : Nat), w = t → t ≤ 8 → 8 - t < n → Grz p (fun t => val A t m) t most set → most ≤ 100 → g_X12_bestOf_8 z y n most set w ζ = some (((msk (topB p (fun t => val A t m)) 8 : Nat) : Int), ζ) := by
    intro n
    induction n with
    | zero => intro _ _ _ _ _ _ h; omega
    | succ n ih =>
      intro most set w t hwt ht hn hg hmm
      subst hwt
      apply ok_eq
      have hm1 := hg.2.1
      unfold g_X12_bestOf_8 g_X12_bestOf_80
      refine ok_gI (by omega) (by omega) (by omega) (by omega) (fun g => ok_some ?_) (fun g => ?_)
      · have : t = 8 := by omega
        subst this
        rw [qs_top (grz_end hg (fun i hi => (vb i hi).1))]
      · have ht8 : t < 8 := by omega
        have v := vb t ht8
        have zs := z_sh p (n := 8) (t := t) (by omega) ht8
        rw [hz, zs]
        cases e : p t with
        | false =>
          rw [if_neg (by decide)]
          exact ok_gI (by omega) (by omega) (by omega) (by omega) (fun q => absurd q (by omega)) (fun _ => ok_of (hz ▸ ih _ _ _ (t + 1) (by omega) (by omega) (by omega) (grz_skip hg e) hmm))
        | true =>
          rw [if_pos rfl]
          refine ok_gI (by omega) (by omega) (by omega) (by omega) (fun _ => ?_) (fun q => absurd rfl q)
          rw [← hz]
          refine ok_beq (s_valueOf h hw rfl hy ht8 hm) ?_
          unfold g_X12_bestOf_65 g_X12_bestOf_79 g_X12_bestOf_80
          dsimp only
          refine ok_gI (by omega) (by omega) (by omega) (by omega) (fun q1 => ok_gI (by omega) (by omega) (by omega) (by omega) (fun q2 => ?_) (fun q2 => ?_)) (fun q1 => ?_)
          · exact ok_gI (by omega) (by omega) (by omega) (by omega) (fun _ => ok_of (ih _ _ _ (t + 1) (by omega) (by omega) (by omega) (grz_eq hg ht8 e q2) hmm)) (fun q3 => absurd q1 q3)
          · exact ok_gI (by omega) (by omega) (by omega) (by omega) (fun _ => ok_of (ih _ _ _ (t + 1) (by omega) (by omega) (by omega) (grz_lt hg (by show val A t m < most; omega)) hmm)) (fun q3 => absurd q1 q3)
          · exact ok_gI (by omega) (by omega) (by omega) (by omega) (fun q3 => absurd q3 q1) (fun _ => ok_of (ih _ _ _ (t + 1) (by omega) (by omega) (by omega) (grz_new hg ht8 e (by show most < val A t m; omega)) (by omega)))
  unfold g_X12_bestOf
  exact key FU (-1) 0 0 0 rfl (by omega) (by rw [FU_e]; omega) grz_0 (by omega)
theorem a_first {A : Nat → Nat → Int} {ζ : ZS} (h : Rf A ζ) (hW : Wall A) {z : Int} (hz : r32 z) : Ok (g_X12_first z ζ) (RP A ζ (QD A z)) := by
  have f0 : Fx (fun x _ => x < 25 ∧ x ≠ 5) ζ (zI ζ 0 0 0) := fx_I (fx_refl _ _) (by decide)
  have h0 := rf_0 h 0
  have hw := hW.1
  have qk := hW.1.1
  obtain ⟨k, hk⟩ : ∃ k : Nat, A 0 20 = k := ⟨(A 0 20).toNat, by omega⟩
  have ek : (A 0 20).toNat = k := by omega
  unfold g_X12_first
  generalize zI ζ 0 0 0 = ζ0 at f0 h0 ⊢
  have e20 : ∀ ζ1, Fx W24 ζ0 ζ1 → ζ1.1 0 20 = k := fun ζ1 hf => by rw [rf_k (rf_24 h0 hf), hk]
  have none : ∀ ζ1, Fx W24 ζ0 ζ1 → (∀ o : Nat, z = o → ¬ (dok k o k = true ∧ o / 10 ^ k = 0)) → Ok (some ((-1 : Int), ζ1)) (RP A ζ (QD A z)) := fun ζ1 hf g => ok_some ⟨Or.inr ⟨by rw [ek]; exact g, rfl⟩, rf_24 h0 hf, fx_trans f0 (fx_mono hf (fun x y q => by unfold W24 at q; show x < 25 ∧ x ≠ 5; omega))⟩
  rcases (show z < 0 ∨ 0 ≤ z by omega) with zn | zp
  · have e : FU = 4999 + 1 := rfl
    rw [e]
    unfold g_X12_first_12 g_X12_first_50
    rw [e20 ζ0 (fx_refl _ _)]
    exact ok_gI (by omega) (by omega) (by omega) (by omega) (fun g => by omega) (fun g => ok_gd hz.1 hz.2 (by omega) (by omega) (ok_gI hz.1 hz.2 (by omega) (by omega) (fun _ => none ζ0 (fx_refl _ _) (fun o ho => by omega)) (fun g2 => absurd zn g2)))
  · obtain ⟨o, ho⟩ : ∃ o : Nat, z = o := ⟨z.toNat, by omega⟩
    subst ho
    have no : ∀ ζ1 i, Fx W24 ζ0 ζ1 → i ≤ k → dok k o i = false → Ok (some ((-1 : Int), ζ1)) (RP A ζ (QD A o)) := fun ζ1 i hf hi hd => none ζ1 hf (fun o' ho' q => by
      have : o' = o := by omega
      subst this
      rw [dok_mono hi q.1] at hd; cases hd)
    -- the answer, once the order is known
    have tail : ∀ ζ1, Fx W24 ζ0 ζ1 → (∀ i, i < k → ζ1.2.1 24 (k - 1 - i) = dig o i) → dok k o k = true → o / 10 ^ k = 0 → ∀ (n : Nat) (acc w : Int) (j : Nat), w = j → j ≤ k → k - j < n → acc = ((msk (tops A k o j) 8 : Nat) : Int) → Ok (g_X12_first_137 n acc w ζ1) (RP A ζ (QD A o)) := by
      intro ζ1 hf hg hd hl n
      have h1 := rf_24 h0 hf
      induction n with
      | zero => intro _ _ _ _ _ h; omega
      | succ n ih =>
        intro acc w j hwj hj hn ha
        subst hwj
        unfold g_X12_first_137
        rw [e20 ζ1 hf, show Int.toNat (j : Int) = j by omega]
        refine ok_gI (by omega) (by omega) (by omega) (by omega) (fun g => ok_some ⟨Or.inl ⟨o, rfl, by rw [ek]; exact hd, by rw [ek]; exact hl, ?_⟩, h1, fx_trans f0 (fx_mono hf (fun x y q => by unfold W24 at q; show x < 25 ∧ x ≠ 5; omega))⟩) (fun g => ?_)
        · have : j = k := by omega
          subst this
          rw [ek]; exact ha
        · have hjk : j < k := by omega
          have eg := hg (k - 1 - j) (by omega)
          rw [show k - 1 - (k - 1 - j) = j by omega] at eg
          have hd1 := dok_mono (i := k - 1 - j + 1) (j := k) (by omega) hd
          unfold dok at hd1
          simp only [Bool.and_eq_true, decide_eq_true_eq] at hd1
          refine ok_gk (by omega) (by omega) (ok_beq (s_bestOf h1 hw ha eg (by omega)) (ih _ _ (j + 1) (by omega) (by omega) (by omega) rfl))
    have mid : ∀ ζ1, Fx W24 ζ0 ζ1 → (∀ i, i < k → ζ1.2.1 24 (k - 1 - i) = dig o i) → dok k o k = true → o / 10 ^ k = 0 → ∀ (n : Nat) (acc w : Int) (t : Nat) (p : Nat → Bool), w = t → t ≤ 8 → 8 - t < n → acc = ((msk p 8 : Nat) : Int) → (∀ i, i < 8 → p i = (decide (i < t) && inb A i)) → Ok (g_X12_first_99 n acc w ζ1) (RP A ζ (QD A o)) := by
      intro ζ1 hf hg hd hl n
      have h1 := rf_24 h0 hf
      induction n with
      | zero => intro _ _ _ _ _ _ h; omega
      | succ n ih =>
        intro acc w t p hwt ht hn ha hp
        subst hwt
        unfold g_X12_first_99 g_X12_first_125
        refine ok_gI (by omega) (by omega) (by omega) (by omega) (fun g => ?_) (fun g => ok_beq (s_isInN h1 hw rfl (by omega)) (ok_bi (fun e => ih _ _ (t + 1) p (by omega) (by omega) (by omega) ?_ (fun i hi => ?_)) (fun e => ih _ _ (t + 1) (fun i => p i || decide (i = t)) (by omega) (by omega) (by omega) ?_ (fun i hi => ?_))))
        · refine tail ζ1 hf hg hd hl FU _ 0 0 rfl (by omega) (by rw [FU_e]; omega) ?_
          rw [ha]
          congr 1
          refine msk_congr (fun i hi => ?_)
          rw [hp i hi, decide_eq_true (show i < t by omega)]; rfl
        · rw [ha, z_or0 p (by omega)]
        · rw [hp i hi]
          by_cases c : i = t
          · subst c; rw [e]; simp
          · have : decide (i < t) = decide (i < t + 1) := by
              by_cases c2 : i < t
              · rw [decide_eq_true c2, decide_eq_true (by omega)]
              · rw [decide_eq_false c2, decide_eq_false (by omega)]
            rw [this]
        · rw [ha, z_in p (by omega) (by omega)]
        · rw [hp i hi]
          by_cases c : i = t
          · subst c; rw [e]; simp
          · have : decide (i < t) = decide (i < t + 1) := by
              by_cases c2 : i < t
              · rw [decide_eq_true c2, decide_eq_true (by omega)]
              · rw [decide_eq_false c2, decide_eq_false (by omega)]
            rw [this]; simp [c]
    have key : ∀ (n : Nat) (s l w : Int) (i : Nat) (ζ1 : ZS), w = i → i ≤ k → k - i < n → s = ((msk (sn o i) 10 : Nat) : Int) → l = ((o / 10 ^ i : Nat) : Int) → Fx W24 ζ0 ζ1 → (∀ i', i' < i → ζ1.2.1 24 (k - 1 - i') = dig o i') → dok k o i = true → Ok (g_X12_first_12 (o : Int) n s l w ζ1) (RP A ζ (QD A o)) := by
      intro n
      induction n with
      | zero => intro _ _ _ _ _ _ _ h; omega
      | succ n ih =>
        intro s l w i ζ1 hwi hi hn hs hl hf hg hd
        subst hwi
        have lo : o / 10 ^ i ≤ o := Nat.div_le_self _ _
        obtain ⟨qq, hqq⟩ : ∃ q, o / 10 ^ i = q := ⟨_, rfl⟩
        have edg : dig o i = qq % 10 := by unfold dig; rw [hqq]
        have epw : o / 10 ^ (i + 1) = qq / 10 := by rw [pw_s, hqq]
        rw [hqq] at hl lo
        unfold g_X12_first_12 g_X12_first_50
        rw [e20 ζ1 hf]
        refine ok_gI (by omega) (by omega) (by omega) (by omega) (fun g => ?_) (fun g => ?_)
        · have ei : i = k := by omega
          subst ei
          refine ok_gI (by omega) (by omega) (by omega) (by omega) (fun g2 => mid ζ1 hf hg hd (by rw [hqq]; omega) FU 0 0 0 (fun _ => false) rfl (by omega) (by rw [FU_e]; omega) (by rw [msk_0 _ (fun _ _ => rfl)]; rfl) (fun i hi => rfl)) (fun g2 => none ζ1 hf (fun o' ho' q => ?_))
          have : o' = o := by omega
          subst this
          have := q.2
          omega
        · have et : Int.tmod l 10 = dig o i := by rw [hl, Int.tmod_eq_emod_of_nonneg (by omega), edg]; omega
          have ed : Int.tdiv l 10 = ((o / 10 ^ (i + 1) : Nat) : Int) := by rw [hl, Int.tdiv_eq_ediv_of_nonneg (by omega), epw]; omega
          rw [et, ed]
          have dl := dig_lt o i
          have nx : dok k o (i + 1) = (decide (dig o i < k) && !sn o i (dig o i)) := by
            show (dok k o i && decide (dig o i < k) && !sn o i (dig o i)) = _
            rw [hd, Bool.true_and]
          refine ok_gd (by omega) (by omega) (by omega) (by omega) (ok_gI (by omega) (by omega) (by omega) (by omega) (fun g2 => by omega) (fun _ => ?_))
          refine ok_gI (by omega) (by omega) (by omega) (by omega) (fun g2 => no ζ1 (i + 1) hf (by omega) (by rw [nx, decide_eq_false (by omega)]; rfl)) (fun g2 => ?_)
          have zs := z_sh (sn o i) (n := 10) (t := dig o i) (by omega) (by omega)
          rw [hs, zs]
          cases e : sn o i (dig o i) with
          | true =>
            rw [if_pos rfl]
            exact ok_gI (by omega) (by omega) (by omega) (by omega) (fun _ => no ζ1 (i + 1) hf (by omega) (by rw [nx, e]; simp)) (fun q => absurd rfl q)
          | false =>
            rw [if_neg (by decide)]
            refine ok_gI (by omega) (by omega) (by omega) (by omega) (fun q => absurd q (by omega)) (fun _ => ok_gw (by omega) (by omega) (ok_gk (by omega) (by omega) (ok_gd (by omega) (by omega) (by omega) (by omega) ?_)))
            rw [show Int.toNat ((k : Int) - 1 - i) = k - 1 - i by omega]
            refine ih _ _ _ (i + 1) _ (by omega) (by omega) (by omega) ?_ rfl (fx_J hf rfl) (fun i' hi' => ?_) (by rw [nx, e, decide_eq_true (by omega)]; rfl)
            · rw [z_in (sn o i) (by omega) (by omega)]; rfl
            · rw [zJ_2]
              by_cases c : i' = i
              · subst c; rw [if_pos ⟨rfl, rfl⟩]
              · rw [if_neg (by omega)]; exact hg i' (by omega)
    exact key FU 0 _ 0 0 ζ0 rfl (by omega) (by rw [FU_e]; omega) (by rw [msk_0 (sn o 0) (fun _ _ => rfl)]; rfl) (by rw [Nat.pow_zero, Nat.div_one]) (fx_refl _ _) (fun i' hi' => by omega) rfl
/-! the class -/
theorem s_topOf {A : Nat → Nat → Int} {ζ : ZS} (hw : Wa A) (hva : ∀ t m, t < 8 → m < 4 → ζ.1 (41 + t) m = val A t m) {p : Nat → Bool} {m : Nat} {z y : Int} (hz : z = ((msk p 8 : Nat) : Int)) (hy : y = m) (hm : m < 4) : Ok (g_X9_topOf z y ζ) (fun r => r.1 = ((msk (topB p (fun t => val A t m)) 8 : Nat) : Int) ∧ Fx (We 49) ζ r.2) := by
  have l49 : ln 49 = 8 := rfl
  subst hy
  have key : ∀ (n : Nat) (w : Int) (t : Nat) (ζ2 : ZS), w = t → t ≤ 8 → 8 - t < n → Fx (We 49) ζ ζ2 → (∀ u, u < t → ζ2.2.1 49 u = val A u m) → Ok (g_X9_topOf_2 z (m : Int) n w ζ2) (fun r => r.1 = ((msk (topB p (fun t => val A t m)) 8 : Nat) : Int) ∧ Fx (We 49) ζ r.2) := by
    intro n
    induction n with
    | zero => intro _ _ _ _ _ h; omega
    | succ n ih =>
      intro w t ζ2 hwt ht hn hf hold
      subst hwt
      unfold g_X9_topOf_2
      refine ok_gI (by omega) (by omega) (by omega) (by omega) (fun g => ok_bind (s_greatestOf (p := p) (f := fun u => val A u m) hz l49 (fun u hu => hold u (by omega)) (fun u hu => by have := val_bd hw hu hm; omega)) (fun q ⟨q1, q2⟩ => ok_some ⟨qs_top q2, by rw [q1]; exact hf⟩)) (fun g => ?_)
      have vb := val_bd hw (t := t) (m := m) (by omega) hm
      rw [show 40 + 1 + Int.toNat (t : Int) = 41 + t by omega, show Int.toNat (m : Int) = m by omega, show Int.toNat (t : Int) = t by omega, (hf.1 (41 + t) m (by unfold We; omega)).1, hva t m (by omega) hm]
      refine ok_gk (by omega) (by omega) (ok_gk (by omega) (by omega) (ok_gw (by omega) (by omega) (ok_gk (by omega) (by omega) (ih _ (t + 1) _ (by omega) (by omega) (by omega) (fx_J hf rfl) (fun u hu => ?_)))))
      rw [zJ_2]
      by_cases c : u = t
      · subst c; rw [if_pos ⟨rfl, rfl⟩]
      · rw [if_neg (by omega)]; exact hold u (by omega)
  unfold g_X9_topOf
  exact key FU 0 0 ζ rfl (by omega) (by rw [FU_e]; omega) (fx_refl _ _) (fun u hu => by omega)
def Wfi (x _y : Nat) : Prop := x = 49 ∨ x = 147
theorem b_first {A : Nat → Nat → Int} {ζ : ZS} (h : Cls A ζ) (hW : Wall A) {z : Int} (hz : r32 z) : Ok (g_X11_first z ζ) (CP A ζ (QD A z)) := by
  have hw := hW.1
  have qk := hW.1.1
  obtain ⟨k, hk⟩ : ∃ k : Nat, A 0 20 = k := ⟨(A 0 20).toNat, by omega⟩
  have ek : (A 0 20).toNat = k := by omega
  unfold g_X11_first
  refine ok_bind (s_fresh hW h) (fun ζ1 ⟨c1, f1⟩ => ?_)
  have e16 : ζ1.1 26 16 = k := by rw [c1.1.2.2.1, hk]
  have va := c1.2.1.1
  have fin : ∀ v ζ2, Fx Wfi ζ1 ζ2 → QD A z v → CP A ζ (QD A z) (v, ζ2) := fun v ζ2 hf hq => by
    have fs : Fx Wsc ζ1 ζ2 := fx_mono hf (fun x y c => by unfold Wfi at c; unfold Wsc; omega)
    exact ⟨hq, cf_cls (cf_sc hW.2.1 c1 fs), fx_trans f1 (wsc_26 fs)⟩
  have none : ∀ ζ2, Fx Wfi ζ1 ζ2 → (∀ o : Nat, z = o → ¬ (dok k o k = true ∧ o / 10 ^ k = 0)) → Ok (some ((-1 : Int), ζ2)) (CP A ζ (QD A z)) := fun ζ2 hf g => ok_some (fin _ ζ2 hf (Or.inr ⟨by rw [ek]; exact g, rfl⟩))
  rw [e16]
  rcases (show z < 0 ∨ 0 ≤ z by omega) with zn | zp
  · have nn : ∀ o : Nat, z = o → ¬ (dok k o k = true ∧ o / 10 ^ k = 0) := fun o ho => by omega
    have key : ∀ (n : Nat) (l : Int) (p : Nat → Bool) (w : Int) (i : Nat) (ζ2 : ZS), w = (k : Int) - 1 - i → i ≤ k → k - i < n → -2147483648 ≤ l → l < 0 → Fx Wfi ζ1 ζ2 → Ok (g_X11_first_16 n l ((msk p 10 : Nat) : Int) w ζ2) (CP A ζ (QD A z)) := by
      intro n
      induction n with
      | zero => intro _ _ _ _ _ _ _ h; omega
      | succ n ih =>
        intro l p w i ζ2 hwi hi hn l1 l2 hf
        subst hwi
        unfold g_X11_first_16 g_X11_first_55
        rw [(hf.1 26 16 (by unfold Wfi; omega)).1, e16]
        have tm : Int.tmod l 10 ≤ 0 ∧ -10 < Int.tmod l 10 ∧ Int.tmod l 10 = l - 10 * Int.tdiv l 10 := by
          have e := Int.tmod_def l 10
          have d : Int.tdiv l 10 = -((-l) / 10) := by rw [← Int.tdiv_eq_ediv_of_nonneg (by omega : 0 ≤ -l), Int.neg_tdiv, Int.neg_neg]
          omega
        have dd : Int.tdiv l 10 = -((-l) / 10) := by rw [← Int.tdiv_eq_ediv_of_nonneg (by omega : 0 ≤ -l), Int.neg_tdiv, Int.neg_neg]
        refine ok_gI (by omega) (by omega) (by omega) (by omega) (fun g => ok_gI (by omega) (by omega) (by omega) (by omega) (fun g2 => by omega) (fun _ => none ζ2 hf nn)) (fun g => ok_gd (by omega) (by omega) (by omega) (by omega) (ok_gd (by omega) (by omega) (by omega) (by omega) ?_))
        refine ok_gI (by omega) (by omega) (by omega) (by omega) (fun _ => none ζ2 hf nn) (fun g2 => ?_)
        have t0 : Int.tmod l 10 = 0 := by omega
        rw [t0]
        refine ok_gI (by omega) (by omega) (by omega) (by omega) (fun _ => none ζ2 hf nn) (fun g3 => ?_)
        refine bit_test (p := p) (n := 10) (t := 0) rfl rfl (by omega) (by omega) (fun e => ok_gk (by omega) (by omega) ?_) (fun e => none ζ2 hf nn)
        have zi := z_in p (n := 10) (t := 0) (by omega) (by omega)
        rw [show ((0 : Nat) : Int) = 0 from rfl] at zi
        rw [zi]
        refine ih _ _ _ (i + 1) _ (by omega) (by omega) (by omega) (by omega) (by omega) (fx_I hf (Or.inr rfl))
    have := key FU z (fun _ => false) _ 0 ζ1 rfl (by omega) (by rw [FU_e]; omega) hz.1 zn (fx_refl _ _)
    rw [msk_0 _ (fun _ _ => rfl)] at this
    rw [show (k : Int) - 1 - ((0 : Nat) : Int) = (k : Int) - 1 by omega] at this
    exact this
  · obtain ⟨o, ho⟩ : ∃ o : Nat, z = o := ⟨z.toNat, by omega⟩
    subst ho
    have no : ∀ ζ1' i, Fx Wfi ζ1 ζ1' → i ≤ k → dok k o i = false → Ok (some ((-1 : Int), ζ1')) (CP A ζ (QD A o)) := fun ζ1' i hf hi hd => none ζ1' hf (fun o' ho' q => by
      have : o' = o := by omega
      subst this
      rw [dok_mono hi q.1] at hd; cases hd)
    have tail : dok k o k = true → o / 10 ^ k = 0 → ∀ (n : Nat) (acc w : Int) (j : Nat) (ζ2 : ZS), w = j → j ≤ k → k - j < n → acc = ((msk (tops A k o j) 8 : Nat) : Int) → Fx Wfi ζ1 ζ2 → (∀ i, i < k → ζ2.1 147 (k - 1 - i) = dig o i) → Ok (g_X11_first_97 n acc w ζ2) (CP A ζ (QD A o)) := by
      intro hd hl n
      induction n with
      | zero => intro _ _ _ _ _ _ h; omega
      | succ n ih =>
        intro acc w j ζ2 hwj hj hn ha hf hg
        subst hwj
        unfold g_X11_first_97
        rw [(hf.1 26 16 (by unfold Wfi; omega)).1, e16, show Int.toNat (j : Int) = j by omega]
        refine ok_gI (by omega) (by omega) (by omega) (by omega) (fun g => ok_some (fin _ _ hf (Or.inl ⟨o, rfl, by rw [ek]; exact hd, by rw [ek]; exact hl, ?_⟩))) (fun g => ?_)
        · have : j = k := by omega
          subst this
          rw [ek]; exact ha
        · have hjk : j < k := by omega
          have eg := hg (k - 1 - j) (by omega)
          rw [show k - 1 - (k - 1 - j) = j by omega] at eg
          have hd1 := dok_mono (i := k - 1 - j + 1) (j := k) (by omega) hd
          unfold dok at hd1
          simp only [Bool.and_eq_true, decide_eq_true_eq] at hd1
          refine ok_gk (by omega) (by omega) (ok_bind (s_topOf hw (fun t m g1 g2 => by rw [(hf.1 _ _ (by unfold Wfi; omega)).1]; exact va.1 t m g1 g2) ha eg (by omega)) (fun q ⟨q1, q2⟩ => ?_))
          refine ih _ _ (j + 1) _ (by omega) (by omega) (by omega) q1 (fx_trans hf (fx_mono q2 (fun x y c => Or.inl c))) (fun i hi => ?_)
          rw [(q2.1 147 _ (by unfold We; omega)).1]; exact hg i hi
    have key : ∀ (n : Nat) (l s w : Int) (i : Nat) (ζ2 : ZS), w = (k : Int) - 1 - i → i ≤ k → k - i < n → s = ((msk (sn o i) 10 : Nat) : Int) → l = ((o / 10 ^ i : Nat) : Int) → Fx Wfi ζ1 ζ2 → (∀ i', i' < i → ζ2.1 147 (k - 1 - i') = dig o i') → dok k o i = true → Ok (g_X11_first_16 n l s w ζ2) (CP A ζ (QD A o)) := by
      intro n
      induction n with
      | zero => intro _ _ _ _ _ _ _ h; omega
      | succ n ih =>
        intro l s w i ζ2 hwi hi hn hs hl hf hg hd
        subst hwi
        have lo : o / 10 ^ i ≤ o := Nat.div_le_self _ _
        obtain ⟨qq, hqq⟩ : ∃ q, o / 10 ^ i = q := ⟨_, rfl⟩
        have edg : dig o i = qq % 10 := by unfold dig; rw [hqq]
        have epw : o / 10 ^ (i + 1) = qq / 10 := by rw [pw_s, hqq]
        rw [hqq] at hl lo
        unfold g_X11_first_16 g_X11_first_55
        rw [(hf.1 26 16 (by unfold Wfi; omega)).1, e16]
        refine ok_gI (by omega) (by omega) (by omega) (by omega) (fun g => ?_) (fun g => ?_)
        · have ei : i = k := by omega
          subst ei
          refine ok_gI (by omega) (by omega) (by omega) (by omega) (fun g2 => ?_) (fun g2 => none ζ2 hf (fun o' ho' q => ?_))
          · refine tail hd (by rw [hqq]; omega) FU _ 0 0 ζ2 rfl (by omega) (by rw [FU_e]; omega) ?_ hf hg
            rw [(hf.1 30 4 (by unfold Wfi; omega)).1]; exact va.2
          · have : o' = o := by omega
            subst this
            have := q.2
            omega
        · have et : Int.tmod l 10 = dig o i := by rw [hl, Int.tmod_eq_emod_of_nonneg (by omega), edg]; omega
          have ed : Int.tdiv l 10 = ((o / 10 ^ (i + 1) : Nat) : Int) := by rw [hl, Int.tdiv_eq_ediv_of_nonneg (by omega), epw]; omega
          rw [et, ed]
          have dl := dig_lt o i
          have nx : dok k o (i + 1) = (decide (dig o i < k) && !sn o i (dig o i)) := by
            show (dok k o i && decide (dig o i < k) && !sn o i (dig o i)) = _
            rw [hd, Bool.true_and]
          refine ok_gd (by omega) (by omega) (by omega) (by omega) (ok_gd (by omega) (by omega) (by omega) (by omega) (ok_gI (by omega) (by omega) (by omega) (by omega) (fun g2 => by omega) (fun _ => ?_)))
          refine ok_gI (by omega) (by omega) (by omega) (by omega) (fun g2 => no ζ2 (i + 1) hf (by omega) (by rw [nx, decide_eq_false (by omega)]; rfl)) (fun g2 => ?_)
          refine bit_test (p := sn o i) (n := 10) (t := dig o i) hs rfl (by omega) (by omega) (fun e => ok_gk (by omega) (by omega) ?_) (fun e => no ζ2 (i + 1) hf (by omega) (by rw [nx, e]; simp))
          rw [show Int.toNat ((k : Int) - 1 - i) = k - 1 - i by omega, hs]
          refine ih _ _ _ (i + 1) _ (by omega) (by omega) (by omega) ?_ rfl (fx_I hf (Or.inr rfl)) (fun i' hi' => ?_) (by rw [nx, e, decide_eq_true (by omega)]; rfl)
          · rw [z_in (sn o i) (by omega) (by omega)]; rfl
          · rw [zI_1]
            by_cases c : i' = i
            · subst c; rw [if_pos ⟨rfl, rfl⟩]
            · rw [if_neg (by omega)]; exact hg i' (by omega)
    exact key FU _ 0 _ 0 ζ1 (by omega) (by omega) (by rw [FU_e]; omega) (by rw [msk_0 (sn o 0) (fun _ _ => rfl)]; rfl) (by rw [Nat.pow_zero, Nat.div_one]) (fx_refl _ _) (fun i' hi' => by omega) rfl
