/-! agree, yields: the class -/
def sing (V : Nat → Bool) (p : Nat) : Nat → Bool := fun i => V i && decide (i = p)
theorem sof_or (A : Nat → Nat → Int) (P Q : Nat → Bool) : (fun s => sof A P s || sof A Q s) = sof A (fun i => P i || Q i) := by
  funext s
  unfold sof
  cases decide ((s : Int) < A 9 0) <;> simp
theorem bc_disj {p q : Nat → Bool} : ∀ {n : Nat}, (∀ i, i < n → p i = true → q i = true → False) → bc (fun i => p i || q i) n = bc p n + bc q n
  | 0, _ => rfl
  | n + 1, h => by
    have ih := bc_disj (n := n) (fun i hi => h i (by omega))
    have hn := h n (by omega)
    simp only [bc]
    by_cases c1 : p n = true <;> by_cases c2 : q n = true
    · exact (hn c1 c2).elim
    · simp [c1, c2]; omega
    · simp [c1, c2]; omega
    · simp [c1, c2]; omega
theorem sc_anti {A : Nat → Nat → Int} {P Q : Nat → Bool} (h : ∀ s : Nat, (s : Int) < A 9 0 → P s = true → Q s = true) : ∀ w, Sc A Q w → Sc A P w := fun _ hw => ⟨hw.1, hw.2.1, fun s h1 h2 => hw.2.2 s h1 (h s h1 h2)⟩
theorem sof_mono {A : Nat → Nat → Int} (hs : Ws A) {K L : Nat → Bool} (h : sbs K L) : ∀ s : Nat, (s : Int) < A 9 0 → sof A K s = true → sof A L s = true := fun s h1 h2 => by
  have := (hs.2 s h1).1
  unfold sof at h2 ⊢
  rw [Bool.and_eq_true] at h2 ⊢
  exact ⟨h2.1, h _ (by omega) h2.2⟩
theorem hh_anti {A : Nat → Nat → Int} (hs : Ws A) {K L : Nat → Bool} (h : sbs K L) (g : Hh A L) : Hh A K := by
  obtain ⟨w, h1, h2⟩ := g
  exact ⟨w, sc_anti (sof_mono hs h) w h1, h2⟩
theorem gg_mono {A : Nat → Nat → Int} (hs : Ws A) {must : Bool} {K L : Nat → Bool} (h : sbs K L) (g : Gg A must K) : Gg A must L := fun hm => by
  obtain ⟨t, h1, h2, h3⟩ := g hm
  exact ⟨t, h1, h2, fun u hu hi w hw => h3 u hu hi w (sc_anti (sof_mono hs h) w hw)⟩
theorem btr_sub {must : Bool} {K L : Nat → Bool} {p : Nat} (h : sbs K L) (hp : p < 8) (h1 : L p = true) (h2 : K p = false) : ¬ btr must K L := by
  have e := bc_rem (q := L) (a := p) (m := 8) hp h1
  have l := bc_lt (n := 8) (p := K) (q := fun j => L j && !decide (j = p)) (fun i hi q => by
    have : i ≠ p := fun c => by subst c; rw [h2] at q; cases q
    simp [h i hi q, this])
  unfold btr
  omega
def Kle (must : Bool) (K : Nat → Bool) (v : Int) : Prop := ∃ L, v = ((msk L 8 : Nat) : Int) ∧ ¬ btr must K L
def Kv (A : Nat → Nat → Int) (V : Nat → Bool) (must : Bool) (v : Int) : Prop := v = -1 ∨ ∃ K, v = ((msk K 8 : Nat) : Int) ∧ sbs K V ∧ Hh A K ∧ Gg A must K
theorem btr_congr {must : Bool} {K L L' : Nat → Bool} (h : msk L 8 = msk L' 8) : btr must K L ↔ btr must K L' := by
  unfold btr
  rw [bc_congr (msk_eq_of h), h]
theorem kle_trans {must : Bool} {K : Nat → Bool} {v w : Int} (h : Kle must K v) (g : ∀ L, v = ((msk L 8 : Nat) : Int) → Kle must L w) : Kle must K w := by
  obtain ⟨L, h1, h2⟩ := h
  obtain ⟨M, g1, g2⟩ := g L h1
  exact ⟨M, g1, btr_trans h2 g2⟩
def Fm (V : Nat → Bool) (j : Nat) (P K : Nat → Bool) : Prop := (∀ i, i < 8 → j ≤ i → K i = P i) ∧ sbs K V
def Wak (d : Nat) (x y : Nat) : Prop := (73 + 4 * d + 3 ≤ x ∧ x ≤ 124) ∨ x = 137 ∨ (x = 142 ∧ y = 5)
theorem ak_sc {ζ ζ' : ZS} {d : Nat} (h : Fx (Wak d) ζ ζ') : Fx Wsc ζ ζ' := fx_mono h (fun x y q => by unfold Wak at q; unfold Wsc; omega)
def AkS (A : Nat → Nat → Int) (ζ : ZS) (V : Nat → Bool) (must : Bool) : Prop := Va A ζ ∧ Rws A ζ ∧ ζ.1 142 3 = ((msk V 8 : Nat) : Int) ∧ ζ.1 142 4 = bi must ∧ ∀ p, p < 8 → ζ.1 143 p = ((msk (sof A (sing V p)) 12 : Nat) : Int)
theorem aks_fx {A : Nat → Nat → Int} {ζ ζ' : ZS} {V : Nat → Bool} {must : Bool} {d : Nat} (hs : Ws A) (h : AkS A ζ V must) (hf : Fx (Wak d) ζ ζ') : AkS A ζ' V must := by
  have e : ∀ x y, ¬ Wak d x y → ζ'.1 x y = ζ.1 x y := fun x y q => (hf.1 x y q).1
  have q9 := hs.1
  refine ⟨va_fx h.1 (fun x y g => e x y (by unfold Wak; omega)), fun s m h1 h2 => ?_, ?_, ?_, fun p hp => ?_⟩
  · rw [e _ _ (by unfold Wak; omega)]; exact h.2.1 s m h1 h2
  · rw [e _ _ (by unfold Wak; omega)]; exact h.2.2.1
  · rw [e _ _ (by unfold Wak; omega)]; exact h.2.2.2.1
  · rw [e _ _ (by unfold Wak; omega)]; exact h.2.2.2.2 p hp
theorem s_hear {A : Nat → Nat → Int} {ζ : ZS} {k d : Nat} {Q S : Nat → Bool} {z y : Int} (hw : Wa A) (hs : Ws A) (hrw : Rws A ζ) (hz : z = ((msk S 12 : Nat) : Int)) (hy : y = d) (hS : ∀ s, S s = true → (s : Int) < A 9 0) (hd : d + bc S 12 ≤ 12) (hcs : Cs ζ (73 + 4 * d) k (Sc A Q) d) : Ok (g_X2_hear z y ζ) (fun r => r.1 = ((d + bc S 12 : Nat) : Int) ∧ Cs r.2 (73 + 4 * (d + bc S 12)) k (Sc A (fun s => Q s || S s)) (d + bc S 12) ∧ Fx (fun x _ => 73 + 4 * d + 3 ≤ x ∧ x ≤ 124) ζ r.2) := by
  have q9 := hs.1
  have key : ∀ (n : Nat) (v w : Int) (s : Nat) (ζ1 : ZS), v = ((d + bc S s : Nat) : Int) → w = s → s ≤ 12 → 12 - s < n → Fx (fun x _ => 73 + 4 * d + 3 ≤ x ∧ x ≤ 124) ζ ζ1 → Cs ζ1 (73 + 4 * (d + bc S s)) k (Sc A (fun i => Q i || (S i && decide (i < s)))) (d + bc S s) → Ok (g_X2_hear_5 z n v w ζ1) (fun r => r.1 = ((d + bc S 12 : Nat) : Int) ∧ Cs r.2 (73 + 4 * (d + bc S 12)) k (Sc A (fun s => Q s || S s)) (d + bc S 12) ∧ Fx (fun x _ => 73 + 4 * d + 3 ≤ x ∧ x ≤ 124) ζ r.2) := by
    intro n
    induction n with
    | zero => intro _ _ _ _ _ _ _ h; omega
    | succ n ih =>
      intro v w s ζ1 hv hws hs12 hn hf hc
      subst hv; subst hws
      unfold g_X2_hear_5 g_X2_hear_65
      have le : ∀ a, a ≤ 12 → bc S a ≤ bc S 12 := fun a ha => by
        have := bc_24 S ha
        rw [← this]
        exact bc_lt (fun i _ q => (Bool.and_eq_true_iff.mp q).2)
      have l1 := le s hs12
      refine ok_gI (by omega) (by omega) (by omega) (by omega) (fun g => ok_some ⟨by rw [show s = 12 by omega], ?_, hf⟩) (fun g => ?_)
      · have es : s = 12 := by omega
        subst es
        refine cs_congr hc (fun w => ?_)
        unfold Sc
        refine and_congr_right (fun _ => and_congr_right (fun _ => ⟨fun q i h1 h2 => q i h1 ?_, fun q i h1 h2 => q i h1 ?_⟩))
        · rw [Bool.or_eq_true] at h2 ⊢
          rcases h2 with c | c
          · exact Or.inl c
          · have := hS i c
            exact Or.inr (by rw [c, decide_eq_true (show i < 12 by omega)]; rfl)
        · rw [Bool.or_eq_true] at h2 ⊢
          rcases h2 with c | c
          · exact Or.inl c
          · exact Or.inr (Bool.and_eq_true_iff.mp c).1
      · have hs8 : s < 12 := by omega
        have l2 := le (s + 1) (by omega)
        refine bit_test hz rfl (by omega) hs8 (fun e => ?_) (fun e => ?_)
        · have eb : bc S (s + 1) = bc S s := by simp only [bc]; rw [e]; rfl
          refine ih _ _ (s + 1) ζ1 (by rw [eb]) (by omega) (by omega) (by omega) hf ?_
          rw [eb]
          have : (fun i => Q i || (S i && decide (i < s + 1))) = (fun i => Q i || (S i && decide (i < s))) := by
            funext i
            by_cases c : i = s
            · subst c; rw [e]; rfl
            · have : decide (i < s + 1) = decide (i < s) := by
                by_cases c2 : i < s
                · rw [decide_eq_true c2, decide_eq_true (by omega)]
                · rw [decide_eq_false c2, decide_eq_false (by omega)]
              rw [this]
          rw [this]; exact hc
        · have eb : bc S (s + 1) = bc S s + 1 := by simp only [bc]; rw [e]; rfl
          have s9 := hS s e
          refine ok_gI (by omega) (by omega) (by omega) (by omega) (fun g2 => by omega) (fun g2 => ok_gk (by omega) (by omega) (ok_gk (by omega) (by omega) (ok_gk (by omega) (by omega) ?_)))
          rw [show Int.toNat (((d + bc S s : Nat) : Int) + 1) = d + bc S (s + 1) by omega, show Int.toNat ((d + bc S s : Nat) : Int) = d + bc S s by omega, show 51 + 1 + Int.toNat (s : Int) = 52 + s by omega]
          refine ok_bind (cs_cut ζ1 (73 + 4 * (d + bc S (s + 1))) (73 + 4 * (d + bc S s)) (52 + s) (r := sr A s) hc (by omega) (by omega) (ln_row s (by omega)) (by omega) (by omega) (fun m hm => by rw [(hf.1 _ _ (by omega)).1]; exact hrw s m s9 hm) (sr_bd hw hs s9)) (fun ζ2 ⟨c2, f2⟩ => ?_)
          refine ih _ _ (s + 1) ζ2 (by omega) (by omega) (by omega) (by omega) (fx_trans hf (fx_mono f2 (fun x y q => by unfold Wc at q; omega))) ?_
          have c3 := cs_mono c2 (show d + bc S s + 1 ≤ d + bc S (s + 1) by omega)
          refine cs_congr c3 (fun w => ?_)
          unfold Sc
          constructor
          · rintro ⟨⟨a, b, c⟩, r⟩
            refine ⟨a, b, fun i h1 h2 => ?_⟩
            by_cases ci : i = s
            · subst ci; exact r
            · refine c i h1 ?_
              have : decide (i < s + 1) = decide (i < s) := by
                by_cases c2 : i < s
                · rw [decide_eq_true c2, decide_eq_true (by omega)]
                · rw [decide_eq_false c2, decide_eq_false (by omega)]
              dsimp only at h2 ⊢
              rw [this] at h2
              exact h2
          · rintro ⟨a, b, c⟩
            refine ⟨⟨a, b, fun i h1 h2 => c i h1 ?_⟩, c s s9 (by dsimp only; rw [e, decide_eq_true (show s < s + 1 by omega)]; simp)⟩
            dsimp only at h2 ⊢
            rw [Bool.or_eq_true] at h2 ⊢
            rcases h2 with q | q
            · exact Or.inl q
            · rw [Bool.and_eq_true, decide_eq_true_eq] at q
              exact Or.inr (by rw [q.1, decide_eq_true (show i < s + 1 by omega)]; rfl)
  unfold g_X2_hear
  refine key FU _ 0 0 ζ (by rw [hy]; simp [bc]) rfl (by omega) (by rw [FU_e]; omega) (fx_refl _ _) ?_
  have : (fun i => Q i || (S i && decide (i < 0))) = Q := by funext i; simp
  rw [this]
  exact hcs
theorem low_msk : ∀ j : Nat, j < 9 → zshl 1 (j : Int) - 1 = ((msk (fun i => decide (i < j)) 8 : Nat) : Int) := by decide +kernel
theorem s_settle {A : Nat → Nat → Int} {ζ : ZS} {k d : Nat} {V P : Nat → Bool} {must : Bool} {z y kv : Int} (hw : Wa A) (hs : Ws A) (hak : AkS A ζ V must) (hz : z = d) (hd : d ≤ 12) (hy : y = ((msk P 8 : Nat) : Int)) (hP : sbs P V) (hcs : Cs ζ (73 + 4 * d) k (Sc A (sof A P)) d) (hH : Hh A P) (hkv : ζ.1 142 5 = kv) (hv : Kv A V must kv) : Ok (g_X2_settle z y ζ) (fun ζ' => Kv A V must (ζ'.1 142 5) ∧ (Gg A must P → Kle must P (ζ'.1 142 5)) ∧ (∀ L, kv = ((msk L 8 : Nat) : Int) → Kle must L (ζ'.1 142 5)) ∧ Fx (Wak d) ζ ζ') := by
  have self : ∀ L : Nat → Bool, ¬ btr must L L := fun L => by unfold btr; cases must <;> simp
  have mP := msk_256 P
  have bP := bc_le P 8
  have s27 : ∀ ζ1, ζ1.1 142 5 = kv → ζ1.1 142 4 = bi must → Fx (Wak d) ζ ζ1 → Gg A must P → Ok (g_X2_settle_27 y ζ1) (fun ζ' => Kv A V must (ζ'.1 142 5) ∧ (Gg A must P → Kle must P (ζ'.1 142 5)) ∧ (∀ L, kv = ((msk L 8 : Nat) : Int) → Kle must L (ζ'.1 142 5)) ∧ Fx (Wak d) ζ ζ') := by
    intro ζ1 hk1 hm1 hf1 hG
    have take : (∀ L, kv = ((msk L 8 : Nat) : Int) → ¬ btr must L P) → Ok (some (zI ζ1 142 5 y)) (fun ζ' => Kv A V must (ζ'.1 142 5) ∧ (Gg A must P → Kle must P (ζ'.1 142 5)) ∧ (∀ L, kv = ((msk L 8 : Nat) : Int) → Kle must L (ζ'.1 142 5)) ∧ Fx (Wak d) ζ ζ') := fun hb => by
      have e5 : (zI ζ1 142 5 y).1 142 5 = ((msk P 8 : Nat) : Int) := by rw [zI_1, if_pos ⟨rfl, rfl⟩]; exact hy
      refine ok_some ⟨?_, fun _ => ?_, fun L hL => ?_, fx_I hf1 (by unfold Wak; omega)⟩
      · rw [e5]; exact Or.inr ⟨P, rfl, hP, hH, hG⟩
      · rw [e5]; exact ⟨P, rfl, self P⟩
      · rw [e5]; exact ⟨P, rfl, hb L hL⟩
    have leave : (∃ K, kv = ((msk K 8 : Nat) : Int) ∧ ¬ btr must P K) → Ok (some ζ1) (fun ζ' => Kv A V must (ζ'.1 142 5) ∧ (Gg A must P → Kle must P (ζ'.1 142 5)) ∧ (∀ L, kv = ((msk L 8 : Nat) : Int) → Kle must L (ζ'.1 142 5)) ∧ Fx (Wak d) ζ ζ') := fun hb => by
      refine ok_some ⟨?_, fun _ => ?_, fun L hL => ?_, hf1⟩
      · rw [hk1]; exact hv
      · rw [hk1]; exact hb
      · rw [hk1]; exact ⟨L, hL, self L⟩
    unfold g_X2_settle_27 g_J6_bitCount_0f7a4
    have zP : zbc y = ((bc P 8 : Nat) : Int) := by rw [hy, zbc_msk P (by omega)]
    refine ok_beq rfl ?_
    dsimp only
    rw [hk1, zP]
    rcases hv with hv | ⟨K, h1, h2, h3, h4⟩
    · refine ok_gI (by omega) (by omega) (by omega) (by omega) (fun _ => ?_) (fun c => absurd hv c)
      unfold g_X2_settle_50 g_X2_settle_86 g_X2_settle_91
      exact ok_gI (by omega) (by omega) (by omega) (by omega) (fun _ => take (fun L hL => by omega)) (fun c => by omega)
    · have mK := msk_256 K
      have bK := bc_le K 8
      have kc : ∀ L, kv = ((msk L 8 : Nat) : Int) → msk K 8 = msk L 8 := fun L hL => by omega
      refine ok_gI (by omega) (by omega) (by omega) (by omega) (fun c => by omega) (fun _ => ok_beq rfl ?_)
      dsimp only
      have zK : zbc (ζ1.1 142 5) = ((bc K 8 : Nat) : Int) := by rw [hk1, h1, zbc_msk K (by omega)]
      rw [show zbc kv = ((bc K 8 : Nat) : Int) by rw [h1, zbc_msk K (by omega)]]
      unfold g_X2_settle_50 g_X2_settle_86 g_X2_settle_91
      rw [hk1, hm1, hy, h1]
      have tk : btr must P K → Ok (some (zI ζ1 142 5 ((msk P 8 : Nat) : Int))) (fun ζ' => Kv A V must (ζ'.1 142 5) ∧ (Gg A must P → Kle must P (ζ'.1 142 5)) ∧ (∀ L, ((msk K 8 : Nat) : Int) = ((msk L 8 : Nat) : Int) → Kle must L (ζ'.1 142 5)) ∧ Fx (Wak d) ζ ζ') := fun hb => by
        rw [← hy, ← h1]
        refine take (fun L hL c => ?_)
        have e := kc L hL
        unfold btr at hb c
        rw [← bc_congr (msk_eq_of e), ← e] at c
        cases must <;> simp at hb c <;> omega
      have lv : ¬ btr must P K → Ok (some ζ1) (fun ζ' => Kv A V must (ζ'.1 142 5) ∧ (Gg A must P → Kle must P (ζ'.1 142 5)) ∧ (∀ L, ((msk K 8 : Nat) : Int) = ((msk L 8 : Nat) : Int) → Kle must L (ζ'.1 142 5)) ∧ Fx (Wak d) ζ ζ') := fun hb => by
        rw [← h1]
        exact leave ⟨K, h1, hb⟩
      refine ok_gI (by omega) (by omega) (by omega) (by omega) (fun g => tk (Or.inl (by omega))) (fun g => ok_gI (by omega) (by omega) (by omega) (by omega) (fun g2 => ?_) (fun g2 => lv (fun c => by unfold btr at c; omega)))
      cases must with
      | false =>
        refine ok_gI (by decide) (by decide) (by omega) (by omega) (fun _ => ok_gI (by omega) (by omega) (by omega) (by omega) (fun g3 => lv (fun c => ?_)) (fun g3 => tk (Or.inr ⟨by omega, Or.inl ⟨rfl, by omega⟩⟩))) (fun c => absurd rfl c)
        unfold btr at c; simp at c; omega
      | true =>
        refine ok_gI (by decide) (by decide) (by omega) (by omega) (fun c => absurd c (by decide)) (fun _ => ok_gI (by omega) (by omega) (by omega) (by omega) (fun g3 => lv (fun c => ?_)) (fun g3 => tk (Or.inr ⟨by omega, Or.inr ⟨rfl, by omega⟩⟩)))
        unfold btr at c; simp at c; omega
  unfold g_X2_settle
  rw [hak.2.2.2.1]
  refine ok_bi (fun e => s27 ζ hkv hak.2.2.2.1 (fx_refl _ _) (fun c => by rw [e] at c; cases c)) (fun e => ?_)
  rw [show Int.toNat z = d by omega]
  refine ok_gk (by omega) (by omega) (ok_bind (s_surelyBest hw hak.1 hcs (by omega) (by omega)) (fun q ⟨q1, q2⟩ => ?_))
  have qn := qs_ne q1
  have fq : Fx (Wak d) ζ q.2 := fx_mono q2 (fun x y c => by unfold We at c; unfold Wak; omega)
  have k1 : q.2.1 142 5 = kv := by rw [(q2.1 142 5 (by unfold We; omega)).1]; exact hkv
  refine ok_gI (by omega) (by omega) (by omega) (by omega) (fun g => ok_some ⟨by rw [k1]; exact hv, fun c => ?_, fun L hL => by rw [k1]; exact ⟨L, hL, self L⟩, fq⟩) (fun g => s27 q.2 k1 (by rw [(q2.1 142 4 (by unfold We; omega)).1]; exact hak.2.2.2.1) fq (fun _ => qn.1.mp g))
  exact absurd g (qn.1.mpr (c e))
theorem s_ask {A : Nat → Nat → Int} {k : Nat} {V : Nat → Bool} {must : Bool} (hw : Wa A) (hs : Ws A) : ∀ (D j : Nat), j < D → j ≤ 8 → ∀ (P : Nat → Bool) (d : Nat) (z y x kv : Int) (ζ : ZS), z = (j : Int) - 1 → y = d → x = ((msk P 8 : Nat) : Int) → (∀ i, P i = true → j ≤ i ∧ i < 8 ∧ V i = true) → d = bc (sof A P) 12 → AkS A ζ V must → Cs ζ (73 + 4 * d) k (Sc A (sof A P)) d → Hh A P → ζ.1 142 5 = kv → Kv A V must kv → Ok (g_X2_ask D z y x ζ) (fun r => ∃ b : Bool, r.1 = bi b ∧ (b = true → Hh A (fun i => P i || (V i && decide (i < j)))) ∧ Kv A V must (r.2.1 142 5) ∧ (∀ K, Fm V j P K → Hh A K → Gg A must K → Kle must K (r.2.1 142 5)) ∧ (∀ L, kv = ((msk L 8 : Nat) : Int) → Kle must L (r.2.1 142 5)) ∧ Fx (Wak d) ζ r.2) := by
  have self : ∀ L : Nat → Bool, ¬ btr must L L := fun L => by unfold btr; cases must <;> simp
  intro D
  induction D with
  | zero => intro j h; omega
  | succ D ihD =>
    intro j hj hj8 P d z y x kv ζ hz hy hx hP hd hak hcs hH hkv hv
    subst hz; subst hy; subst hx
    have d12 : d ≤ 12 := by rw [hd]; exact bc_le _ 12
    have mP := msk_256 P
    unfold g_X2_ask g_X2_ask_0
    -- the search itself
    have go : Ok (g_X2_ask_41 (g_X2_ask D) ((j : Int) - 1) (d : Int) ((msk P 8 : Nat) : Int) ζ) (fun r => ∃ b : Bool, r.1 = bi b ∧ (b = true → Hh A (fun i => P i || (V i && decide (i < j)))) ∧ Kv A V must (r.2.1 142 5) ∧ (∀ K, Fm V j P K → Hh A K → Gg A must K → Kle must K (r.2.1 142 5)) ∧ (∀ L, kv = ((msk L 8 : Nat) : Int) → Kle must L (r.2.1 142 5)) ∧ Fx (Wak d) ζ r.2) := by
      unfold g_X2_ask_41
      cases j with
      | zero =>
        refine ok_gI (by omega) (by omega) (by omega) (by omega) (fun c => by omega) (fun _ => ok_bind (s_settle hw hs hak rfl d12 rfl (fun i hi q => (hP i q).2.2) hcs hH hkv hv) (fun ζ1 ⟨a1, a2, a3, a4⟩ => ok_some ⟨true, rfl, fun _ => ?_, a1, fun K hK h1 h2 => ?_, a3, a4⟩))
        · have : sof A (fun i => P i || (V i && decide (i < 0))) = sof A P := sof_congr hs (fun i _ => by simp)
          unfold Hh
          rw [this]; exact hH
        · have ek : ∀ i, i < 8 → K i = P i := fun i hi => hK.1 i hi (by omega)
          have es := sof_congr hs ek
          obtain ⟨L, l1, l2⟩ := a2 (fun hm => by rw [← es]; exact h2 hm)
          refine ⟨L, l1, fun c => l2 ?_⟩
          unfold btr at c ⊢
          rw [bc_congr ek, msk_congr ek] at c
          exact c
      | succ j =>
        have jn : ((j + 1 : Nat) : Int) - 1 = (j : Int) := by omega
        rw [jn]
        refine ok_gI (by omega) (by omega) (by omega) (by omega) (fun _ => ok_gk (by omega) (by omega) ?_) (fun c => by omega)
        have hj7 : j < 8 := by omega
        rw [show Int.toNat (j : Int) = j by omega]
        -- with this person
        obtain ⟨P', hP'⟩ : ∃ P', P' = fun i => P i || sing V j i := ⟨_, rfl⟩
        have eP' : (fun s => sof A P s || sof A (sing V j) s) = sof A P' := by rw [hP']; exact sof_or A P (sing V j)
        have Pj : P j = false := by
          cases e : P j with
          | false => rfl
          | true => have := (hP j e).1; omega
        have disj : bc (sof A P') 12 = d + bc (sof A (sing V j)) 12 := by
          rw [← eP', hd]
          refine bc_disj (fun s _ h1 h2 => ?_)
          unfold sof at h1 h2
          unfold sing at h2
          simp only [Bool.and_eq_true, decide_eq_true_eq] at h1 h2
          have := (hP _ h1.2).1
          omega
        have l12 := bc_le (sof A P') 12
        obtain ⟨e, he⟩ : ∃ e, e = d + bc (sof A (sing V j)) 12 := ⟨_, rfl⟩
        refine ok_bind (s_hear hw hs hak.2.1 (hak.2.2.2.2 j hj7) rfl (fun s q => by unfold sof at q; simp only [Bool.and_eq_true, decide_eq_true_eq] at q; exact q.1) (by omega) hcs) (fun q ⟨q1, q2, q3⟩ => ?_)
        rw [eP', ← he] at q2
        rw [← he] at q1
        have fq : Fx (Wak d) ζ q.2 := fx_mono q3 (fun x y c => Or.inl c)
        have akq := aks_fx hs hak fq
        have kvq : q.2.1 142 5 = kv := by rw [(q3.1 142 5 (by omega)).1]; exact hkv
        have csd : Cs q.2 (73 + 4 * d) k (Sc A (sof A P)) d := cs_fx hcs (fun x y g1 g2 => q3.1 x y (by omega))
        obtain ⟨nn, c3, k1, k4, c5, n42, hne, _⟩ := cs_n q2 (by omega)
        rw [q1, show Int.toNat ((e : Nat) : Int) = e by omega, c5]
        have spl : sbs P P' := fun i _ h => by rw [hP']; show (P i || sing V j i) = true; rw [h]; rfl
        have P'V : ∀ i, i < 8 → P' i = true → V i = true := fun i hi h => by
          rw [hP'] at h
          dsimp only at h
          rw [Bool.or_eq_true] at h
          rcases h with h | h
          · exact (hP i h).2.2
          · unfold sing at h; exact (Bool.and_eq_true_iff.mp h).1
        -- those without this person
        have without : ∀ (ζ1 : ZS) (kv1 : Int) (b0 : Bool), Fx (Wak d) ζ ζ1 → ζ1.1 142 5 = kv1 → Kv A V must kv1 → b0 = false → (∀ L, kv = ((msk L 8 : Nat) : Int) → Kle must L kv1) → (∀ K, Fm V (j + 1) P K → K j = true → Hh A K → Gg A must K → Kle must K kv1) → Ok ((g_X2_ask D ((j : Int) - 1) (d : Int) ((msk P 8 : Nat) : Int) ζ1).bind fun q1 => g_X2_ask_136 (g_X2_ask D) (bi b0) q1.2) (fun r => ∃ b : Bool, r.1 = bi b ∧ (b = true → Hh A (fun i => P i || (V i && decide (i < j + 1)))) ∧ Kv A V must (r.2.1 142 5) ∧ (∀ K, Fm V (j + 1) P K → Hh A K → Gg A must K → Kle must K (r.2.1 142 5)) ∧ (∀ L, kv = ((msk L 8 : Nat) : Int) → Kle must L (r.2.1 142 5)) ∧ Fx (Wak d) ζ r.2) := by
          intro ζ1 kv1 b0 f1 hk1 hv1 hb0 hL1 hK1
          subst hb0
          refine ok_bind (ihD j (by omega) (by omega) P d _ _ _ kv1 ζ1 rfl rfl rfl (fun i h => by have := hP i h; exact ⟨by omega, this.2⟩) hd (aks_fx hs hak f1) (cs_fx hcs (fun x y g1 g2 => f1.1 x y (by unfold Wak; omega))) hH hk1 hv1) (fun r ⟨b, r1, r2, r3, r4, r5, r6⟩ => ?_)
          unfold g_X2_ask_136
          refine ok_gz (Or.inl rfl) (ok_some ⟨false, rfl, fun c => (by cases c), r3, fun K hK h1 h2 => ?_, fun L hL => kle_trans (hL1 L hL) r5, fx_trans f1 r6⟩)
          cases eK : K j with
          | true => exact kle_trans (hK1 K hK eK h1 h2) r5
          | false =>
            refine r4 K ⟨fun i hi hji => ?_, hK.2⟩ h1 h2
            by_cases c : i = j
            · subst c; rw [eK, Pj]
            · exact hK.1 i hi (by omega)
        have fmw : ∀ K, Fm V (j + 1) P K → (K j = true ∨ V j = false) → Fm V j P' K := fun K hK hj' => ⟨fun i hi hji => by
          rw [hP']
          dsimp only
          unfold sing
          by_cases c : i = j
          · subst c
            rcases hj' with h | h
            · rw [h, hK.2 i hi h]; simp
            · have : K i = false := by
                cases ek : K i with
                | false => rfl
                | true => rw [hK.2 i hi ek] at h; cases h
              rw [this, Pj, h]; rfl
          · rw [hK.1 i hi (by omega)]; simp [c], hK.2⟩
        unfold g_X2_ask_112 g_X2_ask_113
        refine ok_gk (by omega) (by omega) (ok_gI (by omega) (by omega) (by omega) (by omega) (fun g => ?_) (fun g => ?_))
        · -- they cannot be
          have nH : ¬ Hh A P' := fun c => by have := hne.mpr c; omega
          refine ok_gI (by omega) (by omega) (by omega) (by omega) (fun _ => ok_gI (by omega) (by omega) (by omega) (by omega) (fun g2 => ?_) (fun g2 => ?_)) (fun c => absurd rfl c)
          · exfalso
            apply nH
            have b0 : bc (sof A (sing V j)) 12 = 0 := by omega
            have z := bc_none.mp b0
            have : sof A P' = sof A P := by
              rw [← eP']
              funext s
              by_cases c : s < 12
              · rw [z s c]; simp
              · have q9 := hs.1
                unfold sof
                rw [decide_eq_false (show ¬ (s : Int) < A 9 0 by omega)]; rfl
            unfold Hh
            rw [this]; exact hH
          · refine without q.2 kv false fq kvq hv rfl (fun L hL => ⟨L, hL, self L⟩) (fun K hK hKj h1 h2 => absurd (hh_anti hs (fun i hi h => ?_) h1) nH)
            have := (fmw K hK (Or.inl hKj)).1
            by_cases c : j ≤ i
            · rw [this i hi c]; exact h
            · rw [hP'] at h
              dsimp only at h
              rw [Bool.or_eq_true] at h
              rcases h with h | h
              · have := (hP i h).1; omega
              · unfold sing at h; simp only [Bool.and_eq_true, decide_eq_true_eq] at h; omega
        · have hH' : Hh A P' := hne.mp (by omega)
          have zb : zor ((msk P 8 : Nat) : Int) (zand (ζ.1 142 3) (zshl 1 (j : Int))) = ((msk P' 8 : Nat) : Int) := by
            rw [hak.2.2.1, z_single (n := 8) (by omega) hj7, z_and V _ (by omega), z_or P _ (by omega), hP']
            rfl
          rw [zb]
          refine ok_bind (ihD j (by omega) (by omega) P' e _ _ _ kv q.2 rfl rfl rfl (fun i h => ?_) (by omega) akq q2 hH' kvq hv) (fun r ⟨b1, r1, r2, r3, r4, r5, r6⟩ => ?_)
          · rw [hP'] at h
            dsimp only at h
            rw [Bool.or_eq_true] at h
            rcases h with h | h
            · have := hP i h; exact ⟨by omega, this.2⟩
            · unfold sing at h; simp only [Bool.and_eq_true, decide_eq_true_eq] at h; exact ⟨by omega, by omega, h.1⟩
          have f1 : Fx (Wak d) ζ r.2 := fx_trans fq (fx_mono r6 (fun x y c => by unfold Wak at *; omega))
          have eF : ∀ i, i < 8 → (fun i => P' i || (V i && decide (i < j))) i = (fun i => P i || (V i && decide (i < j + 1))) i := fun i hi => by
            rw [hP']
            dsimp only
            unfold sing
            by_cases c : i = j
            · subst c; rw [Pj, decide_eq_true (show i < i + 1 by omega), decide_eq_true (rfl : i = i), decide_eq_false (show ¬ i < i by omega)]; cases V i <;> rfl
            · have : decide (i < j + 1) = decide (i < j) := by
                by_cases c2 : i < j
                · rw [decide_eq_true c2, decide_eq_true (by omega)]
                · rw [decide_eq_false c2, decide_eq_false (by omega)]
              rw [this, decide_eq_false c]; cases P i <;> cases V i <;> rfl
          rw [r1]
          refine ok_bi (fun e1 => ?_) (fun e1 => ?_)
          · refine ok_gI (by omega) (by omega) (by omega) (by omega) (fun _ => ok_gI (by omega) (by omega) (by omega) (by omega) (fun g2 => ?_) (fun g2 => ?_)) (fun c => absurd rfl c)
            · -- who says nothing
              have b0 : bc (sof A (sing V j)) 12 = 0 := by omega
              have z := bc_none.mp b0
              unfold g_X2_ask_136
              refine ok_gz (Or.inl rfl) (ok_some ⟨false, rfl, fun c => (by cases c), r3, fun K hK h1 h2 => ?_, r5, f1⟩)
              cases eK : K j with
              | true => exact r4 K (fmw K hK (Or.inl eK)) h1 h2
              | false =>
                cases eV : V j with
                | false => exact r4 K (fmw K hK (Or.inr eV)) h1 h2
                | true =>
                  have es : sof A (fun i => K i || sing V j i) = sof A K := by
                    rw [← sof_or]
                    funext s
                    by_cases c : s < 12
                    · rw [z s c]; simp
                    · have q9 := hs.1
                      unfold sof
                      rw [decide_eq_false (show ¬ (s : Int) < A 9 0 by omega)]; rfl
                  have kp : Kle must (fun i => K i || sing V j i) (r.2.1 142 5) := by
                    refine r4 _ ⟨fun i hi hji => ?_, fun i hi h => ?_⟩ (by unfold Hh; rw [es]; exact h1) (fun hm => by rw [es]; exact h2 hm)
                    · rw [hP']
                      dsimp only
                      by_cases c : i = j
                      · subst c; rw [eK, Pj]
                      · rw [hK.1 i hi (by omega)]
                    · dsimp only at h
                      rw [Bool.or_eq_true] at h
                      rcases h with h | h
                      · exact hK.2 i hi h
                      · unfold sing at h; exact (Bool.and_eq_true_iff.mp h).1
                  obtain ⟨L, l1, l2⟩ := kp
                  exact ⟨L, l1, btr_trans (btr_sub (L := fun i => K i || sing V j i) (p := j) (fun i hi h => by dsimp only; rw [h]; rfl) hj7 (by unfold sing; rw [eV]; simp) eK) l2⟩
            · exact without r.2 (r.2.1 142 5) false f1 rfl r3 rfl r5 (fun K hK hKj h1 h2 => r4 K (fmw K hK (Or.inl hKj)) h1 h2)
          · refine ok_gI (by omega) (by omega) (by omega) (by omega) (fun c => absurd c (by omega)) (fun _ => ?_)
            unfold g_X2_ask_136
            have hF := r2 e1
            have esF := sof_congr hs eF
            refine ok_gz (Or.inr rfl) (ok_some ⟨true, rfl, fun _ => ?_, r3, fun K hK h1 h2 => ?_, r5, f1⟩)
            · unfold Hh at hF ⊢; rw [← esF]; exact hF
            · cases eK : K j with
              | true => exact r4 K (fmw K hK (Or.inl eK)) h1 h2
              | false =>
                cases eV : V j with
                | false => exact r4 K (fmw K hK (Or.inr eV)) h1 h2
                | true =>
                  have sub : sbs K (fun i => P' i || (V i && decide (i < j))) := fun i hi h => by
                    dsimp only
                    by_cases c : i < j
                    · rw [hK.2 i hi h, decide_eq_true c]; simp
                    · by_cases c2 : i = j
                      · subst c2; rw [eK] at h; cases h
                      · rw [spl i hi (by rw [← hK.1 i hi (by omega)]; exact h)]; rfl
                  obtain ⟨L, l1, l2⟩ := r4 (fun i => P' i || (V i && decide (i < j))) ⟨fun i hi hji => by dsimp only; rw [decide_eq_false (show ¬ i < j by omega)]; simp, fun i hi h => by
                    dsimp only at h
                    rw [Bool.or_eq_true] at h
                    rcases h with h | h
                    · exact P'V i hi h
                    · exact (Bool.and_eq_true_iff.mp h).1⟩ hF (gg_mono hs sub h2)
                  exact ⟨L, l1, btr_trans (btr_sub (p := j) sub hj7 (by rw [hP']; simp [sing, eV]) eK) l2⟩
    rw [hkv]
    have hkb : -1 ≤ kv ∧ kv ≤ 255 := by
      rcases hv with q | ⟨K, q, _⟩
      · omega
      · have := msk_256 K; omega
    refine ok_gI (by omega) (by omega) (by omega) (by omega) (fun _ => go) (fun g => ?_)
    rcases hv with q | ⟨K, q, k2⟩
    · exact absurd q g
    unfold g_J6_bitCount_0f7a4
    refine ok_beq rfl (ok_beq rfl ?_)
    dsimp only
    have eo : zor ((msk P 8 : Nat) : Int) (zand (ζ.1 142 3) (zshl 1 ((j : Int) - 1 + 1) - 1)) = ((msk (fun i => P i || (V i && decide (i < j))) 8 : Nat) : Int) := by
      rw [hak.2.2.1, show (j : Int) - 1 + 1 = (j : Int) by omega, low_msk j (by omega), z_and V _ (by omega), z_or P _ (by omega)]
    have z1 := zbc_msk (fun i => P i || (V i && decide (i < j))) (show 8 ≤ 24 by omega)
    have z2 : zbc (ζ.1 142 5) = ((bc K 8 : Nat) : Int) := by rw [hkv, q]; exact zbc_msk K (show 8 ≤ 24 by omega)
    simp only [eo, z1, z2]
    have b1 := bc_le K 8
    have b2 := bc_le (fun i => P i || (V i && decide (i < j))) 8
    refine ok_gI (by omega) (by omega) (by omega) (by omega) (fun _ => go) (fun g2 => ok_some ⟨false, rfl, fun c => (by cases c), by rw [hkv]; exact Or.inr ⟨K, q, k2⟩, fun K' hK' h1 h2 => ?_, fun L hL => by rw [hkv]; exact ⟨L, hL, self L⟩, fx_refl _ _⟩)
    rw [hkv]
    refine ⟨K, q, fun c => ?_⟩
    have le := bc_lt (n := 8) (p := K') (q := fun i => P i || (V i && decide (i < j))) (fun i hi h => by
      by_cases c1 : i < j
      · rw [hK'.2 i hi h, decide_eq_true c1]; simp
      · rw [← hK'.1 i hi (by omega), h]; rfl)
    unfold btr at c
    omega
def Wcr (x y : Nat) : Prop := (73 ≤ x ∧ x ≤ 124) ∨ x = 137 ∨ x = 142 ∨ x = 143
theorem cr_sc {ζ ζ' : ZS} (h : Fx Wcr ζ ζ') : Fx Wsc ζ ζ' := fx_mono h (fun x y q => by unfold Wcr at q; unfold Wsc; omega)
theorem s_crowd {A : Nat → Nat → Int} {ζ : ZS} {c : Nat} {V : Nat → Bool} {must : Bool} {z y : Int} (hW : Wall A) (h : Cf A ζ) (hc : cell2 c) (hch : Ch A ζ c) (hz : z = ((msk V 8 : Nat) : Int)) (hy : y = bi must) : Ok ((g_X2_prepare c z y ζ).bind fun q1 => g_X2_ask DEP 7 0 0 q1) (fun r => (∃ o, Qcr A must V o ∧ r.2.1 142 5 = (match o with | some K => ((msk K 8 : Nat) : Int) | none => -1)) ∧ Fx Wcr ζ r.2) := by
  have hw := hW.1
  have hs := hW.2.1
  have qk := hW.1.1
  have hc' := hc
  unfold cell2 at hc'
  obtain ⟨b1, b2, b3, k, b4, b5, -⟩ := h.2.1
  have prep : ∀ (n : Nat) (w : Int) (j : Nat) (ζ1 : ZS), w = j → j ≤ 8 → 8 - j < n → Fx Wcr ζ ζ1 → (∀ x y, x ≠ 143 → ζ1.1 x y = ζ.1 x y) → (∀ x y, ζ1.2.1 x y = ζ.2.1 x y) → (∀ p, p < j → ζ1.1 143 p = ((msk (sof A (sing V p)) 12 : Nat) : Int)) → Ok (g_X2_prepare_3 c z y n w ζ1) (fun ζ' => AkS A ζ' V must ∧ Cs ζ' (73 + 4 * 0) k (Aw k) 0 ∧ ζ'.1 142 5 = -1 ∧ Fx Wcr ζ ζ') := by
    intro n
    induction n with
    | zero => intro _ _ _ _ _ h; omega
    | succ n ih =>
      intro w j ζ1 hwj hj hn hf hsame hl hold
      subst hwj
      unfold g_X2_prepare_3
      refine ok_gI (by omega) (by omega) (by omega) (by omega) (fun g => ?_) (fun g => ?_)
      · have e0 : Int.toNat 0 = 0 := rfl
        rw [e0]
        refine ok_gz (by rw [hy]; exact bi_r must) (ok_gk (by omega) (by omega) ?_)
        have E : ∀ x y', x ≠ 142 → (zI (zI (zI ζ1 142 3 z) 142 4 y) 142 5 (-1)).1 x y' = ζ1.1 x y' := fun x y' hx => by rw [zI_1, if_neg (by omega), zI_1, if_neg (by omega), zI_1, if_neg (by omega)]
        have E3 : (zI (zI (zI ζ1 142 3 z) 142 4 y) 142 5 (-1)).1 142 3 = z := by rw [zI_1, if_neg (by omega), zI_1, if_neg (by omega), zI_1, if_pos ⟨rfl, rfl⟩]
        have E4 : (zI (zI (zI ζ1 142 3 z) 142 4 y) 142 5 (-1)).1 142 4 = y := by rw [zI_1, if_neg (by omega), zI_1, if_pos ⟨rfl, rfl⟩]
        have E5 : (zI (zI (zI ζ1 142 3 z) 142 4 y) 142 5 (-1)).1 142 5 = -1 := by rw [zI_1, if_pos ⟨rfl, rfl⟩]
        have fz : Fx Wcr ζ (zI (zI (zI ζ1 142 3 z) 142 4 y) 142 5 (-1)) := fx_I (fx_I (fx_I hf (by unfold Wcr; omega)) (by unfold Wcr; omega)) (by unfold Wcr; omega)
        have lz : ∀ x y', (zI (zI (zI ζ1 142 3 z) 142 4 y) 142 5 (-1)).2.1 x y' = ζ.2.1 x y' := hl
        generalize zI (zI (zI ζ1 142 3 z) 142 4 y) 142 5 (-1) = ζ2 at E E3 E4 E5 fz lz
        have c64 : Cs ζ2 64 k (Aw k) 0 := cs_whole (by omega) (by omega) (cn_fx b5 (fun x => by rw [E _ _ (by omega), hsame _ _ (by omega)]) (fun x => by rw [E _ _ (by omega), hsame _ _ (by omega)]) (fun x => lz _ _))
        refine ok_bind (cs_become ζ2 (73 + 4 * 0) 64 c64 (by omega) (by omega)) (fun ζ3 ⟨c3, f3⟩ => ok_some ⟨?_, c3, by rw [(f3.1 142 5 (by unfold Wb; omega)).1]; exact E5, fx_trans fz (fx_mono f3 (fun x y q => by unfold Wb at q; unfold Wcr; omega))⟩)
        have e3 : ∀ x y', ¬ (73 ≤ x ∧ x ≤ 75) → ζ3.1 x y' = ζ2.1 x y' := fun x y' hx => (f3.1 x y' (by unfold Wb; omega)).1
        refine ⟨⟨fun t m g1 g2 => ?_, ?_⟩, fun s m g1 g2 => ?_, ?_, ?_, fun p hp => ?_⟩
        · rw [e3 _ _ (by omega), E _ _ (by omega), hsame _ _ (by omega)]; exact b1.1 t m g1 g2
        · rw [e3 _ _ (by omega), E _ _ (by omega), hsame _ _ (by omega)]; exact b1.2
        · have q9 := hs.1
          rw [e3 _ _ (by omega), E _ _ (by omega), hsame _ _ (by omega)]; exact b2 s m g1 g2
        · rw [e3 _ _ (by omega), E3]; exact hz
        · rw [e3 _ _ (by omega), E4]; exact hy
        · rw [e3 _ _ (by omega), E _ _ (by omega)]; exact hold p (by omega)
      · have hj8 : j < 8 := by omega
        have ch1 : Ch A ζ1 c := ch_fx hch (fun x y g1 g2 => hsame x y (by omega))
        have zz : zand z (zshl 1 (j : Int)) = ((msk (sing V j) 8 : Nat) : Int) := by rw [hz, z_single (n := 8) (by omega) hj8, z_and V _ (by omega)]; rfl
        rw [zz, show Int.toNat (j : Int) = j by omega]
        refine ok_beq (s_sayingsOf hs ch1 rfl) (ok_gk (by omega) (by omega) (ih _ (j + 1) _ (by omega) (by omega) (by omega) (fx_I hf (by unfold Wcr; omega)) (fun x y hx => by rw [zI_1, if_neg (by omega)]; exact hsame x y hx) hl (fun p hp => ?_)))
        rw [zI_1]
        by_cases cc : p = j
        · rw [if_pos ⟨rfl, cc⟩, cc]
        · rw [if_neg (by omega)]; exact hold p (by omega)
  unfold g_X2_prepare
  refine ok_bind (prep FU 0 0 ζ rfl (by omega) (by rw [FU_e]; omega) (fx_refl _ _) (fun _ _ _ => rfl) (fun _ _ => rfl) (fun p hp => by omega)) (fun ζ1 ⟨ak, cs, k5, f1⟩ => ?_)
  have e0 : sof A (fun _ => false) = fun _ => false := by funext s; unfold sof; simp
  have cs' : Cs ζ1 (73 + 4 * 0) k (Sc A (sof A (fun _ => false))) 0 := cs_congr cs (fun w => by
    rw [e0]
    unfold Aw Sc
    exact ⟨fun q => ⟨q.1, fun i hi hki => q.2 i hi (by omega), fun s _ c => by cases c⟩, fun q => ⟨q.1, fun i hi hki => q.2.1 i hi (by omega)⟩⟩)
  refine ok_mono (s_ask (k := k) (V := V) (must := must) hw hs DEP 8 (by rw [DEP_e]; omega) (by omega) (fun _ => false) 0 7 0 0 (-1) ζ1 (by omega) rfl (by rw [msk_0 _ (fun _ _ => rfl)]; rfl) (fun i c => by cases c) (by rw [e0, bc_ff]) ak cs' (hh_0 (by omega)) k5 (Or.inl rfl)) (fun r ⟨b, r1, r2, r3, r4, r5, r6⟩ => ⟨?_, fx_trans f1 (fx_mono r6 (fun x y q => by unfold Wak at q; unfold Wcr; omega))⟩)
  rcases r3 with r3 | ⟨K, k1, k2, k3, k4⟩
  · refine ⟨none, fun L l1 l2 l3 => ?_, r3⟩
    obtain ⟨M, m1, _⟩ := r4 L ⟨fun i hi h => by omega, l1⟩ l2 l3
    omega
  · refine ⟨some K, ⟨k2, k3, k4, fun L l1 l2 l3 => ?_⟩, k1⟩
    obtain ⟨M, m1, m2⟩ := r4 L ⟨fun i hi h => by omega, l1⟩ l2 l3
    have : msk M 8 = msk K 8 := by omega
    exact fun c => m2 ((btr_congr this).mpr c)
theorem s_sizeK (ζ : ZS) {K : Nat → Bool} {v z : Int} (hv : v = ((msk K 8 : Nat) : Int)) (hz : 0 ≤ z ∧ z ≤ 1) : g_X11_sizeOrSet v z ζ = some (agV K z, ζ) := by
  have mK := msk_256 K
  apply ok_eq
  unfold g_X11_sizeOrSet g_X11_sizeOrSet_10 g_X11_sizeOrSet_18 g_J6_bitCount_0f7a4 agV
  subst hv
  refine ok_gI (by omega) (by omega) (by omega) (by omega) (fun c => by omega) (fun _ => ok_gI (by omega) (by omega) (by omega) (by omega) (fun g => ok_some (by rw [if_neg (by omega)])) (fun g => ok_beq rfl (ok_some (by rw [if_pos (by omega), zbc_msk K (by omega)]))))
theorem b_agree {A : Nat → Nat → Int} {ζ : ZS} (h : Cls A ζ) (hW : Wall A) {z : Int} (hz : r32 z) : Ok (g_X11_agree z ζ) (CP A ζ (QAg A z)) := by
  have qk := hW.1.1
  unfold g_X11_agree g_X2_mostThatAgree
  refine ok_bind (s_fresh hW h) (fun ζ1 ⟨c1, f1⟩ => ok_beq (s_isPart ζ1 hz) (ok_bi (fun e => ok_some ⟨Or.inr ⟨fun q => bd_f e q, rfl⟩, cf_cls c1, f1⟩) (fun e => ?_)))
  have ez := bd_t e
  obtain ⟨⟨⟨c, d, hc, hd, hcd, r1, r2, hch⟩, -⟩, -, -⟩ := id c1
  refine ok_rk r1 (cell_kd hc) ?_
  have e255 : (255 : Int) = ((msk (fun _ => true) 8 : Nat) : Int) := by decide
  obtain ⟨r, er, ⟨o, o1, o2⟩, fr⟩ := s_crowd (must := false) (V := fun _ => true) hW c1 hc hch e255 rfl
  have er : (g_X2_prepare c 255 0 ζ1).bind (fun q1 => g_X2_ask DEP 7 0 0 q1) = some r := er
  cases h1 : g_X2_prepare c 255 0 ζ1 with
  | none => rw [h1] at er; cases er
  | some a =>
    rw [h1] at er
    have er : g_X2_ask DEP 7 0 0 a = some r := er
    refine ok_beq (r := (r.2.1 142 5, r.2)) (by show (g_X2_ask DEP 7 0 0 a).bind _ = _; rw [er]; rfl) ?_
    cases o with
    | none => exact (o1 (fun _ => false) (fun _ _ c => by cases c) (hh_0 (by omega)) (fun c => by cases c)).elim
    | some K =>
      refine ok_beq (s_sizeK r.2 o2 ez) (ok_some ⟨Or.inl ⟨ez, K, o1, rfl⟩, cf_cls (cf_sc hW.2.1 c1 (cr_sc fr)), fx_trans f1 (wsc_26 (cr_sc fr))⟩)
theorem b_yields {A : Nat → Nat → Int} {ζ : ZS} (h : Cls A ζ) (hW : Wall A) {z : Int} (hz : r32 z) : Ok (g_X11_yields z ζ) (CP A ζ (QYi A z)) := by
  have qk := hW.1.1
  unfold g_X11_yields g_X2_fewestThatYield g_X2_fewestThatYield_36
  refine ok_bind (s_fresh hW h) (fun ζ1 ⟨c1, f1⟩ => ok_beq (s_isPart ζ1 hz) (ok_bi (fun e => ok_some ⟨Or.inr ⟨fun q => bd_f e q, rfl⟩, cf_cls c1, f1⟩) (fun e => ?_)))
  have ez := bd_t e
  obtain ⟨⟨⟨c, d, hc, hd, hcd, r1, r2, hch⟩, -, -, a2, -⟩, -, -⟩ := id c1
  refine ok_rk r1 (cell_kd hc) ?_
  have ev : ζ1.1 26 17 = ((msk (voc A) 8 : Nat) : Int) := by rw [a2]; exact voc_msk hW.2.2.1
  obtain ⟨r, er, ⟨o, o1, o2⟩, fr⟩ := s_crowd (must := true) (V := voc A) (z := ζ1.1 26 17) hW c1 hc hch ev rfl
  have er : (g_X2_prepare c (ζ1.1 26 17) 1 ζ1).bind (fun q1 => g_X2_ask DEP 7 0 0 q1) = some r := er
  dsimp only
  cases h1 : g_X2_prepare c (ζ1.1 26 17) 1 ζ1 with
  | none => rw [h1] at er; cases er
  | some a =>
    rw [h1] at er
    have er : g_X2_ask DEP 7 0 0 a = some r := er
    have fin : ∀ v, v = yiV (voc A) o z → CP A ζ (QYi A z) (v, r.2) := fun v hv => ⟨Or.inl ⟨ez, o, o1, hv⟩, cf_cls (cf_sc hW.2.1 c1 (cr_sc fr)), fx_trans f1 (wsc_26 (cr_sc fr))⟩
    cases o with
    | none =>
      have o2 : r.2.1 142 5 = -1 := o2
      refine ok_beq (r := (-1, r.2)) ?_ ?_
      · show (g_X2_ask DEP 7 0 0 a).bind _ = _
        rw [er]
        show gI (r.2.1 142 5) (-1) (r.2.1 142 5 = -1) _ _ = _
        rw [o2]
        exact ok_eq (ok_gI (by omega) (by omega) (by omega) (by omega) (fun _ => ok_some rfl) (fun c => absurd rfl c))
      · unfold g_X11_sizeOrSet g_X11_sizeOrSet_10 g_X11_sizeOrSet_18
        refine ok_beq (r := (-1, r.2)) (ok_eq (ok_gI (by dsimp only; omega) (by dsimp only; omega) (by omega) (by omega) (fun _ => ok_some rfl) (fun c => absurd rfl c))) (ok_some (fin (-1) rfl))
    | some K =>
      have o2 : r.2.1 142 5 = ((msk K 8 : Nat) : Int) := o2
      have mK := msk_256 K
      have zk : zand (ζ1.1 26 17) (zxor ((msk K 8 : Nat) : Int) (-1)) = ((msk (fun i => voc A i && !K i) 8 : Nat) : Int) := by rw [ev]; exact z_andn (voc A) K (by omega)
      refine ok_beq (r := (((msk (fun i => voc A i && !K i) 8 : Nat) : Int), r.2)) ?_ ?_
      · show (g_X2_ask DEP 7 0 0 a).bind _ = _
        rw [er]
        show gI (r.2.1 142 5) (-1) (r.2.1 142 5 = -1) _ (some (zand (ζ1.1 26 17) (zxor (r.2.1 142 5) (-1)), r.2)) = _
        rw [o2, zk]
        exact ok_eq (ok_gI (by omega) (by omega) (by omega) (by omega) (fun c => by omega) (fun _ => ok_some rfl))
      · refine ok_beq (s_sizeK r.2 (K := fun i => voc A i && !K i) rfl ez) (ok_some (fin _ ?_))
        rfl
