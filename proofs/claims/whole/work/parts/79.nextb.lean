/-! next: the class -/
theorem s_max (ζ : ZS) {a b : Int} (ha : r32 a) (hb : r32 b) : g_J9_max_7cf53 a b ζ = some (if a < b then b else a, ζ) := by
  apply ok_eq
  unfold g_J9_max_7cf53 g_J9_max_7cf53_10
  exact ok_gI (by omega) (by omega) (by omega) (by omega) (fun g => ok_some (by rw [if_pos g])) (fun g => ok_some (by rw [if_neg g]))
def MB (ζ : ZS) (B : Nat → Nat → Nat → Bool) : Prop := ∀ a b, a < 8 → b < 8 → ζ.1 139 (8 * a + b) = ((msk (B a b) 8 : Nat) : Int)
theorem s_mark {ζ : ZS} {B : Nat → Nat → Nat → Bool} {G : Nat → Int} {t : Nat} {z : Int} (hz : z = zshl 1 (t : Int)) (ht : t < 8) (hB : MB ζ B) (hg : ∀ u, u < 8 → ζ.2.1 137 u = G u ∧ 0 ≤ G u ∧ G u ≤ 2400000000) : Ok (g_X4_markBehind z ζ) (fun ζ' => MB ζ' (fun a b i => B a b i || (decide (G b ≤ G a) && decide (i = t))) ∧ Fx (We 139) ζ ζ') := by
  subst hz
  let N : Nat → Nat → Nat → Bool := fun a b i => B a b i || (decide (G b ≤ G a) && decide (i = t))
  have outer : ∀ (m : Nat) (w : Int) (a : Nat) (ζ1 : ZS), w = a → a ≤ 8 → 8 - a < m → Fx (We 139) ζ ζ1 → (∀ x y, x < 8 → y < 8 → (x < a → ζ1.1 139 (8 * x + y) = ((msk (N x y) 8 : Nat) : Int)) ∧ (a ≤ x → ζ1.1 139 (8 * x + y) = ((msk (B x y) 8 : Nat) : Int))) → Ok (g_X4_markBehind_2 (zshl 1 (t : Int)) m w ζ1) (fun ζ' => MB ζ' N ∧ Fx (We 139) ζ ζ') := by
    intro m
    induction m with
    | zero => intro _ _ _ _ _ h; omega
    | succ m ih =>
      intro w a ζ1 hw ha hm hf hold
      subst hw
      unfold g_X4_markBehind_2
      refine ok_gI (by omega) (by omega) (by omega) (by omega) (fun g => ok_some ⟨fun x y hx hy => (hold x y hx hy).1 (by omega), hf⟩) (fun g => ?_)
      have ha8 : a < 8 := by omega
      have inner : ∀ (m2 : Nat) (w : Int) (b : Nat) (ζ2 : ZS), w = b → b ≤ 8 → 8 - b < m2 → Fx (We 139) ζ ζ2 → (∀ x y, x < 8 → y < 8 → (Bf x y a b → ζ2.1 139 (8 * x + y) = ((msk (N x y) 8 : Nat) : Int)) ∧ (¬ Bf x y a b → ζ2.1 139 (8 * x + y) = ((msk (B x y) 8 : Nat) : Int))) → Ok (g_X4_markBehind_10 (zshl 1 (t : Int)) (a : Int) (g_X4_markBehind_2 (zshl 1 (t : Int)) m) m2 w ζ2) (fun ζ' => MB ζ' N ∧ Fx (We 139) ζ ζ') := by
        intro m2
        induction m2 with
        | zero => intro _ _ _ _ _ h; omega
        | succ m2 ih2 =>
          intro w b ζ2 hw hb hm2 hf2 hold2
          subst hw
          unfold g_X4_markBehind_10 g_X4_markBehind_47
          refine ok_gI (by omega) (by omega) (by omega) (by omega) (fun g1 => ih _ (a + 1) ζ2 (by omega) (by omega) (by omega) hf2 (fun x y hx hy => ⟨fun q => (hold2 x y hx hy).1 (by unfold Bf; omega), fun q => (hold2 x y hx hy).2 (by unfold Bf; omega)⟩)) (fun g1 => ?_)
          have hb8 : b < 8 := by omega
          have ga := hg a ha8
          have gb := hg b hb8
          have e1 : ζ2.2.1 137 a = G a := by rw [(hf2.1 137 a (by unfold We; omega)).2]; exact ga.1
          have e2 : ζ2.2.1 137 b = G b := by rw [(hf2.1 137 b (by unfold We; omega)).2]; exact gb.1
          rw [show Int.toNat (a : Int) = a by omega, show Int.toNat (b : Int) = b by omega, e1, e2, show Int.toNat ((a : Int) * 8 + b) = 8 * a + b by omega]
          refine ok_gk (by omega) (by omega) (ok_gk (by omega) (by omega) (ok_gJ (by omega) (by omega) (by omega) (by omega) (fun g2 => ih2 _ (b + 1) ζ2 (by omega) (by omega) (by omega) hf2 (fun x y hx hy => ⟨fun q => ?_, fun q => (hold2 x y hx hy).2 (fun c => q (bf_s.mpr (Or.inl c)))⟩)) (fun g2 => ok_gk (by omega) (by omega) (ok_gk (by omega) (by omega) (ih2 _ (b + 1) _ (by omega) (by omega) (by omega) (fx_I hf2 rfl) (fun x y hx hy => ⟨fun q => ?_, fun q => ?_⟩))))))
          · rcases bf_s.mp q with c | ⟨c1, c2⟩
            · exact (hold2 x y hx hy).1 c
            · subst c1; subst c2
              rw [(hold2 x y hx hy).2 (by unfold Bf; omega)]
              congr 1
              refine msk_congr (fun i _ => ?_)
              show B x y i = (B x y i || (decide (G y ≤ G x) && decide (i = t)))
              rw [decide_eq_false (show ¬ G y ≤ G x by omega)]; simp
          · rw [zI_1]
            by_cases c : x = a ∧ y = b
            · obtain ⟨c1, c2⟩ := c
              subst c1; subst c2
              rw [if_pos ⟨rfl, rfl⟩, (hold2 x y hx hy).2 (by unfold Bf; omega), z_in (B x y) (by omega) ht]
              congr 1
              refine msk_congr (fun i _ => ?_)
              show (B x y i || decide (i = t)) = (B x y i || (decide (G y ≤ G x) && decide (i = t)))
              rw [decide_eq_true (show G y ≤ G x by omega)]; simp
            · rw [if_neg (by omega)]
              refine (hold2 x y hx hy).1 ?_
              rcases bf_s.mp q with z | z
              · exact z
              · exact absurd z c
          · rw [zI_1, if_neg (by unfold Bf at q; omega)]
            exact (hold2 x y hx hy).2 (fun c => q (bf_s.mpr (Or.inl c)))
      exact inner FU 0 0 ζ1 rfl (by omega) (by rw [FU_e]; omega) hf (fun x y hx hy => ⟨fun q => (hold x y hx hy).1 (by unfold Bf at q; omega), fun q => (hold x y hx hy).2 (by unfold Bf at q; omega)⟩)
  unfold g_X4_markBehind
  exact outer FU 0 0 ζ rfl (by omega) (by rw [FU_e]; omega) (fx_refl _ _) (fun x y hx hy => ⟨fun q => by omega, fun _ => hB x y hx hy⟩)
def Wbe (x _y : Nat) : Prop := (73 ≤ x ∧ x ≤ 124) ∨ x = 135 ∨ x = 137 ∨ x = 139
theorem be_sc {ζ ζ' : ZS} (h : Fx Wbe ζ ζ') : Fx Wsc ζ ζ' := fx_mono h (fun x y q => by unfold Wbe at q; unfold Wsc; omega)
/-- where a thing is best, its corners tell behind which answers it may be -/
theorem mbh_so {A : Nat → Nat → Int} {X Y : V4 → Prop} {t a b : Nat} (h32 : A 0 32 = -1) (hY : (∀ w, Y w ↔ fulg A X t 0 0 8 w) ∨ (¬ NV Y ∧ ¬ NV (fulg A X t 0 0 8))) : So Y (leadv A a b) ↔ may A (cutX A X a b) t := by
  have e : ∀ w, ful A (cutX A X a b) t 8 w ↔ (fulg A X t 0 0 8 w ∧ 0 ≤ dt (leadv A a b) w) := fun w => by
    rw [ful_lead h32]
    unfold ful cutX
    constructor
    · rintro ⟨⟨p, q⟩, r⟩; exact ⟨⟨p, r⟩, q⟩
    · rintro ⟨⟨p, r⟩, q⟩; exact ⟨⟨p, q⟩, r⟩
  rcases hY with hY | ⟨h1, h2⟩
  · constructor
    · rintro ⟨w, p, q, r⟩; exact ⟨w, (e w).mpr ⟨(hY w).mp p, r⟩, q⟩
    · rintro ⟨w, p, q⟩; have := (e w).mp p; exact ⟨w, (hY w).mpr this.1, q, this.2⟩
  · constructor
    · rintro ⟨w, p, q, _⟩; exact absurd ⟨w, p, q⟩ h1
    · rintro ⟨w, p, q⟩; exact absurd ⟨w, ((e w).mp p).1, q⟩ h2
theorem s_fillBehind {A : Nat → Nat → Int} {ζ : ZS} {k : Nat} {X : V4 → Prop} (hw : Wa A) (h32 : A 0 32 = -1) (hva : Va A ζ) (hcs : Cs ζ 68 k X 12) : Ok (g_X4_fillBehind ζ) (fun ζ' => MB ζ' (mbh A X) ∧ Fx Wbe ζ ζ') := by
  have l139 : ln 139 = 64 := rfl
  have things : ∀ (m : Nat) (w : Int) (t : Nat) (B : Nat → Nat → Nat → Bool) (ζ1 : ZS), w = t → t ≤ 8 → 8 - t < m → Fx Wbe ζ ζ1 → MB ζ1 B → (∀ a b i, a < 8 → b < 8 → i < 8 → B a b i = (decide (i < t) && mbh A X a b i)) → Ok (g_X4_fillBehind_26 m w ζ1) (fun ζ' => MB ζ' (mbh A X) ∧ Fx Wbe ζ ζ') := by
    intro m
    induction m with
    | zero => intro _ _ _ _ _ _ h; omega
    | succ m ih =>
      intro w t B ζ1 hwt ht hm hf hB hBe
      subst hwt
      have va1 : Va A ζ1 := va_fx hva (fun x y g => (hf.1 x y (by unfold Wbe; omega)).1)
      have cs1 : Cs ζ1 68 k X 12 := cs_fx hcs (fun x y g1 g2 => hf.1 x y (by unfold Wbe; omega))
      unfold g_X4_fillBehind_26 g_X4_fillBehind_80
      refine ok_gI (by omega) (by omega) (by omega) (by omega) (fun g => ok_some ⟨fun a b ha hb => ?_, hf⟩) (fun g => ?_)
      · rw [hB a b ha hb]
        congr 1
        refine msk_congr (fun i hi => ?_)
        rw [hBe a b i ha hb hi, decide_eq_true (show i < t by omega)]; rfl
      · have ht8 : t < 8 := by omega
        have dt1 : ∀ i, i < 8 → i ≠ t → decide (i < t) = decide (i < t + 1) := fun i _ hne => by
          by_cases c : i < t
          · rw [decide_eq_true c, decide_eq_true (by omega)]
          · rw [decide_eq_false c, decide_eq_false (by omega)]
        refine ok_beq (s_isInC va1.2 (by omega)) ?_
        rw [inz_n ht8]
        refine ok_bi (fun e => ih _ (t + 1) B ζ1 (by omega) (by omega) (by omega) hf hB (fun a b i ha hb hi => ?_)) (fun e => ?_)
        · rw [hBe a b i ha hb hi]
          by_cases c : i = t
          · subst c
            have : mbh A X a b i = false := cdec_f.mpr (fun q => by rw [e] at q; cases q.1)
            rw [this]; simp
          · rw [dt1 i hi c]
        · have vb := val_bd hw ht8 (m := 0) (by omega)
          refine ok_bind (s_whereBest (A := A) (t := t) (m := 0) (g := 0) hw va1 cs1 rfl rfl rfl ht8 (by omega) ⟨by omega, by omega⟩) (fun q ⟨d, Y, hd, q1, q2, q3, q4⟩ => ?_)
          rw [q1]
          refine ok_rk rfl (kd_c17 d (by omega)) ?_
          have so := fun a b => mbh_so (A := A) (X := X) (a := a) (b := b) h32 q3
          have f2 : Fx Wbe ζ q.2 := fx_trans hf (fx_mono q4 (fun x y c => by unfold Ww at c; unfold Wbe; omega))
          obtain ⟨n, c3, k1, k4, c5, n42, hne, hpt, hal, hso⟩ := cs_n q2 (by omega)
          have B2 : MB q.2 B := fun a b ha hb => by rw [(q4.1 139 _ (by unfold Ww; omega)).1]; exact hB a b ha hb
          have corners : ∀ (m2 : Nat) (w : Int) (c : Nat) (C : Nat → Nat → Nat → Bool) (ζ2 : ZS), w = c → c ≤ n → n - c < m2 → Fx (fun x _ => x = 137 ∨ x = 139) q.2 ζ2 → MB ζ2 C → (∀ a b i, a < 8 → b < 8 → i < 8 → i ≠ t → C a b i = B a b i) → (∀ a b, a < 8 → b < 8 → (C a b t = true ↔ ∃ c', c' < c ∧ 0 ≤ dt (leadv A a b) (cw q.2 (73 + 4 * d) c'))) → Ok (g_X4_fillBehind_53 (t : Int) (73 + 4 * d) (g_X4_fillBehind_26 m) m2 w ζ2) (fun ζ' => MB ζ' (mbh A X) ∧ Fx Wbe ζ ζ') := by
            intro m2
            induction m2 with
            | zero => intro _ _ _ _ _ _ h; omega
            | succ m2 ih2 =>
              intro w c C ζ2 hwc hc hm2 hf2 hC hC1 hC2
              subst hwc
              unfold g_X4_fillBehind_53 g_X4_fillBehind_80
              have e5 : ζ2.1 (73 + 4 * d) 5 = n := by rw [(hf2.1 (73 + 4 * d) 5 (by omega)).1]; exact c5
              have f3 : Fx Wbe ζ ζ2 := fx_trans f2 (fx_mono hf2 (fun x y c => by unfold Wbe; omega))
              rw [e5]
              refine ok_gI (by omega) (by omega) (by omega) (by omega) (fun g1 => ih _ (t + 1) C ζ2 (by omega) (by omega) (by omega) f3 hC (fun a b i ha hb hi => ?_)) (fun g1 => ?_)
              · by_cases ci : i = t
                · subst ci
                  rw [decide_eq_true (show i < i + 1 by omega), Bool.true_and]
                  have ec : c = n := by omega
                  subst ec
                  unfold mbh
                  cases ev : C a b i with
                  | true => exact (cdec_iff.mpr ⟨e, (so a b).mp ((hso _).mp ((hC2 a b ha hb).mp ev))⟩).symm
                  | false => exact (cdec_f.mpr (fun z => by rw [(hC2 a b ha hb).mpr ((hso _).mpr ((so a b).mpr z.2))] at ev; cases ev)).symm
                · rw [hC1 a b i ha hb hi ci, hBe a b i ha hb hi, dt1 i hi ci]
              · have hcn : c < n := by omega
                have cs2 : Cs ζ2 (73 + 4 * d) k Y 19 := cs_fx q2 (fun x y g1 g2 => hf2.1 x y (by omega))
                have er : cw ζ2 (73 + 4 * d) c = cw q.2 (73 + 4 * d) c := by funext x; exact (hf2.1 (73 + 4 * d + 1) _ (by omega)).2
                have va2 : Va A ζ2 := va_fx hva (fun x y g => (f3.1 x y (by unfold Wbe; omega)).1)
                refine ok_bind (s_fillGoods hw va2 cs2 (by omega) (by omega) rfl e5 hcn) (fun ζ3 ⟨g3, f4⟩ => ?_)
                have C3 : MB ζ3 C := fun a b ha hb => by rw [(f4.1 139 _ (by unfold We; omega)).1]; exact hC a b ha hb
                refine ok_bind (s_mark (G := fun u => dt (vv A u) (cw q.2 (73 + 4 * d) c)) rfl ht8 C3 (fun u hu => ?_)) (fun ζ4 ⟨M4, f5⟩ => ?_)
                · rw [g3 u hu, er]
                  exact ⟨rfl, vv_nn hw hu (hpt c hcn).2.2.1⟩
                · refine ih2 _ (c + 1) _ ζ4 (by omega) (by omega) (by omega) (fx_trans hf2 (fx_trans (fx_mono f4 (fun x y c => Or.inl c)) (fx_mono f5 (fun x y c => Or.inr c)))) M4 (fun a b i ha hb hi hne => ?_) (fun a b ha hb => ?_)
                  · rw [decide_eq_false hne, Bool.and_false, Bool.or_false]; exact hC1 a b i ha hb hi hne
                  · rw [Bool.or_eq_true, hC2 a b ha hb, decide_eq_true (rfl : t = t), Bool.and_true, decide_eq_true_eq]
                    have el : (dt (vv A b) (cw q.2 (73 + 4 * d) c) ≤ dt (vv A a) (cw q.2 (73 + 4 * d) c)) ↔ 0 ≤ dt (leadv A a b) (cw q.2 (73 + 4 * d) c) := by rw [dt_lead]; omega
                    rw [el]
                    constructor
                    · rintro (⟨c', h1, h2⟩ | h2)
                      · exact ⟨c', by omega, h2⟩
                      · exact ⟨c, by omega, h2⟩
                    · rintro ⟨c', h1, h2⟩
                      by_cases cc : c' = c
                      · subst cc; exact Or.inr h2
                      · exact Or.inl ⟨c', by omega, h2⟩
          refine corners FU 0 0 B q.2 rfl (by omega) (by rw [FU_e]; omega) (fx_refl _ _) B2 (fun a b i _ _ _ _ => rfl) (fun a b ha hb => ⟨fun z => ?_, fun ⟨c', h1, _⟩ => by omega⟩)
          rw [hBe a b t ha hb ht8, decide_eq_false (show ¬ t < t by omega)] at z; cases z
  have zero : ∀ (m : Nat) (w : Int) (j : Nat) (ζ1 : ZS), w = j → j ≤ 64 → 64 - j < m → Fx Wbe ζ ζ1 → (∀ i, i < j → ζ1.1 139 i = 0) → Ok (g_X4_fillBehind_2 m w ζ1) (fun ζ' => MB ζ' (mbh A X) ∧ Fx Wbe ζ ζ') := by
    intro m
    induction m with
    | zero => intro _ _ _ _ _ h; omega
    | succ m ih =>
      intro w j ζ1 hw0 hj hm hf hold
      subst hw0
      unfold g_X4_fillBehind_2
      rw [l139]
      refine ok_gI (by omega) (by omega) (by omega) (by omega) (fun g => things FU 0 0 (fun _ _ _ => false) ζ1 rfl (by omega) (by rw [FU_e]; omega) hf (fun a b ha hb => by rw [hold _ (by omega), msk_0 _ (fun _ _ => rfl)]; rfl) (fun a b i _ _ _ => rfl)) (fun g => ok_gk (by omega) (by omega) (ih _ (j + 1) _ (by omega) (by omega) (by omega) (fx_I hf (by unfold Wbe; omega)) (fun i hi => ?_)))
      rw [zI_1, show Int.toNat (j : Int) = j by omega]
      by_cases c : i = j
      · rw [if_pos ⟨rfl, c⟩]
      · rw [if_neg (by omega)]; exact hold i (by omega)
  unfold g_X4_fillBehind
  exact zero FU 0 0 ζ rfl (by omega) (by rw [FU_e]; omega) (fx_refl _ _) (fun i hi => by omega)
theorem s_greaterCount {A : Nat → Nat → Int} {ζ : ZS} {X : V4 → Prop} {a b : Nat} {z : Int} (hM : MB ζ (mbh A X)) (ha : a < 8) (hb : b < 8) (hz : z = ((8 * a + b : Nat) : Int)) : g_X4_greaterCount z ζ = some (((mxh A X a b : Nat) : Int), ζ) := by
  have l139 : ln 139 = 64 := rfl
  apply ok_eq
  unfold g_X4_greaterCount g_X4_greaterCount_13 g_J6_bitCount_0f7a4
  have ed : Int.tdiv z 8 = a := by rw [Int.tdiv_eq_ediv_of_nonneg (by omega)]; omega
  have em : Int.tmod z 8 = b := by rw [Int.tmod_eq_emod_of_nonneg (by omega)]; omega
  rw [ed, em, l139, show Int.toNat ((a : Int) * 8 + b) = 8 * a + b by omega, show Int.toNat ((b : Int) * 8 + a) = 8 * b + a by omega]
  have b1 := nbh_8 A X a b
  have b2 := nbh_8 A X b a
  have z1 : zbc (ζ.1 139 (8 * a + b)) = ((nbh A X a b : Nat) : Int) := by rw [hM a b ha hb, zbc_msk _ (by omega)]; rfl
  have z2 : zbc (ζ.1 139 (8 * b + a)) = ((nbh A X b a : Nat) : Int) := by rw [hM b a hb ha, zbc_msk _ (by omega)]; rfl
  refine ok_gI (by omega) (by omega) (by omega) (by omega) (fun g => by omega) (fun _ => ok_gI (by omega) (by omega) (by omega) (by omega) (fun _ => ok_gd (by omega) (by omega) (by omega) (by omega) (ok_gd (by omega) (by omega) (by omega) (by omega) (ok_gk (by omega) (by omega) (ok_beq rfl (ok_gk (by omega) (by omega) (ok_beq rfl ?_)))))) (fun g => by omega))
  dsimp only
  rw [z1, z2]
  refine ok_beq (s_max ζ (by omega) (by omega)) (ok_some ?_)
  dsimp only
  congr 1
  unfold mxh
  by_cases c : nbh A X a b ≤ nbh A X b a
  · rw [if_pos c]
    by_cases c2 : nbh A X a b < nbh A X b a
    · rw [if_pos (by omega)]
    · rw [if_neg (by omega)]; omega
  · rw [if_neg c, if_neg (by omega)]
theorem bc_pair {p : Nat → Bool} : ∀ {n : Nat}, 2 ≤ bc p n → ∃ a b, a < b ∧ b < n ∧ p a = true ∧ p b = true
  | 0, h => by simp [bc] at h
  | n + 1, h => by
    simp only [bc] at h
    by_cases c : 2 ≤ bc p n
    · obtain ⟨a, b, h1, h2, h3⟩ := bc_pair c
      exact ⟨a, b, h1, by omega, h3⟩
    · have pn : p n = true := by
        apply Classical.byContradiction
        intro z
        rw [if_neg z] at h; omega
      have one : ∀ m, 1 ≤ bc p m → ∃ a, a < m ∧ p a = true := by
        intro m
        induction m with
        | zero => intro h; simp [bc] at h
        | succ m ih =>
          intro h
          by_cases z : p m = true
          · exact ⟨m, by omega, z⟩
          · simp only [bc] at h
            rw [if_neg z] at h
            obtain ⟨a, q1, q2⟩ := ih (by omega)
            exact ⟨a, by omega, q2⟩
      rw [if_pos pn] at h
      obtain ⟨a, q1, q2⟩ := one n (by omega)
      exact ⟨a, n, q1, by omega, q2, pn⟩
/-- none yet, or the best question so far -/
def NxC (A : Nat → Nat → Int) (X : V4 → Prop) (a b : Nat) (v : Int) : Prop := (Pnn (inb A) a b ∧ v = -1) ∨ ∃ c d : Nat, v = ((8 * c + d : Nat) : Int) ∧ Bf c d a b ∧ Pff (inb A) (mxh A X) a b c d
theorem s_partsMost {A : Nat → Nat → Int} {ζ : ZS} {k : Nat} {X : V4 → Prop} (hw : Wa A) (h32 : A 0 32 = -1) (hva : Va A ζ) (hcs : Cs ζ 68 k X 12) : Ok (g_X4_partsMost ζ) (fun r => NxC A X 8 9 r.1 ∧ MB r.2 (mbh A X) ∧ Fx Wbe ζ r.2) := by
  unfold g_X4_partsMost
  refine ok_bind (s_fillBehind hw h32 hva hcs) (fun ζ1 ⟨M1, f1⟩ => ?_)
  have va1 : Va A ζ1 := va_fx hva (fun x y g => (f1.1 x y (by unfold Wbe; omega)).1)
  have vb : ∀ {a b v}, NxC A X a b v → -1 ≤ v ∧ v ≤ 63 := fun {a b v} h => by
    rcases h with ⟨_, q⟩ | ⟨c, d, q, _, q2⟩
    · omega
    · have := q2.1; omega
  have outer : ∀ (m : Nat) (v w : Int) (a : Nat), w = a → a ≤ 8 → 8 - a < m → NxC A X a (a + 1) v → Ok (g_X4_partsMost_8 m v w ζ1) (fun r => NxC A X 8 9 r.1 ∧ MB r.2 (mbh A X) ∧ Fx Wbe ζ r.2) := by
    intro m
    induction m with
    | zero => intro _ _ _ _ _ h; omega
    | succ m ih =>
      intro v w a hwa ha hm hs
      subst hwa
      unfold g_X4_partsMost_8
      refine ok_gI (by omega) (by omega) (by omega) (by omega) (fun g => ok_some ⟨?_, M1, f1⟩) (fun g => ?_)
      · have : a = 8 := by omega
        subst this
        exact hs
      · have ha8 : a < 8 := by omega
        have inner : ∀ (m2 : Nat) (v w : Int) (b : Nat), w = b → a < b → b ≤ 8 → 8 - b < m2 → NxC A X a b v → Ok (g_X4_partsMost_18 (a : Int) (g_X4_partsMost_8 m) m2 v w ζ1) (fun r => NxC A X 8 9 r.1 ∧ MB r.2 (mbh A X) ∧ Fx Wbe ζ r.2) := by
          intro m2
          induction m2 with
          | zero => intro _ _ _ _ _ _ h; omega
          | succ m2 ih2 =>
            intro v w b hwb hab hb hm2 hs2
            subst hwb
            have vv2 := vb hs2
            unfold g_X4_partsMost_18 g_X4_partsMost_58 g_X4_partsMost_59 g_X4_partsMost_88 g_X4_partsMost_85
            refine ok_gI (by omega) (by omega) (by omega) (by omega) (fun g1 => ih v _ (a + 1) (by omega) (by omega) (by omega) ?_) (fun g1 => ?_)
            · have eb : b = 8 := by omega
              subst eb
              rcases hs2 with ⟨q0, q1⟩ | ⟨c, d, q1, q5, q4⟩
              · exact Or.inl ⟨pn_row q0, q1⟩
              · exact Or.inr ⟨c, d, q1, (bf_row q4.1.1 q4.1.2.1).mp q5, pf_row q4⟩
            · have hb8 : b < 8 := by omega
              have skip : ¬ (inb A a = true ∧ inb A b = true) → Ok (g_X4_partsMost_18 (a : Int) (g_X4_partsMost_8 m) m2 v ((b : Int) + 1) ζ1) (fun r => NxC A X 8 9 r.1 ∧ MB r.2 (mbh A X) ∧ Fx Wbe ζ r.2) := fun hn => by
                refine ih2 v _ (b + 1) (by omega) (by omega) (by omega) (by omega) ?_
                rcases hs2 with ⟨q0, q1⟩ | ⟨c, d, q1, q5, q4⟩
                · exact Or.inl ⟨pn_skip q0 hn, q1⟩
                · exact Or.inr ⟨c, d, q1, bf_s.mpr (Or.inl q5), pf_skip q4 hn⟩
              have z0 : ∀ Z : Option (Int × ZS), ¬ (inb A a = true ∧ inb A b = true) → Ok (gI 0 0 ((0 : Int) = 0) (g_X4_partsMost_18 (a : Int) (g_X4_partsMost_8 m) m2 v ((b : Int) + 1) ζ1) Z) (fun r => NxC A X 8 9 r.1 ∧ MB r.2 (mbh A X) ∧ Fx Wbe ζ r.2) := fun Z hn => ok_gI (by omega) (by omega) (by omega) (by omega) (fun _ => skip hn) (fun q => absurd rfl q)
              refine ok_beq (s_isInC va1.2 (by omega)) ?_
              rw [inz_n ha8]
              refine ok_bi (fun e1 => z0 _ (fun q => by rw [e1] at q; cases q.1)) (fun e1 => ok_beq (s_isInC va1.2 (by omega)) ?_)
              rw [inz_n hb8]
              refine ok_bi (fun e2 => z0 _ (fun q => by rw [e2] at q; cases q.2)) (fun e2 => ok_gI (by omega) (by omega) (by omega) (by omega) (fun q => absurd q (by omega)) (fun _ => ?_))
              have eq : (a : Int) * 8 + b = ((8 * a + b : Nat) : Int) := by omega
              refine ok_gI (by omega) (by omega) (by omega) (by omega) (fun g2 => ?_) (fun g2 => ?_)
              · refine ih2 _ _ (b + 1) (by omega) (by omega) (by omega) (by omega) ?_
                rcases hs2 with ⟨q0, q1⟩ | ⟨c, d, q1, q5, q4⟩
                · exact Or.inr ⟨a, b, eq, bf_s.mpr (Or.inr ⟨rfl, rfl⟩), pn_take q0 hab hb8 e1 e2⟩
                · omega
              · rcases hs2 with ⟨q0, q1⟩ | ⟨c, d, q1, q5, q4⟩
                · exact absurd q1 g2
                · have cd := q4.1
                  have m1 := mxh_8 A X a b
                  have m2' := mxh_8 A X c d
                  refine ok_beq (s_greaterCount M1 ha8 hb8 eq) (ok_beq (s_greaterCount M1 (a := c) (b := d) (by omega) (by omega) q1) ?_)
                  dsimp only
                  refine ok_gI (by omega) (by omega) (by omega) (by omega) (fun g3 => ih2 _ _ (b + 1) (by omega) (by omega) (by omega) (by omega) (Or.inr ⟨c, d, q1, bf_s.mpr (Or.inl q5), pf_keep q4 q5 (by omega)⟩)) (fun g3 => ih2 _ _ (b + 1) (by omega) (by omega) (by omega) (by omega) (Or.inr ⟨a, b, eq, bf_s.mpr (Or.inr ⟨rfl, rfl⟩), pf_take q4 hab hb8 e1 e2 (by omega)⟩))
        exact inner FU v _ (a + 1) (by omega) (by omega) (by omega) (by rw [FU_e]; omega) hs
  exact outer FU (-1) 0 0 rfl (by omega) (by rw [FU_e]; omega) (Or.inl ⟨fun c d h1 h2 h3 h4 h5 => by unfold Bf at h5; omega, rfl⟩)
theorem b_next {A : Nat → Nat → Int} {ζ : ZS} (h : Cls A ζ) (hW : Wall A) {z : Int} (hz : r32 z) : Ok (g_X11_next z ζ) (CP A ζ (QNx A z)) := by
  have qk := hW.1.1
  obtain ⟨k, hk⟩ : ∃ k : Nat, A 0 20 = k := ⟨(A 0 20).toNat, by omega⟩
  unfold g_X11_next g_X11_next_37 g_X11_next_76 g_J6_bitCount_0f7a4
  refine ok_bind (s_fresh hW h) (fun ζ1 ⟨c1, f1⟩ => ?_)
  refine ok_gI hz.1 hz.2 (by omega) (by omega) (fun g => ok_some ⟨Or.inr ⟨fun q => by have := q.1; omega, rfl⟩, cf_cls c1, f1⟩) (fun g => ok_gI (by omega) (by omega) hz.1 hz.2 (fun g2 => ok_some ⟨Or.inr ⟨fun q => by have := q.1; omega, rfl⟩, cf_cls c1, f1⟩) (fun g2 => ?_))
  refine ok_bind (s_theyCan (A := A) (cf_fit c1 hk) (by omega)) (fun r ⟨r1, b, r2, r3⟩ => ?_)
  rw [r2, r1]
  refine ok_bi (fun e3 => ok_some ⟨Or.inr ⟨fun q => (by have := r3.mpr q.2; rw [e3] at this; cases this), rfl⟩, cf_cls c1, f1⟩) (fun e3 => ok_beq rfl ?_)
  have hcan := r3.mp e3
  have nc : nxC A z := ⟨by omega, hcan⟩
  have eb : zbc (ζ1.1 30 4) = ((bc (inb A) 8 : Nat) : Int) := by rw [c1.2.1.1.2, zbc_msk _ (by omega)]
  have bl := bc_le (inb A) 8
  dsimp only
  rw [eb]
  refine ok_gI (by omega) (by omega) (by omega) (by omega) (fun g3 => ?_) (fun g3 => ok_some ⟨Or.inl ⟨nc, -1, -1, 0, Or.inr ⟨fun c d h1 h2 h3 h4 _ => ?_, rfl, rfl⟩, by rw [if_pos rfl]⟩, cf_cls c1, f1⟩)
  case refine_2 =>
    have := bc_two (p := inb A) (n := 8) (i := c) (j := d) (by omega) h2 (by omega) h3 h4
    omega
  obtain ⟨x, y, hxy, hy8, px, py⟩ := bc_pair (p := inb A) (n := 8) (by omega)
  refine ok_bind (s_partsMost hW.1 hW.2.2.2.2.1 c1.2.1.1 (cf_fit c1 hk)) (fun q ⟨q1, q2, q3⟩ => ?_)
  rcases q1 with ⟨q1, _⟩ | ⟨c, d, e1, _, e2⟩
  · exact absurd (show Bf x y 8 9 by unfold Bf; omega) (q1 x y hxy hy8 px py)
  have cd := e2.1
  have fs := be_sc q3
  have fin : ∀ v, v = (if z = 0 then (c : Int) else if z = 1 then (d : Int) else ((mxh A (Sc A (hrd A)) c d : Nat) : Int)) → CP A ζ (QNx A z) (v, q.2) := fun v hv => ⟨Or.inl ⟨nc, c, d, _, Or.inl ⟨c, d, rfl, rfl, rfl, e2⟩, by rw [if_neg (by omega)]; exact hv⟩, cf_cls (cf_sc hW.2.1 c1 fs), fx_trans f1 (wsc_26 fs)⟩
  have ed : Int.tdiv q.1 8 = c := by rw [Int.tdiv_eq_ediv_of_nonneg (by omega)]; omega
  have em : Int.tmod q.1 8 = d := by rw [Int.tmod_eq_emod_of_nonneg (by omega)]; omega
  refine ok_gI hz.1 hz.2 (by omega) (by omega) (fun g4 => ok_beq (s_greaterCount q2 (a := c) (b := d) (by omega) (by omega) e1) (ok_some (fin _ ?_))) (fun g4 => ok_gI hz.1 hz.2 (by omega) (by omega) (fun g5 => ok_gd (by omega) (by omega) (by omega) (by omega) (ok_some (fin _ ?_))) (fun g5 => ok_gd (by omega) (by omega) (by omega) (by omega) (ok_some (fin _ ?_))))
  · rw [if_neg (by omega), if_neg (by omega)]
  · rw [if_pos g5]; exact ed
  · rw [if_neg g5, if_pos (by omega)]; exact em
