/-! the class's cones: whole, copied, asked -/
theorem isc_e4 {A : List V4} {n : Nat} {f g : Nat → V4} (hpos : ∀ w, InC A w → ∀ i, i < 4 → 0 ≤ w i) (h : IsC A n f) (e : ∀ i, i < n → e4 (f i) (g i)) : IsC A n g := by
  refine ⟨fun i hi => ⟨ex_e4 (h.1 i hi).1 (e i hi), prm_e4 (h.1 i hi).2 (e i hi)⟩, fun i j hi hj hp => h.2.1 i j hi hj (par_e4 hp (e4_symm (e i hi)) (e4_symm (e j hj))), fun v hv => ?_, fun w hw => ?_⟩
  · obtain ⟨i, hi, hp⟩ := h.2.2.1 v hv
    exact ⟨i, hi, par_e4 hp (e i hi) (fun _ _ => rfl)⟩
  · refine co_trans (fun v ⟨i, hi, ev⟩ => ?_) (h.2.2.2 w hw)
    rw [ev]
    exact co_par ⟨i, hi, rfl⟩ (par_symm (par_of_e4 (e i hi))) (pos_e4 (ex_pos hpos (h.1 i hi).1) (e i hi)) (ex_pos hpos (h.1 i hi).1)
theorem cn_e4 {ζ ζ' : ZS} {c d k R n : Nat} {ρ : Nat → V4} (h : Cn ζ d k R n ρ) (h3 : ζ'.1 c 3 = ζ.1 d 3) (h4 : ζ'.1 c 4 = ζ.1 d 4) (h5 : ζ'.1 c 5 = ζ.1 d 5) (ht : ∀ i, i < n → ζ'.1 (c + 2) i = ζ.1 (d + 2) i) (hw : ∀ i, i < n → e4 (cw ζ d i) (cw ζ' c i)) : Cn ζ' c k R n ρ := by
  refine ⟨h3.trans h.1, h4.trans h.2.1, h5.trans h.2.2.1, fun i hi => ?_, isc_e4 Ak_pos h.2.2.2.2 hw⟩
  rw [ht i hi, h.2.2.2.1 i hi]
  congr 2
  funext b
  rw [dt_congr (hw i hi)]
theorem cn_fx {ζ ζ' : ZS} {d k R n : Nat} {ρ : Nat → V4} (h : Cn ζ d k R n ρ) (h1 : ∀ x, ζ'.1 d x = ζ.1 d x) (h2 : ∀ x, ζ'.1 (d + 2) x = ζ.1 (d + 2) x) (h3 : ∀ x, ζ'.2.1 (d + 1) x = ζ.2.1 (d + 1) x) : Cn ζ' d k R n ρ :=
  cn_e4 h (h1 3) (h1 4) (h1 5) (fun i _ => h2 i) (fun i _ m _ => (h3 _).symm)
theorem z_or0 (p : Nat → Bool) {R : Nat} (hR : R ≤ 31) : zor (msk p R) 0 = ((msk p R : Nat) : Int) := by
  have := zor_n (a := msk p R) (b := 0) (msk_31 p hR) (by decide)
  have e : ((0 : Nat) : Int) = 0 := rfl
  rw [e] at this
  rw [this, Nat.or_zero]
def Wb (c : Nat) (x _k : Nat) : Prop := x = c ∨ x = c + 1 ∨ x = c + 2
theorem s_become (ζ : ZS) (c d : Nat) {k R n : Nat} {ρ : Nat → V4} (hc : Cn ζ d k R n ρ) (hn : n ≤ 44) (hR : R ≤ 31) (hk : k ≤ 4) (hd : c + 3 < d ∨ d + 3 < c) :
    Ok (g_X1_become c d ζ) (fun ζ' => Cn ζ' c k R n ρ ∧ (∀ i, i < n → e4 (cw ζ d i) (cw ζ' c i)) ∧ Fx (Wb c) ζ ζ') := by
  have h0 := hc
  obtain ⟨h3, h4, h5, hti, hI⟩ := hc
  have key : ∀ (m : Nat) (y : Int) (o : Nat) (ζ1 : ZS), y = o → o ≤ n → n - o < m → ζ1.1 c 3 = k → ζ1.1 c 4 = R → ζ1.1 c 5 = o → Fx (Wb c) ζ ζ1 → (∀ i, i < o → e4 (cw ζ d i) (cw ζ1 c i) ∧ ζ1.1 (c + 2) i = ζ.1 (d + 2) i) →
      Ok (g_X1_become_23 c d m y ζ1) (fun ζ' => Cn ζ' c k R n ρ ∧ (∀ i, i < n → e4 (cw ζ d i) (cw ζ' c i)) ∧ Fx (Wb c) ζ ζ') := by
    intro m
    induction m with
    | zero => intro _ _ _ _ _ h; omega
    | succ m ih =>
      intro y o ζ1 hy ho hm g3 g4 g5 hf hw
      subst hy
      have s1 : ∀ x, ζ1.1 d x = ζ.1 d x := fun x => (hf.1 _ _ (by unfold Wb; omega)).1
      have s2 : ∀ x, ζ1.1 (d + 2) x = ζ.1 (d + 2) x := fun x => (hf.1 _ _ (by unfold Wb; omega)).1
      have s3 : ∀ x, ζ1.2.1 (d + 1) x = ζ.2.1 (d + 1) x := fun x => (hf.1 _ _ (by unfold Wb; omega)).2
      unfold g_X1_become_23
      rw [s1]
      refine ok_gI (by omega) (by omega) (by omega) (by omega) (fun h => ?_) (fun h => ?_)
      · have e : o = n := by omega
        subst e
        exact ok_some ⟨cn_e4 h0 (g3.trans h3.symm) (g4.trans h4.symm) (g5.trans h5.symm) (fun i hi => (hw i hi).2) (fun i hi => (hw i hi).1), fun i hi => (hw i hi).1, hf⟩
      · refine ok_bind (s_take ζ1 c d rfl (by omega) g5 (by omega) hd) (fun ζ2 ⟨q5, qt, qw, qf⟩ => ?_)
        refine ih _ (o + 1) ζ2 (by omega) (by omega) (by omega) (by rw [(qf.1 c 3 (by unfold Wt; omega)).1]; exact g3) (by rw [(qf.1 c 4 (by unfold Wt; omega)).1]; exact g4) q5 (fx_trans hf (fx_mono qf (fun x y h => by unfold Wt at h; unfold Wb; omega))) (fun i hi => ?_)
        by_cases e : i = o
        · subst e
          refine ⟨fun x hx => ?_, ?_⟩
          · rw [qw x hx]; exact (s3 _).symm
          · rw [qt, s2, hti i (by omega), z_or0 _ hR]
        · have old := hw i (by omega)
          refine ⟨fun x hx => ?_, ?_⟩
          · rw [old.1 x hx]; exact ((qf.1 (c + 1) (4 * i + x) (by unfold Wt; omega)).2).symm
          · rw [(qf.1 (c + 2) i (by unfold Wt; omega)).1]; exact old.2
  unfold g_X1_become
  refine key FU 0 0 _ rfl (by omega) (by rw [FU_e]; omega) ?_ ?_ ?_ (fx_I (fx_I (fx_I (fx_refl _ _) (by unfold Wb; omega)) (by unfold Wb; omega)) (by unfold Wb; omega)) (fun i hi => by omega)
  · simp [zI_1, h3]
  · simp [zI_1, h4]
  · simp [zI_1]
theorem whole_isc {k : Nat} (h1 : 1 ≤ k) (hk : k ≤ 4) {f : Nat → V4} (hf : ∀ i, i < k → e4 (un i) (f i)) : IsC (Ak k k un) k f := by
  have hin : ∀ w, InC (A0 k) w ↔ InC (Ak k k un) w := fun w => ⟨fun h a ha => by
    rcases List.mem_append.mp ha with ha | ha
    · exact h a ha
    · obtain ⟨b, hb, e⟩ := mem_fl.mp ha
      rw [e]; exact h _ (A0_un (by omega)), fun h a ha => h a (List.mem_append_left _ ha)⟩
  have hposA : ∀ w, InC (A0 k) w → ∀ i, i < 4 → 0 ≤ w i := fun w h => A0_pos (fun _ h => h) h
  have base : IsC (A0 k) k un := by
    have mL : ∀ i, i < k → un i ∈ L0 k := fun i hi => List.mem_map.mpr ⟨i, List.mem_range.mpr hi, rfl⟩
    have gen : ∀ w, InC (A0 k) w → Co (fun v => ∃ i, i < k ∧ v = un i) w := fun w hw => Co_mono (L0_gen h1 hk hw) (fun v hv => by
      obtain ⟨i, hi, e⟩ := List.mem_map.mp hv
      exact ⟨i, List.mem_range.mp hi, e.symm⟩)
    refine ⟨fun i hi => ⟨L0_ex hk _ (mL i hi), fun m hm => ?_⟩, fun i j hi hj hp => ?_, fun v hv => ?_, gen⟩
    · have := hm i (by omega)
      simp [un] at this
      exact this
    · have := hp i (by omega) j (by omega)
      apply Classical.byContradiction
      intro hne
      simp [un, hne, Ne.symm hne] at this
    · obtain ⟨p, ⟨i, hi, e⟩, _, hp⟩ := ex_gen (P := fun v => ∃ i, i < k ∧ v = un i) (fun v ⟨i, hi, e⟩ => by rw [e]; exact (L0_in hk _ (mL i hi)).1) hv (gen v hv.1)
      exact ⟨i, hi, by rw [← e]; exact hp⟩
  exact isc_e4 Ak_pos (isc_congr hin base) hf
theorem Rk_whole {k : Nat} (h1 : 1 ≤ k) (hk : k ≤ 4) : Rk k k un := ⟨h1, hk, Nat.le_refl k, fun _ _ => rfl, fun b _ => un_bd b⟩
theorem whole_msk : ∀ k : Nat, k < 5 → ∀ i : Nat, i < k → zand (zshl 1 (k : Int) - 1) (zxor (zshl 1 (i : Int)) (-1)) = ((msk (fun b => !decide (b = i)) k : Nat) : Int) := by decide +kernel
theorem s_becomeWhole (ζ : ZS) (c : Nat) {k : Nat} {z : Int} (hz : z = k) (hkc : kd c = 1) (h1 : 1 ≤ k) (hk : k ≤ 4) :
    Ok (g_X1_becomeWhole c z ζ) (fun ζ' => Cn ζ' c k k k un ∧ Fx (Wb c) ζ ζ') := by
  subst hz
  let Good : Nat → ZS → Prop := fun o ζ1 => ζ1.1 c 3 = k ∧ ζ1.1 c 4 = k ∧ ζ1.1 c 5 = k ∧ Fx (Wb c) ζ ζ1 ∧ ∀ i, i < o → e4 (un i) (cw ζ1 c i) ∧ ζ1.1 (c + 2) i = ((msk (fun b => !decide (b = i)) k : Nat) : Int)
  have inner : ∀ (o : Nat) (r17 : Int → ZS → Option ZS), o < k → (∀ ζ2, Good (o + 1) ζ2 → Ok (r17 ((o : Int) + 1) ζ2) (fun ζ' => Cn ζ' c k k k un ∧ Fx (Wb c) ζ ζ')) → ∀ (n : Nat) (y : Int) (m : Nat) (ζ1 : ZS), y = m → m ≤ 4 → 4 - m < n → Good o ζ1 → (∀ x, x < m → cw ζ1 c o x = un o x) → Ok (g_X1_becomeWhole_27 c (o : Int) r17 n y ζ1) (fun ζ' => Cn ζ' c k k k un ∧ Fx (Wb c) ζ ζ') := by
    intro o r17 ho hnext n
    induction n with
    | zero => intro _ _ _ _ _ h; omega
    | succ n ih =>
      intro y m ζ1 hy hm hn hg hw
      subst hy
      obtain ⟨g3, g4, g5, hf, hold⟩ := hg
      unfold g_X1_becomeWhole_27
      refine ok_gI (by omega) (by omega) (by omega) (by omega) (fun h => ?_) (fun h => ?_)
      · refine ok_gk (by omega) (by omega) (hnext _ ?_)
        have hm4 : m = 4 := by omega
        rw [g4, show Int.toNat (o : Int) = o by omega, whole_msk k (by omega) o ho]
        refine ⟨?_, ?_, ?_, fx_I hf (by unfold Wb; omega), fun i hi => ?_⟩
        · rw [zI_1, if_neg (by omega)]; exact g3
        · rw [zI_1, if_neg (by omega)]; exact g4
        · rw [zI_1, if_neg (by omega)]; exact g5
        · by_cases e : i = o
          · subst e
            refine ⟨fun x hx => (hw x (by omega)).symm, ?_⟩
            rw [zI_1, if_pos ⟨rfl, rfl⟩]
          · refine ⟨(hold i (by omega)).1, ?_⟩
            rw [zI_1, if_neg (by omega)]; exact (hold i (by omega)).2
      · have step : ∀ v : Int, v = un o m → Ok (g_X1_becomeWhole_51 r17 (g_X1_becomeWhole_27 c (o : Int) r17 n) c (o : Int) (m : Int) v ((o : Int) * 4 + (m : Int)) (c + 1) ζ1) (fun ζ' => Cn ζ' c k k k un ∧ Fx (Wb c) ζ ζ') := by
          intro v hv
          have e1 : Int.toNat ((o : Int) * 4 + (m : Int)) = 4 * o + m := by omega
          unfold g_X1_becomeWhole_51
          rw [e1]
          refine ok_gk (by omega) ?_ (ih _ (m + 1) _ (by omega) (by omega) (by omega) ⟨g3, g4, g5, fx_J hf (by unfold Wb; omega), fun i hi => ⟨fun x hx => ?_, (hold i hi).2⟩⟩ (fun x hx => ?_))
          · rw [l1_0 hkc]; omega
          · show _ = (zJ ζ1 _ _ _).2.1 (c + 1) (4 * i + x)
            rw [zJ_2, if_neg (by omega)]
            exact (hold i hi).1 x hx
          · show (zJ ζ1 _ _ _).2.1 (c + 1) (4 * o + x) = _
            rw [zJ_2]
            by_cases e : x = m
            · subst e; rw [if_pos ⟨rfl, rfl⟩]; exact hv
            · rw [if_neg (by omega)]; exact hw x (by omega)
        refine ok_gI (by omega) (by omega) (by omega) (by omega) (fun e => ?_) (fun e => ?_)
        · exact step 1 (by unfold un; rw [if_pos (by omega)])
        · exact step 0 (by unfold un; rw [if_neg (by omega)])
  have outer : ∀ (n : Nat) (y : Int) (o : Nat) (ζ1 : ZS), y = o → o ≤ k → k - o < n → Good o ζ1 → Ok (g_X1_becomeWhole_17 c n y ζ1) (fun ζ' => Cn ζ' c k k k un ∧ Fx (Wb c) ζ ζ') := by
    intro n
    induction n with
    | zero => intro _ _ _ _ _ h; omega
    | succ n ih =>
      intro y o ζ1 hy ho hn hg
      subst hy
      unfold g_X1_becomeWhole_17
      rw [hg.2.2.1]
      refine ok_gI (by omega) (by omega) (by omega) (by omega) (fun h => ?_) (fun h => ?_)
      · have e : o = k := by omega
        subst e
        refine ok_some ⟨⟨hg.1, hg.2.1, hg.2.2.1, fun i hi => ?_, whole_isc h1 hk (fun i hi => (hg.2.2.2.2 i hi).1)⟩, hg.2.2.2.1⟩
        rw [(hg.2.2.2.2 i hi).2]
        congr 1
        apply msk_congr
        intro b hb
        rw [← dt_congr (hg.2.2.2.2 i hi).1, dt_un (by omega)]
        by_cases e : b = i
        · subst e; simp [un]
        · simp [un, e]
      · exact inner o _ (by omega) (fun ζ2 h2 => ih _ (o + 1) ζ2 (by omega) (by omega) (by omega) h2) FU 0 0 ζ1 rfl (by omega) (by rw [FU_e]; omega) hg (fun x hx => by omega)
  unfold g_X1_becomeWhole
  refine outer FU 0 0 _ rfl (by omega) (by rw [FU_e]; omega) ⟨?_, ?_, ?_, fx_I (fx_I (fx_I (fx_refl _ _) (by unfold Wb; omega)) (by unfold Wb; omega)) (by unfold Wb; omega), fun i hi => by omega⟩ <;> simp [zI_1]
