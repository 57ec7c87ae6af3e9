/-! the class: corners in order -/
def Lx (k : Nat) (v w : V4) : Prop := ∃ m, m < k ∧ (∀ x, x < m → v x = w x) ∧ v m < w m
theorem lx_irr {k : Nat} {v : V4} : ¬ Lx k v v := fun ⟨_, _, _, h⟩ => by omega
theorem lx_trans {k : Nat} {u v w : V4} (h : Lx k u v) (g : Lx k v w) : Lx k u w := by
  obtain ⟨a, ha, ha1, ha2⟩ := h
  obtain ⟨b, hb, hb1, hb2⟩ := g
  rcases Nat.lt_trichotomy a b with q | q | q
  · exact ⟨a, ha, fun x hx => (ha1 x hx).trans (hb1 x (by omega)), by rw [← hb1 a q]; exact ha2⟩
  · subst q
    exact ⟨a, ha, fun x hx => (ha1 x hx).trans (hb1 x hx), by omega⟩
  · exact ⟨b, hb, fun x hx => (ha1 x (by omega)).trans (hb1 x hx), by rw [ha1 b q]; exact hb2⟩
theorem lx_total {k : Nat} {v w : V4} (h : ∃ m, m < k ∧ v m ≠ w m) : Lx k v w ∨ Lx k w v := by
  have : ∀ k, (∃ m, m < k ∧ v m ≠ w m) → ∃ m, m < k ∧ (∀ x, x < m → v x = w x) ∧ v m ≠ w m := by
    intro k
    induction k with
    | zero => rintro ⟨m, hm, _⟩; omega
    | succ k ih =>
      rintro ⟨m, hm, hne⟩
      by_cases q : ∃ m, m < k ∧ v m ≠ w m
      · obtain ⟨m, hm, h1, h2⟩ := ih q
        exact ⟨m, by omega, h1, h2⟩
      · have z : ∀ x, x < k → v x = w x := fun x hx => Classical.byContradiction fun g => q ⟨x, hx, g⟩
        have : m = k := by
          apply Classical.byContradiction
          intro g
          exact hne (z m (by omega))
        subst this
        exact ⟨m, by omega, z, hne⟩
  obtain ⟨m, hm, h1, h2⟩ := this k h
  rcases Int.lt_or_lt_of_ne h2 with g | g
  · exact Or.inl ⟨m, hm, h1, g⟩
  · exact Or.inr ⟨m, hm, fun x hx => (h1 x hx).symm, g⟩
theorem lx_e4 {k : Nat} (hk : k ≤ 4) {v w v' w' : V4} (h : Lx k v w) (e1 : e4 v v') (e2 : e4 w w') : Lx k v' w' := by
  obtain ⟨m, hm, h1, h2⟩ := h
  exact ⟨m, hm, fun x hx => by rw [← e1 x (by omega), ← e2 x (by omega)]; exact h1 x hx, by rw [← e1 m (by omega), ← e2 m (by omega)]; exact h2⟩
theorem s_isBehind {ζ : ZS} {c k n i j : Nat} {z y : Int} (hz : z = i) (hy : y = j) (hi : i < n) (hj : j < n) (hn : n ≤ 44) (hk : k ≤ 4) (h3 : ζ.1 c 3 = k) (hb : ∀ x, x < n → ∀ m, m < 4 → 0 ≤ cw ζ c x m ∧ cw ζ c x m ≤ 6000000) : Ok (g_X1_isBehind c z y ζ) (fun r => r.2 = ζ ∧ (r.1 = 0 ∨ r.1 = 1) ∧ (r.1 = 1 ↔ Lx k (cw ζ c j) (cw ζ c i))) := by
  subst hz; subst hy
  have key : ∀ (n' : Nat) (w : Int) (m : Nat), w = m → m ≤ k → k - m < n' → (∀ x, x < m → cw ζ c i x = cw ζ c j x) → Ok (g_X1_isBehind_2 c i j n' w ζ) (fun r => r.2 = ζ ∧ (r.1 = 0 ∨ r.1 = 1) ∧ (r.1 = 1 ↔ Lx k (cw ζ c j) (cw ζ c i))) := by
    intro n'
    induction n' with
    | zero => intro _ _ _ _ h; omega
    | succ n' ih =>
      intro w m hw hm hn' hold
      subst hw
      unfold g_X1_isBehind_2
      rw [h3]
      refine ok_gI (by omega) (by omega) (by omega) (by omega) (fun h => ?_) (fun h => ?_)
      · refine ok_some ⟨rfl, Or.inl rfl, ⟨fun q => absurd q (show ¬ ((0 : Int) = 1) by decide), fun ⟨x, hx, _, g⟩ => ?_⟩⟩
        rw [hold x (by omega)] at g
        omega
      · have b1 := hb i hi m (by omega)
        have b2 := hb j hj m (by omega)
        refine ok_beq (s_weight ζ c rfl rfl (by omega) (by omega)) (ok_beq (s_weight ζ c rfl rfl (by omega) (by omega)) ?_)
        refine ok_gJ (by dsimp only; omega) (by dsimp only; omega) (by dsimp only; omega) (by dsimp only; omega) (fun e => ?_) (fun e => ?_)
        · refine ih _ (m + 1) (by omega) (by omega) (by omega) (fun x hx => ?_)
          by_cases q : x = m
          · rw [q]; exact e
          · exact hold x (by omega)
        · refine ok_beq (s_weight ζ c rfl rfl (by omega) (by omega)) (ok_beq (s_weight ζ c rfl rfl (by omega) (by omega)) ?_)
          unfold g_X1_isBehind_47
          refine ok_gJ (by dsimp only; omega) (by dsimp only; omega) (by dsimp only; omega) (by dsimp only; omega) (fun g => ?_) (fun g => ?_)
          · refine ok_gz (Or.inl rfl) (ok_some ⟨rfl, Or.inl rfl, ⟨fun q => absurd q (show ¬ ((0 : Int) = 1) by decide), fun ⟨x, hx, g1, g2⟩ => ?_⟩⟩)
            have g : cw ζ c i m ≤ cw ζ c j m := g
            have e : ¬ cw ζ c i m = cw ζ c j m := e
            rcases Nat.lt_trichotomy x m with q | q | q
            · rw [hold x q] at g2; omega
            · rw [q] at g2; omega
            · have := g1 m q; omega
          · have g : ¬ cw ζ c i m ≤ cw ζ c j m := g
            exact ok_gz (Or.inr rfl) (ok_some ⟨rfl, Or.inr rfl, ⟨fun _ => ⟨m, by omega, fun x hx => (hold x hx).symm, by omega⟩, fun _ => rfl⟩⟩)
  exact key FU 0 0 rfl (by omega) (by rw [FU_e]; omega) (fun x hx => by omega)
def Wsw (c : Nat) (x _y : Nat) : Prop := x = c + 1 ∨ x = c + 2
theorem s_swap {ζ : ZS} {c n i j : Nat} {z y : Int} (hz : z = i) (hy : y = j) (hi : i < n) (hj : j < n) (hij : i ≠ j) (hn : n ≤ 44) : Ok (g_X1_swap c z y ζ) (fun ζ' => (∀ x, x < n → e4 (cw ζ c (if x = i then j else if x = j then i else x)) (cw ζ' c x) ∧ ζ'.1 (c + 2) x = ζ.1 (c + 2) (if x = i then j else if x = j then i else x)) ∧ Fx (Wsw c) ζ ζ') := by
  subst hz; subst hy
  have key : ∀ (n' : Nat) (w : Int) (m : Nat) (ζ1 : ZS), w = m → m ≤ 4 → 4 - m < n' → (∀ x, x < n → ∀ y, y < 4 → cw ζ1 c x y = if y < m then cw ζ c (if x = i then j else if x = j then i else x) y else cw ζ c x y) → ζ1.1 = ζ.1 → Fx (Wsw c) ζ ζ1 → Ok (g_X1_swap_2 c i j n' w ζ1) (fun ζ' => (∀ x, x < n → e4 (cw ζ c (if x = i then j else if x = j then i else x)) (cw ζ' c x) ∧ ζ'.1 (c + 2) x = ζ.1 (c + 2) (if x = i then j else if x = j then i else x)) ∧ Fx (Wsw c) ζ ζ') := by
    intro n'
    induction n' with
    | zero => intro _ _ _ _ _ h; omega
    | succ n' ih =>
      intro w m ζ1 hw hm hn' hold h1 hf
      subst hw
      unfold g_X1_swap_2
      rw [show Int.toNat (i : Int) = i by omega, show Int.toNat (j : Int) = j by omega]
      refine ok_gI (by omega) (by omega) (by omega) (by omega) (fun h => ?_) (fun h => ?_)
      · refine ok_gk (by omega) (by omega) (ok_gk (by omega) (by omega) (ok_gk (by omega) (by omega) (ok_gk (by omega) (by omega) (ok_some ⟨fun x hx => ⟨fun y hy => ?_, ?_⟩, fx_I (fx_I hf (Or.inr rfl)) (Or.inr rfl)⟩))))
        · have := hold x hx y hy
          rw [if_pos (by omega)] at this
          exact this.symm
        · rw [zI_1, zI_1, h1]
          by_cases e1 : x = j
          · rw [if_pos ⟨rfl, e1⟩, if_neg (by omega), if_pos e1]
          · rw [if_neg (by omega)]
            by_cases e2 : x = i
            · rw [if_pos ⟨rfl, e2⟩, if_pos e2]
            · rw [if_neg (by omega), if_neg e2, if_neg e1]
      · refine ok_beq (s_weight ζ1 c rfl rfl (by omega) (by omega)) (ok_beq (s_weight ζ1 c rfl rfl (by omega) (by omega)) (ok_gk (by omega) (by omega) (ok_gk (by omega) (by omega) ?_)))
        have ei : Int.toNat ((i : Int) * 4 + (m : Int)) = 4 * i + m := by omega
        have ej : Int.toNat ((j : Int) * 4 + (m : Int)) = 4 * j + m := by omega
        rw [ei, ej]
        have vi : cw ζ1 c i m = cw ζ c i m := by have := hold i hi m (by omega); rw [if_neg (by omega)] at this; exact this
        have vj : cw ζ1 c j m = cw ζ c j m := by have := hold j hj m (by omega); rw [if_neg (by omega)] at this; exact this
        dsimp only
        rw [vi, vj]
        refine ih _ (m + 1) _ (by omega) (by omega) (by omega) (fun x hx y hy => ?_) h1 (fx_J (fx_J hf (Or.inl rfl)) (Or.inl rfl))
        show (zJ (zJ ζ1 _ _ _) _ _ _).2.1 (c + 1) (4 * x + y) = _
        rw [zJ_2, zJ_2]
        have ho := hold x hx y hy
        by_cases ey : y = m
        · subst ey
          rw [if_pos (show y < y + 1 by omega)]
          by_cases e1 : x = j
          · rw [if_pos (show c + 1 = c + 1 ∧ 4 * x + y = 4 * j + y by omega), if_neg (show ¬ x = i by omega), if_pos e1]
          · rw [if_neg (show ¬ (c + 1 = c + 1 ∧ 4 * x + y = 4 * j + y) by omega)]
            by_cases e2 : x = i
            · rw [if_pos (show c + 1 = c + 1 ∧ 4 * x + y = 4 * i + y by omega), if_pos e2]
            · rw [if_neg (show ¬ (c + 1 = c + 1 ∧ 4 * x + y = 4 * i + y) by omega), if_neg e2, if_neg e1]
              rw [if_neg (by omega)] at ho
              exact ho
        · rw [if_neg (show ¬ (c + 1 = c + 1 ∧ 4 * x + y = 4 * j + m) by omega), if_neg (show ¬ (c + 1 = c + 1 ∧ 4 * x + y = 4 * i + m) by omega)]
          show cw ζ1 c x y = _
          rw [ho]
          by_cases g : y < m
          · rw [if_pos g, if_pos (show y < m + 1 by omega)]
          · rw [if_neg g, if_neg (show ¬ y < m + 1 by omega)]
  exact key FU 0 0 ζ rfl (by omega) (by rw [FU_e]; omega) (fun x _ y _ => by rw [if_neg (by omega)]) rfl (fx_refl _ _)
theorem isc_swap {A : List V4} {n i j : Nat} {f : Nat → V4} (h : IsC A n f) (hi : i < n) (hj : j < n) : IsC A n (fun x => f (if x = i then j else if x = j then i else x)) := by
  have lt : ∀ x, x < n → (if x = i then j else if x = j then i else x) < n := fun x hx => by split; exact hj; split; exact hi; exact hx
  have inv : ∀ x, (if (if x = i then j else if x = j then i else x) = i then j else if (if x = i then j else if x = j then i else x) = j then i else (if x = i then j else if x = j then i else x)) = x := by
    intro x
    by_cases e1 : x = i
    · rw [if_pos e1]
      by_cases e2 : j = i
      · rw [if_pos e2]; omega
      · rw [if_neg e2, if_pos rfl]; omega
    · rw [if_neg e1]
      by_cases e2 : x = j
      · rw [if_pos e2, if_pos rfl]; omega
      · rw [if_neg e2, if_neg e1, if_neg e2]
  refine ⟨fun x hx => h.1 _ (lt x hx), fun x y hx hy hp => ?_, fun v hv => ?_, fun w hw => Co_mono (h.2.2.2 w hw) (fun v ⟨x, hx, e⟩ => ⟨_, lt x hx, by show v = f _; rw [inv x]; exact e⟩)⟩
  · have := h.2.1 _ _ (lt x hx) (lt y hy) hp
    have a := inv x
    rw [this, inv y] at a
    exact a.symm
  · obtain ⟨x, hx, hp⟩ := h.2.2.1 v hv
    exact ⟨_, lt x hx, by show par (f _) v; rw [inv x]; exact hp⟩
theorem cn_swap {ζ ζ' : ZS} {c k R n i j : Nat} {ρ : Nat → V4} (h : Cn ζ c k R n ρ) (hi : i < n) (hj : j < n) (hw : ∀ x, x < n → e4 (cw ζ c (if x = i then j else if x = j then i else x)) (cw ζ' c x) ∧ ζ'.1 (c + 2) x = ζ.1 (c + 2) (if x = i then j else if x = j then i else x)) (hf : Fx (Wsw c) ζ ζ') : Cn ζ' c k R n ρ := by
  have lt : ∀ x, x < n → (if x = i then j else if x = j then i else x) < n := fun x hx => by split; exact hj; split; exact hi; exact hx
  refine ⟨by rw [(hf.1 c 3 (by unfold Wsw; omega)).1]; exact h.1, by rw [(hf.1 c 4 (by unfold Wsw; omega)).1]; exact h.2.1, by rw [(hf.1 c 5 (by unfold Wsw; omega)).1]; exact h.2.2.1, fun x hx => ?_, isc_e4 Ak_pos (isc_swap h.2.2.2.2 hi hj) (fun x hx => (hw x hx).1)⟩
  rw [(hw x hx).2, h.2.2.2.1 _ (lt x hx)]
  congr 2
  funext b
  rw [dt_congr (hw x hx).1]
theorem cn_dif {ζ : ZS} {c k R n i j : Nat} {ρ : Nat → V4} (h : Cn ζ c k R n ρ) (hk : k ≤ 4) (hi : i < n) (hj : j < n) (hij : i ≠ j) : ∃ m, m < k ∧ cw ζ c i m ≠ cw ζ c j m := by
  apply Classical.byContradiction
  intro q
  apply hij
  refine h.2.2.2.2.2.1 i j hi hj (par_of_e4 (fun m hm => ?_))
  by_cases g : m < k
  · exact Classical.byContradiction fun e => q ⟨m, g, e⟩
  · rw [Ak_zero (h.2.2.2.2.1 i hi).1.1 m hm (by omega), Ak_zero (h.2.2.2.2.1 j hj).1.1 m hm (by omega)]
def Srt (ζ : ZS) (c k e : Nat) : Prop := ∀ i j, i < j → j < e → Lx k (cw ζ c i) (cw ζ c j)
theorem s_sort {ζ : ZS} {c k R n : Nat} {ρ : Nat → V4} (h : Cn ζ c k R n ρ) (hr : Rk k R ρ) (hn : n ≤ 44) : Ok (g_X1_sort c ζ) (fun ζ' => Cn ζ' c k R n ρ ∧ Srt ζ' c k n ∧ Fx (Wsw c) ζ ζ') := by
  have hk4 := hr.2.1
  let Mv : Nat → Nat → ZS → Prop := fun e p ζ1 => Cn ζ1 c k R n ρ ∧ Fx (Wsw c) ζ ζ1 ∧ (∀ i j, i < j → j ≤ e → i ≠ p → j ≠ p → Lx k (cw ζ1 c i) (cw ζ1 c j)) ∧ ∀ j, p < j → j ≤ e → Lx k (cw ζ1 c p) (cw ζ1 c j)
  have inner : ∀ (e : Nat) (r2 : Int → ZS → Option ZS), e < n → (∀ ζ2, Cn ζ2 c k R n ρ → Fx (Wsw c) ζ ζ2 → Srt ζ2 c k (e + 1) → Ok (r2 ((e : Int) + 1) ζ2) (fun ζ' => Cn ζ' c k R n ρ ∧ Srt ζ' c k n ∧ Fx (Wsw c) ζ ζ')) → ∀ (m : Nat) (y : Int) (p : Nat) (ζ1 : ZS), y = p → p ≤ e → p < m → Mv e p ζ1 → Ok (g_X1_sort_12 c (e : Int) r2 m y ζ1) (fun ζ' => Cn ζ' c k R n ρ ∧ Srt ζ' c k n ∧ Fx (Wsw c) ζ ζ') := by
    intro e r2 he hnext m
    induction m with
    | zero => intro _ _ _ _ _ h; omega
    | succ m ih =>
      intro y p ζ1 hy hp hm hmv
      subst hy
      obtain ⟨hc, hf, h1, h2⟩ := hmv
      unfold g_X1_sort_12 g_X1_sort_41
      refine ok_gI (by omega) (by omega) (by omega) (by omega) (fun g => ?_) (fun g => ?_)
      · refine hnext ζ1 hc hf (fun i j hij hj => ?_)
        by_cases q : i = p
        · rw [q]; exact h2 j (by omega) (by omega)
        · exact h1 i j hij (by omega) q (by omega)
      · refine ok_bind (s_isBehind (i := p - 1) (j := p) (n := n) (by omega) rfl (by omega) (by omega) hn hk4 hc.1 (fun x hx => cn_bd hc hr hx)) (fun r ⟨r1, r2', r3⟩ => ?_)
        refine ok_gI (by omega) (by omega) (by omega) (by omega) (fun z => ?_) (fun z => ?_)
        · rw [r1]
          have nb : ¬ Lx k (cw ζ1 c p) (cw ζ1 c (p - 1)) := fun q => by have := r3.mpr q; omega
          have fw : Lx k (cw ζ1 c (p - 1)) (cw ζ1 c p) := by
            rcases lx_total (cn_dif hc hk4 (show p - 1 < n by omega) (show p < n by omega) (by omega)) with q | q
            · exact q
            · exact absurd q nb
          refine hnext ζ1 hc hf (fun i j hij hj => ?_)
          by_cases q : i = p
          · rw [q]; exact h2 j (by omega) (by omega)
          · by_cases q2 : j = p
            · by_cases q3 : i = p - 1
              · rw [q2, q3]; exact fw
              · rw [q2]; exact lx_trans (h1 i (p - 1) (by omega) (by omega) q (by omega)) fw
            · exact h1 i j hij (by omega) q q2
        · rw [r1]
          have bk : Lx k (cw ζ1 c p) (cw ζ1 c (p - 1)) := r3.mp (by omega)
          refine ok_bind (s_swap (i := p - 1) (j := p) (n := n) (by omega) rfl (by omega) (by omega) (by omega) hn) (fun ζ2 ⟨hsw, hf2⟩ => ?_)
          have im : ∀ x, x < n → e4 (cw ζ1 c (if x = p - 1 then p else if x = p then p - 1 else x)) (cw ζ2 c x) := fun x hx => (hsw x hx).1
          have im1 : e4 (cw ζ1 c p) (cw ζ2 c (p - 1)) := by have := im (p - 1) (by omega); rw [if_pos rfl] at this; exact this
          have im2 : e4 (cw ζ1 c (p - 1)) (cw ζ2 c p) := by have := im p (by omega); rw [if_neg (by omega), if_pos rfl] at this; exact this
          have im3 : ∀ x, x < n → x ≠ p - 1 → x ≠ p → e4 (cw ζ1 c x) (cw ζ2 c x) := fun x hx n1 n2 => by have := im x hx; rw [if_neg n1, if_neg n2] at this; exact this
          refine ih _ (p - 1) ζ2 (by omega) (by omega) (by omega) ⟨cn_swap hc (by omega) (by omega) hsw hf2, fx_trans hf hf2, fun i j hij hj n1 n2 => ?_, fun j hj1 hj2 => ?_⟩
          · by_cases q : i = p
            · rw [q]
              exact lx_e4 hk4 (h1 (p - 1) j (by omega) hj (by omega) (by omega)) im2 (im3 j (by omega) n2 (by omega))
            · by_cases q2 : j = p
              · rw [q2]
                exact lx_e4 hk4 (h1 i (p - 1) (by omega) (by omega) q (by omega)) (im3 i (by omega) n1 q) im2
              · exact lx_e4 hk4 (h1 i j hij hj q q2) (im3 i (by omega) n1 q) (im3 j (by omega) n2 q2)
          · by_cases q2 : j = p
            · rw [q2]; exact lx_e4 hk4 bk im1 im2
            · exact lx_e4 hk4 (h2 j (by omega) hj2) im1 (im3 j (by omega) (by omega) q2)
  have outer : ∀ (m : Nat) (y : Int) (e : Nat) (ζ1 : ZS), y = e → 1 ≤ e → 60 - e < m → Cn ζ1 c k R n ρ → Fx (Wsw c) ζ ζ1 → Srt ζ1 c k e → e ≤ 45 → Ok (g_X1_sort_2 c m y ζ1) (fun ζ' => Cn ζ' c k R n ρ ∧ Srt ζ' c k n ∧ Fx (Wsw c) ζ ζ') := by
    intro m
    induction m with
    | zero => intro _ _ _ _ _ h; omega
    | succ m ih =>
      intro y e ζ1 hy he hm hc hf hs he2
      subst hy
      unfold g_X1_sort_2
      rw [hc.2.2.1]
      refine ok_gI (by omega) (by omega) (by omega) (by omega) (fun g => ?_) (fun g => ?_)
      · exact ok_some ⟨hc, fun i j hij hj => hs i j hij (by omega), hf⟩
      · refine inner e _ (by omega) (fun ζ2 c2 f2 s2 => ih _ (e + 1) ζ2 (by omega) (by omega) (by omega) c2 f2 s2 (by omega)) FU _ e ζ1 rfl (by omega) (by rw [FU_e]; omega) ⟨hc, hf, fun i j hij hj n1 n2 => hs i j hij (by omega), fun j h1 h2 => by omega⟩
  unfold g_X1_sort
  exact outer FU 1 1 ζ rfl (by omega) (by rw [FU_e]; omega) h (fx_refl _ _) (fun i j hij hj => by omega) (by omega)
