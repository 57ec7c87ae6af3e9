/-! the class's cones: what they keep and imply -/
theorem co_nn {P : V4 → Prop} {g x : V4} (h : Co P x) (hP : ∀ v, P v → 0 ≤ dt g v) : 0 ≤ dt g x := by
  obtain ⟨N, l, hN, hl, he⟩ := h
  have h1 : InC [g] (sv l) := InC_sv (P := P) (fun v hv a ha => by rw [List.mem_singleton.mp ha]; exact hP v hv) l hl
  have h2 := h1 g (by simp)
  have h3 : dt g (sv l) = N * dt g x := dt_mul g x _ N (fun i hi => (he i hi).symm)
  rw [h3] at h2
  exact (sg_mul hN Int.one_pos (show N * dt g x = 1 * (N * dt g x) by omega)).1.mpr h2
theorem isc_imp {A : List V4} {n : Nat} {f : Nat → V4} (h : IsC A n f) (r g : V4) : (∀ x, InC A x → 0 ≤ dt r x → 0 ≤ dt g x) ↔ ((∀ i, i < n → 0 ≤ dt r (f i) → 0 ≤ dt g (f i)) ∧ ∀ a b, a < n → b < n → 0 < dt r (f a) → dt r (f b) < 0 → 0 ≤ dt g (pr r (f a) (f b))) := by
  constructor
  · intro q
    refine ⟨fun i hi => q _ (h.1 i hi).1.1, fun a b ha hb h1 h2 => q _ (InC_tail (pr_in (r := r) (h.1 a ha).1.1 (h.1 b hb).1.1 h1 h2)) (by rw [pr_dt]; exact Int.le_refl 0)⟩
  · rintro ⟨q1, q2⟩ x hx hr
    refine co_nn (gen_step (P := fun v => ∃ i, i < n ∧ v = f i) (r := r) (h.2.2.2 x hx) hr) (fun v hv => ?_)
    rcases hv with ⟨⟨i, hi, e⟩, h0⟩ | ⟨c, d, ⟨a, ha, ec⟩, ⟨b, hb, ed⟩, h1, h2, e⟩
    · rw [e] at h0 ⊢; exact q1 i hi h0
    · rw [e]; rw [ec] at h1 ⊢; rw [ed] at h2 ⊢; exact q2 a b ha hb h1 h2
theorem fr_trans {p q r s t u : Int} (hq : 0 < q) (hs : 0 < s) (hu : 0 < u) (h1 : p * s ≤ r * q) (h2 : r * u ≤ t * s) : p * u ≤ t * q := by
  have k1 := Int.mul_nonneg (Int.le_of_lt hu) (show 0 ≤ r * q - p * s by omega)
  have k2 := Int.mul_nonneg (Int.le_of_lt hq) (show 0 ≤ t * s - r * u by omega)
  have e : u * (r * q - p * s) + q * (t * s - r * u) = s * (t * q - p * u) := by grind
  have k3 : 0 ≤ s * (t * q - p * u) := by rw [← e]; omega
  have := (sg_mul hs Int.one_pos (show s * (t * q - p * u) = 1 * (s * (t * q - p * u)) by omega)).1.mpr k3
  omega
/-- a product with a row, of a cone of the class -/
theorem s_prod (ζ : ZS) (c e : Nat) {k R n i : Nat} {ρ : Nat → V4} {z : Int} (hz : z = i) (hc : Cn ζ c k R n ρ) (hr : Rk k R ρ) (hn : n ≤ 44) (hi : i < n) (hl : ln e = 4) (hbd : bd (fun m => ζ.1 e m)) : g_X1_product c z e ζ = some (dt (fun m => ζ.1 e m) (cw ζ c i), ζ) := by
  rw [s_product ζ c e hz (by omega) hr.2.1 hc.1 hl (fun m hm => by have := hbd m hm; dsimp only at this; omega)]
  rw [psum_dt (r := fun m => ζ.1 e m) hr.2.1 (fun m h1 h2 => Ak_zero (hc.2.2.2.2.1 i hi).1.1 m h2 h1)]
theorem cn_bd {ζ : ZS} {c k R n i : Nat} {ρ : Nat → V4} (hc : Cn ζ c k R n ρ) (hr : Rk k R ρ) (hi : i < n) : ∀ m, m < 4 → 0 ≤ cw ζ c i m ∧ cw ζ c i m ≤ 6000000 := ex_bd Ak_pos (Ak_bd hr) (hc.2.2.2.2.1 i hi).1 (hc.2.2.2.2.1 i hi).2
theorem s_keeps (ζ : ZS) (c e : Nat) {k R n : Nat} {ρ : Nat → V4} (hc : Cn ζ c k R n ρ) (hr : Rk k R ρ) (hn : n ≤ 44) (hl : ln e = 4) (hbd : bd (fun m => ζ.1 e m)) :
    Ok (g_X1_keeps c e ζ) (fun r => r.2 = ζ ∧ (r.1 = 0 ∨ r.1 = 1) ∧ (r.1 = 1 ↔ ∀ x, InC (Ak k R ρ) x → 0 ≤ dt (fun m => ζ.1 e m) x)) := by
  have key : ∀ (m : Nat) (y : Int) (o : Nat), y = o → o ≤ n → n - o < m → (∀ i, i < o → 0 ≤ dt (fun m => ζ.1 e m) (cw ζ c i)) → Ok (g_X1_keeps_2 c e m y ζ) (fun r => r.2 = ζ ∧ (r.1 = 0 ∨ r.1 = 1) ∧ (r.1 = 1 ↔ ∀ i, i < n → 0 ≤ dt (fun m => ζ.1 e m) (cw ζ c i))) := by
    intro m
    induction m with
    | zero => intro _ _ _ _ h; omega
    | succ m ih =>
      intro y o hy ho hm hold
      subst hy
      unfold g_X1_keeps_2
      rw [hc.2.2.1]
      refine ok_gI (by omega) (by omega) (by omega) (by omega) (fun h => ?_) (fun h => ?_)
      · exact ok_some ⟨rfl, Or.inr rfl, ⟨fun _ i hi => hold i (by omega), fun _ => rfl⟩⟩
      · have hb := dt_bd hbd (cn_bd hc hr (show o < n by omega))
        refine ok_beq (s_prod ζ c e rfl hc hr hn (by omega) hl hbd) ?_
        refine ok_gJ (by omega) (by omega) ?_ ?_ (fun h => ?_) (fun h => ?_)
        · dsimp only; omega
        · dsimp only; omega
        · refine ih _ (o + 1) (by omega) (by omega) (by omega) (fun i hi => ?_)
          by_cases q : i = o
          · rw [q]; exact h
          · exact hold i (by omega)
        · exact ok_some ⟨rfl, Or.inl rfl, ⟨fun q => absurd q (show ¬ ((0 : Int) = 1) by decide), fun g => absurd (g o (by omega)) h⟩⟩
  unfold g_X1_keeps
  refine ok_mono (key FU 0 0 rfl (by omega) (by rw [FU_e]; omega) (fun i hi => by omega)) (fun r hq => ⟨hq.1, hq.2.1, hq.2.2.trans (isc_al hc.2.2.2.2 _)⟩)
set_option maxHeartbeats 1000000 in
theorem s_impliesWith (ζ : ZS) (c e g : Nat) {k R n : Nat} {ρ : Nat → V4} (hc : Cn ζ c k R n ρ) (hr : Rk k R ρ) (hn : n ≤ 44) (hl : ln e = 4) (hbd : bd (fun m => ζ.1 e m)) (hlg : ln g = 4) (hbg : bd (fun m => ζ.1 g m)) :
    Ok (g_X1_impliesWith c e g ζ) (fun r => r.2 = ζ ∧ (r.1 = 0 ∨ r.1 = 1) ∧ (r.1 = 1 ↔ ∀ x, InC (Ak k R ρ) x → 0 ≤ dt (fun m => ζ.1 e m) x → 0 ≤ dt (fun m => ζ.1 g m) x)) := by
  obtain ⟨G, hG⟩ : ∃ G : Nat → Int, ∀ i, G i = dt (fun m => ζ.1 e m) (cw ζ c i) := ⟨_, fun _ => rfl⟩
  obtain ⟨W, hW⟩ : ∃ W : Nat → Int, ∀ i, W i = dt (fun m => ζ.1 g m) (cw ζ c i) := ⟨_, fun _ => rfl⟩
  have bG : ∀ i, i < n → -2400000000 ≤ G i ∧ G i ≤ 2400000000 := fun i hi => by rw [hG]; exact dt_bd hbd (cn_bd hc hr hi)
  have bW : ∀ i, i < n → -2400000000 ≤ W i ∧ W i ≤ 2400000000 := fun i hi => by rw [hW]; exact dt_bd hbg (cn_bd hc hr hi)
  have sem := isc_imp hc.2.2.2.2 (fun m => ζ.1 e m) (fun m => ζ.1 g m)
  have sem2 : (∀ x, InC (Ak k R ρ) x → 0 ≤ dt (fun m => ζ.1 e m) x → 0 ≤ dt (fun m => ζ.1 g m) x) ↔ ((∀ i, i < n → 0 ≤ G i → 0 ≤ W i) ∧ ∀ a b, a < n → b < n → 0 < G a → G b < 0 → 0 ≤ -(G b) * W a + G a * W b) := by
    rw [sem]
    constructor
    · rintro ⟨q1, q2⟩
      refine ⟨fun i hi h => by rw [hW]; rw [hG] at h; exact q1 i hi h, fun a b ha hb h1 h2 => ?_⟩
      rw [hG] at h1 h2
      have := q2 a b ha hb h1 h2
      rw [dt_pr] at this
      rw [hG, hG, hW, hW]; exact this
    · rintro ⟨q1, q2⟩
      refine ⟨fun i hi h => by rw [← hW]; rw [← hG] at h; exact q1 i hi h, fun a b ha hb h1 h2 => ?_⟩
      rw [← hG] at h1 h2
      rw [dt_pr, ← hG, ← hG, ← hW, ← hW]
      exact q2 a b ha hb h1 h2
  clear sem
  let Inv : Nat → Int → Int → Int → Int → Prop := fun o z3 z5 z7 z9 => (∀ i, i < o → 0 ≤ G i → 0 ≤ W i) ∧ ((z5 = 0 ∧ z3 = 0 ∧ ∀ i, i < o → G i ≤ 0) ∨ (0 < z5 ∧ (∃ i, i < o ∧ z5 = G i ∧ z3 = W i) ∧ ∀ i, i < o → 0 < G i → z3 * G i ≤ W i * z5)) ∧ 0 < z9 ∧ ((z7 = 0 ∧ z9 = 1) ∨ ∃ i, i < o ∧ G i < 0 ∧ z7 = -(W i) ∧ z9 = -(G i)) ∧ ∀ i, i < o → G i < 0 → -(W i) * z9 ≤ z7 * -(G i)
  have rng : ∀ {o z3 z5 z7 z9}, o ≤ n → Inv o z3 z5 z7 z9 → (-2400000000 ≤ z3 ∧ z3 ≤ 2400000000) ∧ (0 ≤ z5 ∧ z5 ≤ 2400000000) ∧ (-2400000000 ≤ z7 ∧ z7 ≤ 2400000000) ∧ (0 < z9 ∧ z9 ≤ 2400000000) := by
    rintro o z3 z5 z7 z9 ho ⟨_, h2, h3, h4, _⟩
    refine ⟨?_, ?_, ?_, ?_⟩
    · rcases h2 with ⟨_, q, _⟩ | ⟨_, ⟨i, hi, _, q⟩, _⟩
      · omega
      · rw [q]; exact bW i (by omega)
    · rcases h2 with ⟨q, _, _⟩ | ⟨q0, ⟨i, hi, q, _⟩, _⟩
      · omega
      · have := bG i (by omega); omega
    · rcases h4 with ⟨q, _⟩ | ⟨i, hi, _, q, _⟩
      · omega
      · have := bW i (by omega); omega
    · rcases h4 with ⟨_, q⟩ | ⟨i, hi, _, _, q⟩
      · omega
      · have := bG i (by omega); omega
  have key : ∀ (m : Nat) (z3 z5 z7 z9 y : Int) (o : Nat), y = o → o ≤ n → n - o < m → Inv o z3 z5 z7 z9 → Ok (g_X1_impliesWith_14 c e g m z3 z5 z7 z9 y ζ) (fun r => r.2 = ζ ∧ (r.1 = 0 ∨ r.1 = 1) ∧ (r.1 = 1 ↔ ((∀ i, i < n → 0 ≤ G i → 0 ≤ W i) ∧ ∀ a b, a < n → b < n → 0 < G a → G b < 0 → 0 ≤ -(G b) * W a + G a * W b))) := by
    intro m
    induction m with
    | zero => intro _ _ _ _ _ _ _ _ h; omega
    | succ m ih =>
      intro z3 z5 z7 z9 y o hy ho hm hv
      subst hy
      obtain ⟨r3, r5, r7, r9⟩ := rng ho hv
      unfold g_X1_impliesWith_14
      rw [hc.2.2.1]
      refine ok_gI (by omega) (by omega) (by omega) (by omega) (fun h => ?_) (fun h => ?_)
      · have eo : o = n := by omega
        subst eo
        obtain ⟨v1, v2, v3, v4, v5⟩ := hv
        have one : ((∀ i, i < o → 0 ≤ G i → 0 ≤ W i) ∧ ∀ a b, a < o → b < o → 0 < G a → G b < 0 → 0 ≤ -(G b) * W a + G a * W b) → Ok (g_X1_impliesWith_150 ζ) (fun r => r.2 = ζ ∧ (r.1 = 0 ∨ r.1 = 1) ∧ (r.1 = 1 ↔ ((∀ i, i < o → 0 ≤ G i → 0 ≤ W i) ∧ ∀ a b, a < o → b < o → 0 < G a → G b < 0 → 0 ≤ -(G b) * W a + G a * W b))) := by
          intro hq
          unfold g_X1_impliesWith_150 g_X1_impliesWith_155
          exact ok_gz (Or.inr rfl) (ok_some ⟨rfl, Or.inr rfl, ⟨fun _ => hq, fun _ => rfl⟩⟩)
        have m1 := mb (a := z3) (b := z9) (A := 2400000000) (B := 2400000000) (by omega) (by omega) (by omega) (by omega)
        have m2 := mb (a := z7) (b := z5) (A := 2400000000) (B := 2400000000) (by omega) (by omega) (by omega) (by omega)
        refine ok_gJ (by omega) (by omega) (by omega) (by omega) (fun h0 => ?_) (fun h0 => ?_)
        · refine one ⟨v1, fun a b ha hb h1 h2 => ?_⟩
          rcases v2 with ⟨_, _, q⟩ | ⟨q, _⟩
          · have := q a ha; omega
          · omega
        · rcases v2 with ⟨q, _⟩ | ⟨q0, ⟨i0, hi0, qg, qw⟩, q⟩
          · omega
          refine ok_gJ (by omega) (by omega) (by omega) (by omega) (fun hlt => ?_) (fun hle => ?_)
          · unfold g_X1_impliesWith_155
            refine ok_gz (Or.inl rfl) (ok_some ⟨rfl, Or.inl rfl, ⟨fun q => absurd q (show ¬ ((0 : Int) = 1) by decide), fun hq => ?_⟩⟩)
            exfalso
            rcases v4 with ⟨e7, e9⟩ | ⟨j, hj, g1, e7, e9⟩
            · have := hq.1 i0 hi0 (by omega)
              rw [e7, e9] at hlt
              omega
            · have := hq.2 i0 j hi0 hj (by omega) g1
              rw [e7, e9, qw, qg] at hlt
              have e1 : W i0 * -(G j) = -(G j) * W i0 := Int.mul_comm _ _
              have e2 : -(W j) * G i0 = -(G i0 * W j) := by rw [Int.neg_mul, Int.mul_comm]
              rw [e1, e2] at hlt
              omega
          · refine one ⟨v1, fun a b ha hb h1 h2 => ?_⟩
            have t1 := q a ha h1
            have t2 := v5 b hb h2
            -- -(W b) / -(G b) ≤ z7 / z9 ≤ z3 / z5 ≤ W a / G a
            have t3 : -(W b) * z5 ≤ z3 * -(G b) := fr_trans (by omega) v3 q0 t2 (by omega)
            have t4 : -(W b) * G a ≤ W a * -(G b) := fr_trans (by omega) q0 h1 t3 t1
            have e1 : W a * -(G b) = -(G b) * W a := Int.mul_comm _ _
            have e2 : -(W b) * G a = -(G a * W b) := by rw [Int.neg_mul, Int.mul_comm]
            rw [e1, e2] at t4
            omega
      · have hon : o < n := by omega
        have g1 := bG o hon
        have w1 := bW o hon
        refine ok_beq (s_prod ζ c e rfl hc hr hn hon hl hbd) (ok_beq (s_prod ζ c g rfl hc hr hn hon hlg hbg) ?_)
        rw [← hG o, ← hW o]
        have n1 : (o : Int) + 1 = ((o + 1 : Nat) : Int) := by omega
        have n2 : o + 1 ≤ n := hon
        have n3 : n - (o + 1) < m := by clear hv ih; omega
        have nxt : ∀ {z3 z5 z7 z9 : Int}, Inv (o + 1) z3 z5 z7 z9 → Ok (g_X1_impliesWith_124 (g_X1_impliesWith_14 c e g m) c e g z3 z5 z7 z9 (o : Int) ζ) (fun r => r.2 = ζ ∧ (r.1 = 0 ∨ r.1 = 1) ∧ (r.1 = 1 ↔ ((∀ i, i < n → 0 ≤ G i → 0 ≤ W i) ∧ ∀ a b, a < n → b < n → 0 < G a → G b < 0 → 0 ≤ -(G b) * W a + G a * W b))) := fun {z3 z5 z7 z9} h => ih z3 z5 z7 z9 _ (o + 1) n1 n2 n3 h
        -- the second half of a step: what is behind
        have half : ∀ {z3 z5 : Int}, (0 ≤ G o → 0 ≤ W o) → ((z5 = 0 ∧ z3 = 0 ∧ ∀ i, i < o + 1 → G i ≤ 0) ∨ (0 < z5 ∧ (∃ i, i < o + 1 ∧ z5 = G i ∧ z3 = W i) ∧ ∀ i, i < o + 1 → 0 < G i → z3 * G i ≤ W i * z5)) → Ok (g_X1_impliesWith_91 (g_X1_impliesWith_14 c e g m) c e g z3 z5 z7 z9 (o : Int) (G o) (W o) ζ) (fun r => r.2 = ζ ∧ (r.1 = 0 ∨ r.1 = 1) ∧ (r.1 = 1 ↔ ((∀ i, i < n → 0 ≤ G i → 0 ≤ W i) ∧ ∀ a b, a < n → b < n → 0 < G a → G b < 0 → 0 ≤ -(G b) * W a + G a * W b))) := by
          intro z3 z5 h0 h2
          obtain ⟨v1, _, v3, v4, v5⟩ := hv
          have v1' : ∀ i, i < o + 1 → 0 ≤ G i → 0 ≤ W i := fun i hi => by
            by_cases q : i = o
            · rw [q]; exact h0
            · exact v1 i (by omega)
          have v4' : (z7 = 0 ∧ z9 = 1) ∨ ∃ i, i < o + 1 ∧ G i < 0 ∧ z7 = -(W i) ∧ z9 = -(G i) := by
            rcases v4 with q | ⟨i, hi, q⟩
            · exact Or.inl q
            · exact Or.inr ⟨i, by omega, q⟩
          have m1 := mb (a := -(W o)) (b := z9) (A := 2400000000) (B := 2400000000) (by omega) (by omega) (by omega) (by omega)
          have m2 := mb (a := z7) (b := -(G o)) (A := 2400000000) (B := 2400000000) (by omega) (by omega) (by omega) (by omega)
          unfold g_X1_impliesWith_91
          refine ok_gJ (by omega) (by omega) (by omega) (by omega) (fun h => ?_) (fun h => ?_)
          · refine nxt ⟨v1', h2, v3, v4', fun i hi hg => ?_⟩
            by_cases q : i = o
            · rw [q] at hg; omega
            · exact v5 i (by omega) hg
          · refine ok_gJ (by omega) (by omega) (by omega) (by omega) (fun hle => ?_) (fun hgt => ?_)
            · refine nxt ⟨v1', h2, v3, v4', fun i hi hg => ?_⟩
              by_cases q : i = o
              · rw [q]; exact hle
              · exact v5 i (by omega) hg
            · refine nxt ⟨v1', h2, by omega, Or.inr ⟨o, by omega, by omega, rfl, rfl⟩, fun i hi hg => ?_⟩
              by_cases q : i = o
              · rw [q]; exact Int.le_refl _
              · exact fr_trans (by omega) v3 (by omega) (v5 i (by omega) hg) (by omega)
        have upd : (0 ≤ G o → 0 ≤ W o) → Ok (g_X1_impliesWith_57 (g_X1_impliesWith_14 c e g m) c e g z3 z5 z7 z9 (o : Int) (G o) (W o) ζ) (fun r => r.2 = ζ ∧ (r.1 = 0 ∨ r.1 = 1) ∧ (r.1 = 1 ↔ ((∀ i, i < n → 0 ≤ G i → 0 ≤ W i) ∧ ∀ a b, a < n → b < n → 0 < G a → G b < 0 → 0 ≤ -(G b) * W a + G a * W b))) := by
          intro h0
          have v2 := hv.2.1
          have m1 := mb (a := z3) (b := G o) (A := 2400000000) (B := 2400000000) (by omega) (by omega) (by omega) (by omega)
          have m2 := mb (a := W o) (b := z5) (A := 2400000000) (B := 2400000000) (by omega) (by omega) (by omega) (by omega)
          unfold g_X1_impliesWith_57
          refine ok_gJ (by omega) (by omega) (by omega) (by omega) (fun h => ?_) (fun h => ?_)
          · refine half h0 ?_
            rcases v2 with ⟨q1, q2, q3⟩ | ⟨q1, ⟨i, hi, q2⟩, q3⟩
            · refine Or.inl ⟨q1, q2, fun i hi => ?_⟩
              by_cases q : i = o
              · rw [q]; exact h
              · exact q3 i (by omega)
            · refine Or.inr ⟨q1, ⟨i, by omega, q2⟩, fun j hj hg => ?_⟩
              by_cases q : j = o
              · rw [q] at hg; omega
              · exact q3 j (by omega) hg
          · refine ok_gJ (by omega) (by omega) (by omega) (by omega) (fun hz => ?_) (fun hz => ?_)
            · unfold g_X1_impliesWith_84
              refine half h0 (Or.inr ⟨by omega, ⟨o, by omega, rfl, rfl⟩, fun j hj hg => ?_⟩)
              by_cases q : j = o
              · rw [q]; exact Int.le_refl _
              · rcases v2 with ⟨q1, q2, q3⟩ | ⟨q1, _⟩
                · have := q3 j (by omega); omega
                · omega
            · refine ok_gJ (by omega) (by omega) (by omega) (by omega) (fun hle => ?_) (fun hgt => ?_)
              · refine half h0 ?_
                rcases v2 with ⟨q1, _⟩ | ⟨q1, ⟨i, hi, q2⟩, q3⟩
                · omega
                · refine Or.inr ⟨q1, ⟨i, by omega, q2⟩, fun j hj hg => ?_⟩
                  by_cases q : j = o
                  · rw [q]; exact hle
                  · exact q3 j (by omega) hg
              · unfold g_X1_impliesWith_84
                rcases v2 with ⟨q1, _⟩ | ⟨q1, ⟨i, hi, q2⟩, q3⟩
                · omega
                · refine half h0 (Or.inr ⟨by omega, ⟨o, by omega, rfl, rfl⟩, fun j hj hg => ?_⟩)
                  by_cases q : j = o
                  · rw [q]; exact Int.le_refl _
                  · exact fr_trans (by omega) q1 hg (by omega) (q3 j (by omega) hg)
        refine ok_gJ (by omega) (by omega) (by omega) (by omega) (fun h => ?_) (fun h => ?_)
        · exact upd (fun q => by omega)
        · refine ok_gJ (by omega) (by omega) (by omega) (by omega) (fun hw => ?_) (fun hw => ?_)
          · exact upd (fun _ => hw)
          · refine ok_some ⟨rfl, Or.inl rfl, ⟨fun q => absurd q (show ¬ ((0 : Int) = 1) by decide), fun q => ?_⟩⟩
            exact absurd (q.1 o hon (by omega)) hw
  unfold g_X1_impliesWith
  refine ok_mono (key FU 0 0 0 1 0 0 rfl (by omega) (by rw [FU_e]; omega) ⟨fun i hi => by omega, Or.inl ⟨rfl, rfl, fun i hi => by omega⟩, by decide, Or.inl ⟨rfl, rfl⟩, fun i hi => by omega⟩) (fun r hq => ⟨hq.1, hq.2.1, hq.2.2.trans sem2.symm⟩)
