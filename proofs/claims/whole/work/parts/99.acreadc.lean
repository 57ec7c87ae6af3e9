/-! the class reads: all -/
section
variable {s : Nat → Int} {N p c : Nat} {k : Int} {D : Nat → Nat → Int} {ζ ζ1 : ZS}
theorem s_readPair (hB : Bdc s N k c) (hD : Dok k D) (hn : D 9 0 < 12) (h : CSt s N k p D c ζ ζ1) {g kd z o i hi : Int} (hz : z - 1 = hi) (hh : r32 hi) (h3 : i = 3 → kd = 0 ∧ o = 1) (h4 : i = 4 → kd = 0 ∧ o = 2) (h8 : i = 8 → kd = 3) (hi3 : i = 3 ∨ i = 4 ∨ i = 8) : Ok (g_X6_readPair c g kd z o ζ1) (Cen s N k (spP s N hi g i (tE s N p) D) c ζ) := by
  unfold g_X6_readPair g_X6_readPair_52 spP
  rw [hz]
  refine ok_bind (cs_step hB h) (fun ζ2 h2 => ok_bind (s_tnC hB h2 (by omega) hh) (fun r hr => ?_))
  rcases hr with ⟨f0, t1, t2, t3, t4, t5⟩ | ⟨f0, t1, t2⟩
  · rw [if_neg (by omega), t1]
    refine ok_bind (s_toC hB t5 t2 t3 hh) (fun r' hr' => ?_)
    rcases hr' with ⟨g0, u1, u2, u3, u4, u5⟩ | ⟨g0, u1, u2⟩
    · rw [if_neg (by omega), u5.2.2.2.2.1, u1]
      exact ok_gI (by omega) (by omega) (by omega) (by omega) (fun _ => ok_bind (s_sayC hB hD hn u5 (i := i) (cc := 0) (d := 0) (fun e => ⟨(h3 e).1, rfl, rfl, (h3 e).2⟩) (fun e => ⟨(h4 e).1, rfl, rfl, (h4 e).2⟩) (fun e => by omega) (fun e => by omega) (fun e => by omega) (fun e => ⟨h8 e, rfl⟩)) (fun ζ' q => ok_some (Or.inl ⟨rfl, q⟩))) (fun q => absurd rfl q)
    · rw [if_pos g0]
      obtain ⟨-, b2, b3, b4⟩ := id u2
      rw [b2]
      exact ok_gI (by omega) (by omega) (by omega) (by omega) (fun q => by omega) (fun _ => ok_some (Or.inr ⟨g0, u2⟩))
  · rw [if_pos f0]
    refine ok_beq (s_tnCF t2 _ _ _) ?_
    obtain ⟨-, b2, b3, b4⟩ := id t2
    rw [b2]
    exact ok_gI (by omega) (by omega) (by omega) (by omega) (fun q => by omega) (fun _ => ok_some (Or.inr ⟨f0, t2⟩))
theorem s_readBound (hB : Bdc s N k c) (hD : Dok k D) (hn : D 9 0 < 12) (h : CSt s N k p D c ζ ζ1) {g kd i : Int} (h6 : i = 6 → kd = 1) (h7 : i = 7 → kd = 2) (hi : i = 6 ∨ i = 7) : Ok (g_X6_readBound c g kd ζ1) (Cen s N k (spB s N k g i (tE s N p) D) c ζ) := by
  have hk := hB.2.2.1
  unfold g_X6_readBound g_X6_readBound_51 spB
  refine ok_bind (cs_step hB h) (fun ζ2 h2 => ?_)
  rw [h2.2.2.2.1]
  refine ok_bind (s_tnC hB h2 (by omega) (by omega)) (fun r hr => ?_)
  rcases hr with ⟨f0, t1, t2, t3, t4, t5⟩ | ⟨f0, t1, t2⟩
  · rw [if_neg (by omega), t1]
    refine ok_bind (s_tnC hB t5 (by omega) (by omega)) (fun r' hr' => ?_)
    rcases hr' with ⟨g0, u1, u2, u3, u4, u5⟩ | ⟨g0, u1, u2⟩
    · rw [if_neg (by omega), u5.2.2.2.2.1, u1]
      exact ok_gI (by omega) (by omega) (by omega) (by omega) (fun _ => ok_bind (s_sayC hB hD hn u5 (i := i) (cc := tV s N (tE s N (tE s N p))) (d := 0) (y := 0) (fun e => by omega) (fun e => by omega) (fun e => by omega) (fun e => ⟨h6 e, rfl⟩) (fun e => ⟨h7 e, rfl⟩) (fun e => by omega)) (fun ζ' q => ok_some (Or.inl ⟨rfl, q⟩))) (fun q => absurd rfl q)
    · rw [if_pos g0]
      obtain ⟨-, b2, b3, b4⟩ := id u2
      rw [b2]
      exact ok_gI (by omega) (by omega) (by omega) (by omega) (fun q => by omega) (fun _ => ok_some (Or.inr ⟨g0, u2⟩))
  · rw [if_pos f0]
    refine ok_beq (s_tnCF t2 _ _ _) ?_
    obtain ⟨-, b2, b3, b4⟩ := id t2
    rw [b2]
    exact ok_gI (by omega) (by omega) (by omega) (by omega) (fun q => by omega) (fun _ => ok_some (Or.inr ⟨f0, t2⟩))
theorem s_readStepC (hB : Bdc s N k c) (hD : Dok k D) (hn : D 9 0 < 12) (h : CSt s N k p D c ζ ζ1) {g : Int} : Ok (g_X6_readStep c g ζ1) (Cen s N k (spF s N k g (tE s N p) D) c ζ) := by
  have hk := hB.2.2.1
  unfold g_X6_readStep g_X6_readStep_75 spF
  refine ok_bind (cs_step hB h) (fun ζ2 h2 => ?_)
  generalize tE s N p = p2 at h2 ⊢
  refine ok_bind (s_tnC hB h2 (by omega) (by omega)) (fun r hr => ?_)
  have bad : ∀ {v : Int} {ζ3 : ZS} {a b e : Int} {R : Rz}, FCt v c ζ ζ3 → R.1 = v → Ok (gI (ζ3.1 29 2) 0 (ζ3.1 29 2 = 0) ((g_X0_say c g 0 a b e (-1) ζ3).bind fun q6 => some q6) (some ζ3)) (Cen s N k R c ζ) := fun {v ζ3 a b e R} q hR => by
    obtain ⟨-, b2, b3, b4⟩ := id q
    rw [b2]
    exact ok_gI (by omega) (by omega) (by omega) (by omega) (fun q => by omega) (fun _ => ok_some (Or.inr ⟨by omega, by rw [hR]; exact q⟩))
  rcases hr with ⟨f0, t1, t2, t3, t4, t5⟩ | ⟨f0, t1, t2⟩
  · rw [if_neg (show ¬ tnF s N 1 100 p2 ≠ 0 by omega), t5.2.2.2.1]
    refine ok_bind (s_tnC hB t5 (by omega) (by omega)) (fun r' hr' => ?_)
    rcases hr' with ⟨g0, u1, u2, u3, u4, u5⟩ | ⟨g0, u1, u2⟩
    · rw [if_neg (show ¬ tnF s N 0 (k - 1) (tE s N p2) ≠ 0 by omega)]
      refine ok_bind (s_tnC hB u5 (by omega) (by omega)) (fun r3 hr3 => ?_)
      rcases hr3 with ⟨j0, v1, v2, v3, v4, v5⟩ | ⟨j0, v1, v2⟩
      · rw [if_neg (show ¬ tnF s N 1 100 (tE s N (tE s N p2)) ≠ 0 by omega), v5.2.2.2.1, u1]
        refine ok_bind (s_toC hB v5 u2 u3 (by omega)) (fun r4 hr4 => ?_)
        rcases hr4 with ⟨l0, w1, w2, w3, w4, w5⟩ | ⟨l0, w1, w2⟩
        · rw [if_neg (show ¬ toF s N (tV s N (tE s N p2)) (k - 1) (tE s N (tE s N (tE s N p2))) ≠ 0 by omega), w5.2.2.2.2.1, w1, t1, v1]
          exact ok_gI (by omega) (by omega) (by omega) (by omega) (fun _ => ok_bind (s_sayC hB hD hn w5 (i := 5) (fun e => by omega) (fun e => by omega) (fun _ => ⟨rfl, rfl, rfl, rfl⟩) (fun e => by omega) (fun e => by omega) (fun e => by omega)) (fun ζ' q => ok_some (Or.inl ⟨rfl, q⟩))) (fun q => absurd rfl q)
        · rw [if_pos l0]
          obtain ⟨-, b2, b3, b4⟩ := id w2
          rw [b2]
          exact ok_gI (by omega) (by omega) (by omega) (by omega) (fun q => by omega) (fun _ => ok_some (Or.inr ⟨l0, w2⟩))
      · rw [if_pos j0]
        refine ok_beq (s_tnCF v2 _ _ _) ?_
        obtain ⟨-, b2, b3, b4⟩ := id v2
        rw [b2]
        exact ok_gI (by omega) (by omega) (by omega) (by omega) (fun q => by omega) (fun _ => ok_some (Or.inr ⟨j0, v2⟩))
    · rw [if_pos g0]
      refine ok_beq (s_tnCF u2 _ _ _) (ok_beq (s_tnCF u2 _ _ _) ?_)
      obtain ⟨-, b2, b3, b4⟩ := id u2
      rw [b2]
      exact ok_gI (by omega) (by omega) (by omega) (by omega) (fun q => by omega) (fun _ => ok_some (Or.inr ⟨g0, u2⟩))
  · rw [if_pos f0]
    refine ok_beq (s_tnCF t2 _ _ _) (ok_beq (s_tnCF t2 _ _ _) (ok_beq (s_tnCF t2 _ _ _) ?_))
    obtain ⟨-, b2, b3, b4⟩ := id t2
    rw [b2]
    exact ok_gI (by omega) (by omega) (by omega) (by omega) (fun q => by omega) (fun _ => ok_some (Or.inr ⟨f0, t2⟩))
theorem s_readSayC (hB : Bdc s N k c) (hD : Dok k D) (hn : D 9 0 < 12) (h : CSt s N k p D c ζ ζ1) {g : Int} : Ok (g_X6_readSaying c g ζ1) (Cen s N k (spS s N k g (tE s N p) D) c ζ) := by
  have hk := hB.2.2.1
  unfold g_X6_readSaying g_X6_readSaying_156
  refine ok_bind (cs_step hB h) (fun ζ2 h2 => ?_)
  generalize tE s N p = p2 at h2 ⊢
  have k29 := h2.2.2.2.1
  unfold spS
  refine ok_beq (s_saysC hB h2 [109, 111, 114, 101] 679695 (by decide) (by decide) (by decide)) (ok_bi (fun e3 => ?_) (fun e3 => ?_))
  case refine_2 =>
    have e3 := of_decide_eq_true e3
    have w : wix s N p2 = 3 := by
      unfold wix
      rw [if_neg (fun q => by have := q.2; have := e3.2; omega), if_neg (fun q => by have := q.2; have := e3.2; omega), if_neg (fun q => by have := q.2; have := e3.2; omega), if_neg (fun q => by have := q.2; have := e3.2; omega), if_neg (fun q => by have := q.2; have := e3.2; omega), if_pos e3]
    rw [w, if_neg (by omega), if_neg (by omega), if_neg (by omega), if_neg (by omega), k29]
    exact ok_bind (s_readPair hB hD hn h2 (i := 3) rfl (by omega) (fun _ => ⟨rfl, rfl⟩) (fun e => by omega) (fun e => by omega) (by omega)) (fun ζ' q => ok_some q)
  have e3 := of_decide_eq_false e3
  refine ok_beq (s_saysC hB h2 [116, 119, 105, 99, 101] 38660676 (by decide) (by decide) (by decide)) (ok_bi (fun e4 => ?_) (fun e4 => ?_))
  case refine_2 =>
    have e4 := of_decide_eq_true e4
    have w : wix s N p2 = 4 := by
      unfold wix
      rw [if_neg (fun q => by have := q.2; have := e4.2; omega), if_neg (fun q => by have := q.2; have := e4.2; omega), if_neg (fun q => by have := q.2; have := e4.2; omega), if_neg (fun q => by have := q.2; have := e4.2; omega), if_pos e4]
    rw [w, if_neg (by omega), if_neg (by omega), if_neg (by omega), if_neg (by omega), k29]
    exact ok_bind (s_readPair hB hD hn h2 (i := 4) rfl (by omega) (fun e => by omega) (fun _ => ⟨rfl, rfl⟩) (fun e => by omega) (by omega)) (fun ζ' q => ok_some q)
  have e4 := of_decide_eq_false e4
  refine ok_beq (s_saysC hB h2 [98, 101, 116, 116, 101, 114] 149099362 (by decide) (by decide) (by decide)) (ok_bi (fun e8 => ?_) (fun e8 => ?_))
  case refine_2 =>
    have e8 := of_decide_eq_true e8
    have w : wix s N p2 = 8 := by unfold wix; rw [if_pos e8]
    rw [w, if_neg (by omega), if_neg (by omega), if_neg (by omega), if_pos rfl]
    exact ok_bind (s_readPair hB hD hn h2 (i := 8) rfl (by omega) (fun e => by omega) (fun e => by omega) (fun _ => rfl) (by omega)) (fun ζ' q => ok_some q)
  have e8 := of_decide_eq_false e8
  refine ok_beq (s_saysC hB h2 [115, 116, 101, 112] 989988 (by decide) (by decide) (by decide)) (ok_bi (fun e5 => ?_) (fun e5 => ?_))
  case refine_2 =>
    have e5 := of_decide_eq_true e5
    have w : wix s N p2 = 5 := by
      unfold wix
      rw [if_neg (fun q => by have := q.2; have := e5.2; omega), if_neg (fun q => by have := q.2; have := e5.2; omega), if_neg (fun q => by have := q.2; have := e5.2; omega), if_pos e5]
    rw [w, if_neg (by omega), if_pos rfl]
    exact ok_bind (s_readStepC hB hD hn h2) (fun ζ' q => ok_some q)
  have e5 := of_decide_eq_false e5
  refine ok_beq (s_saysC hB h2 [108, 101, 97, 115, 116] 22745289 (by decide) (by decide) (by decide)) (ok_bi (fun e6 => ?_) (fun e6 => ?_))
  case refine_2 =>
    have e6 := of_decide_eq_true e6
    have w : wix s N p2 = 6 := by
      unfold wix
      rw [if_neg (fun q => by have := q.2; have := e6.2; omega), if_neg (fun q => by have := q.2; have := e6.2; omega), if_pos e6]
    rw [w, if_neg (by omega), if_neg (by omega), if_pos (Or.inl rfl)]
    exact ok_bind (s_readBound hB hD hn h2 (i := 6) (fun _ => rfl) (fun e => by omega) (Or.inl rfl)) (fun ζ' q => ok_some q)
  have e6 := of_decide_eq_false e6
  refine ok_beq (s_saysC hB h2 [109, 111, 115, 116] 679747 (by decide) (by decide) (by decide)) (ok_bi (fun e7 => ?_) (fun e7 => ?_))
  case refine_2 =>
    have e7 := of_decide_eq_true e7
    have w : wix s N p2 = 7 := by unfold wix; rw [if_neg e8, if_pos e7]
    rw [w, if_neg (by omega), if_neg (by omega), if_pos (Or.inr rfl)]
    exact ok_bind (s_readBound hB hD hn h2 (i := 7) (fun e => by omega) (fun _ => rfl) (Or.inr rfl)) (fun ζ' q => ok_some q)
  have e7 := of_decide_eq_false e7
  have w : wix s N p2 = -1 := by unfold wix; rw [if_neg e8, if_neg e7, if_neg e6, if_neg e5, if_neg e4, if_neg e3]
  rw [w, if_pos (by omega)]
  exact ok_bind (s_wrongC hB h2 (w := 1) (by omega) (by omega)) (fun ζ' q => ok_some (Or.inr ⟨show 1 + 16 * (skp s N p2 : Int) ≠ 0 by omega, q⟩))
theorem s_readStm (hB : Bdc s N k c) (hD : Dok k D) (h : CSt s N k p D c ζ ζ1) : Ok (g_X6_readStatement c ζ1) (Cen s N k (spA s N k p D) c ζ) := by
  have hk := hB.2.2.1
  have q9 := hD.2.1
  -- the semicolon behind it
  have semi : ∀ {R : Rz} {ζ2 : ZS}, spT s N k p D = R → Cen s N k R c ζ ζ2 → Ok (g_X6_readStatement_114 ζ2) (Cen s N k (spA s N k p D) c ζ) := fun {R ζ2} hR hh => by
    unfold g_X6_readStatement_114 g_X6_takeSemicolon g_X6_takeSemicolon_34 spA
    rw [hR]
    rcases hh with ⟨r0, hh⟩ | ⟨r0, hh⟩
    · rw [if_neg (by omega)]
      obtain ⟨a1, a2, a3, a4, a5, a6, a7⟩ := id hh
      have kr := tK_r (s := s) (N := N) (p := R.2.1)
      rw [a5, a3.1]
      have : Ok (gI 0 0 ((0 : Int) = 0) (gI (tK s N R.2.1) 3 (tK s N R.2.1 = 3) ((g_X8_step ζ2).bind fun q2 => some q2) ((g_X6_wrong 1 ζ2).bind fun q1 => some q1)) (some ζ2)) (Cen s N k (if tK s N R.2.1 = 3 then (0, tE s N R.2.1, R.2.2) else (1 + 16 * (skp s N R.2.1 : Int), p, D)) c ζ) := by
        refine ok_gI (by omega) (by omega) (by omega) (by omega) (fun _ => ok_gI (by omega) (by omega) (by omega) (by omega) (fun g => ?_) (fun g => ?_)) (fun q => absurd rfl q)
        · rw [if_pos g]
          exact ok_bind (cs_step hB hh) (fun ζ' q => ok_some (Or.inl ⟨rfl, q⟩))
        · rw [if_neg g]
          exact ok_bind (s_wrongC hB hh (w := 1) (by omega) (by omega)) (fun ζ' q => ok_some (Or.inr ⟨show 1 + 16 * (skp s N R.2.1 : Int) ≠ 0 by omega, q⟩))
      exact ok_bind this (fun ζ' q => ok_some q)
    · rw [if_pos r0]
      obtain ⟨-, b2, b3, b4⟩ := id hh
      rw [b2]
      have : Ok (gI R.1 0 (R.1 = 0) (gI (ζ2.1 27 2) 3 (ζ2.1 27 2 = 3) ((g_X8_step ζ2).bind fun q2 => some q2) ((g_X6_wrong 1 ζ2).bind fun q1 => some q1)) (some ζ2)) (Cen s N k R c ζ) := ok_gI (by omega) (by omega) (by omega) (by omega) (fun q => absurd q r0) (fun _ => ok_some (Or.inr ⟨r0, hh⟩))
      exact ok_bind this (fun ζ' q => ok_some q)
  unfold g_X6_readStatement
  refine ok_beq (s_saysC hB h [108, 101, 115, 115] 615403 (by decide) (by decide) (by decide)) (ok_bi (fun e0 => ?_) (fun e0 => ?_))
  case refine_2 =>
    have e0 := of_decide_eq_true e0
    exact ok_bind (s_readLess hB hD h) (fun ζ' q => semi (by unfold spT; rw [if_pos e0]) q)
  have e0 := of_decide_eq_false e0
  refine ok_beq (s_saysC hB h [99, 97, 112] 4160 (by decide) (by decide) (by decide)) (ok_bi (fun e1 => ?_) (fun e1 => ?_))
  case refine_2 =>
    have e1 := of_decide_eq_true e1
    exact ok_bind (s_readLimit (j := 1) hB hD h (by omega) (by omega)) (fun ζ' q => semi (by unfold spT; rw [if_neg e0, if_pos e1]) q)
  have e1 := of_decide_eq_false e1
  refine ok_beq (s_saysC hB h [109, 117, 115, 116] 687961 (by decide) (by decide) (by decide)) (ok_bi (fun e2 => ?_) (fun e2 => ?_))
  case refine_2 =>
    have e2 := of_decide_eq_true e2
    exact ok_bind (s_readLimit (j := 2) hB hD h (by omega) (by omega)) (fun ζ' q => semi (by unfold spT; rw [if_neg e0, if_neg e1, if_pos e2]) q)
  have e2 := of_decide_eq_false e2
  have e9 : ζ1.1 c 9 = D 9 0 := h.2.2.2.2.2.1.2.1
  refine ok_beq (s_personC hB h) ?_
  by_cases pe : tK s N p = 1 ∧ 1 ≤ tV s N p ∧ tV s N p ≤ 8
  · rw [if_pos pe, e9]
    refine ok_gI (by omega) (by omega) (by omega) (by omega) (fun q => by omega) (fun _ => ok_gI (by omega) (by omega) (by omega) (by omega) (fun g => ?_) (fun g => ?_))
    · have sp := s_personC hB h
      rw [if_pos pe] at sp
      exact ok_beq sp (ok_bind (s_readSayC hB hD g h) (fun ζ' q => semi (by unfold spT; rw [if_neg e0, if_neg e1, if_neg e2, if_neg (fun c => c pe), if_neg (by omega)]) q))
    · exact ok_bind (s_wrongC hB h (w := 5) (by omega) (by omega)) (fun ζ' q => semi (R := (5 + 16 * (skp s N p : Int), p, D)) (by unfold spT; rw [if_neg e0, if_neg e1, if_neg e2, if_neg (fun c => c pe), if_pos (by omega)]) (Or.inr ⟨show 5 + 16 * (skp s N p : Int) ≠ 0 by omega, q⟩))
  · rw [if_neg pe]
    exact ok_gI (by omega) (by omega) (by omega) (by omega) (fun _ => ok_bind (s_wrongC hB h (w := 1) (by omega) (by omega)) (fun ζ' q => semi (R := (1 + 16 * (skp s N p : Int), p, D)) (by unfold spT; rw [if_neg e0, if_neg e1, if_neg e2, if_pos pe]) (Or.inr ⟨show 1 + 16 * (skp s N p : Int) ≠ 0 by omega, q⟩))) (fun q => absurd rfl q)
def FinC (X : Int × (Nat → Nat → Int)) (c : Nat) (ζ : ZS) (r : Int × ZS) : Prop := r.1 = X.1 ∧ Fx (Wcc c) ζ r.2 ∧ (X.1 = 0 → Ch X.2 r.2 c)
theorem s_read23 (hB : Bdc s N k c) : ∀ (n m : Nat) (i : Nat) (z : Int) (p : Nat) (D : Nat → Nat → Int) (ζ1 : ZS), z = i → i ≤ p → N - p < n → N - p < m → Dok k D → CSt s N k p D c ζ ζ1 → Ok (g_X6_read_23 c n z ζ1) (FinC (spL s N k m p D) c ζ) := by
  have hk := hB.2.2.1
  have n1 := hB.1
  intro n
  induction n with
  | zero => intro _ _ _ _ _ _ _ _ h; omega
  | succ n ih =>
    intro m i z p D ζ1 hz hi hn hm hD h
    subst hz
    obtain ⟨m, rfl⟩ : ∃ m', m = m' + 1 := ⟨m - 1, by omega⟩
    obtain ⟨a1, a2, a3, a4, a5, a6, a7⟩ := id h
    have kr := tK_r (s := s) (N := N) (p := p)
    have stop : tK s N p = 0 → Ok (g_X6_read_58 ζ1) (FinC (spL s N k (m + 1) p D) c ζ) := fun q => by
      have eX : spL s N k (m + 1) p D = (0, D) := by unfold spL; rw [if_pos q]
      unfold g_X6_read_58
      rw [eX]
      exact ok_some ⟨a5, a1, fun _ => a6⟩
    unfold g_X6_read_23
    rw [a5, a3.1]
    refine ok_gI (by omega) (by omega) (by omega) (by omega) (fun g => stop ?_) (fun g => ok_gI (by omega) (by omega) (by omega) (by omega) (fun _ => ok_gI (by omega) (by omega) (by omega) (by omega) (fun q => stop q) (fun q => ?_)) (fun q => absurd rfl q))
    · have b := skp_b (s := s) a7
      exact (tK_0 a7).mpr (by omega)
    · have kA := spA_k (s := s) (N := N) (p := p) (D := D) hk.2 a7 q hD
      have eX : spL s N k (m + 1) p D = if (spA s N k p D).1 ≠ 0 then ((spA s N k p D).1, D) else spL s N k m (spA s N k p D).2.1 (spA s N k p D).2.2 := by rw [spL, if_neg q]
      refine ok_bind (s_readStm hB hD h) (fun ζ2 hh => ?_)
      rcases hh with ⟨r0, hh⟩ | ⟨r0, hh⟩
      · have kk := kA r0
        rw [eX, if_neg (by omega)]
        exact ih m (i + 1) _ _ _ _ (by omega) (by omega) (by omega) (by omega) kk.2.2 hh
      · rw [eX, if_pos r0]
        obtain ⟨b1, b2, b3, b4⟩ := id hh
        obtain ⟨n, rfl⟩ : ∃ n', n = n' + 1 := ⟨n - 1, by
          have b := skp_b (s := s) a7
          have nk : skp s N p ≠ N := fun e => q ((tK_0 a7).mpr e)
          omega⟩
        unfold g_X6_read_23 g_X6_read_58
        rw [b2]
        have fin : Ok (some ((spA s N k p D).1, ζ2)) (FinC ((spA s N k p D).1, D) c ζ) := ok_some ⟨rfl, b1, fun e => absurd e r0⟩
        exact ok_gI (by omega) (by omega) (by omega) (by omega) (fun _ => fin) (fun _ => ok_gI (by omega) (by omega) (by omega) (by omega) (fun e => absurd e r0) (fun _ => fin))
end
