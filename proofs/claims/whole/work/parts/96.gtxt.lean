/-! the class's text methods over whole numbers; its tape -/
def g_X8_sayl (ζ : ZS) : Nat → List Int → Option (Int × ZS)
  | _, [] => some (1, ζ)
  | i, c :: w =>
    gk ((ζ.1 27 3) + (i : Int)) 1000 (
    gI (ζ.1 28 (Int.toNat ((ζ.1 27 3) + (i : Int)))) c ((ζ.1 28 (Int.toNat ((ζ.1 27 3) + (i : Int)))) = c) (
      g_X8_sayl ζ (i + 1) w) (
      some (0, ζ)))
def g_X8_says (w : List Int) (ζ : ZS) : Option (Int × ZS) :=
    gI (ζ.1 27 2) 1 ((ζ.1 27 2) = 1) (
      gI ((ζ.1 27 4) - (ζ.1 27 3)) (w.length : Int) (((ζ.1 27 4) - (ζ.1 27 3)) = (w.length : Int)) (
        g_X8_sayl ζ 0 w) (
        some (0, ζ))) (
      some (0, ζ))
def g_X6_readSaying_156  (ζ : ZS) : Option ZS :=
    some ζ
def g_X6_readSaying (c1 : Nat) (z2 : Int) (ζ : ZS) : Option ZS :=
    (g_X8_step ζ).bind fun q1 =>
    (g_X8_says [109, 111, 114, 101] q1).bind fun q2 =>
    gI q2.1 0 (q2.1 = 0) (
      (g_X8_says [116, 119, 105, 99, 101] q2.2).bind fun q3 =>
      gI q3.1 0 (q3.1 = 0) (
        (g_X8_says [98, 101, 116, 116, 101, 114] q3.2).bind fun q4 =>
        gI q4.1 0 (q4.1 = 0) (
          (g_X8_says [115, 116, 101, 112] q4.2).bind fun q5 =>
          gI q5.1 0 (q5.1 = 0) (
            (g_X8_says [108, 101, 97, 115, 116] q5.2).bind fun q6 =>
            gI q6.1 0 (q6.1 = 0) (
              (g_X8_says [109, 111, 115, 116] q6.2).bind fun q7 =>
              gI q7.1 0 (q7.1 = 0) (
                (g_X6_wrong 1 q7.2).bind fun q8 =>
                g_X6_readSaying_156 q8) (
                (g_X6_readBound c1 z2 2 q7.2).bind fun q9 =>
                g_X6_readSaying_156 q9)) (
              (g_X6_readBound c1 z2 1 q6.2).bind fun q10 =>
              g_X6_readSaying_156 q10)) (
            (g_X6_readStep c1 z2 q5.2).bind fun q11 =>
            g_X6_readSaying_156 q11)) (
          (g_X6_readPair c1 z2 3 8 1 q4.2).bind fun q12 =>
          g_X6_readSaying_156 q12)) (
        (g_X6_readPair c1 z2 0 (q3.2.1 29 1) 2 q3.2).bind fun q13 =>
        g_X6_readSaying_156 q13)) (
      (g_X6_readPair c1 z2 0 (q2.2.1 29 1) 1 q2.2).bind fun q14 =>
      g_X6_readSaying_156 q14)
def g_X6_readStatement_114  (ζ : ZS) : Option ZS :=
    (g_X6_takeSemicolon ζ).bind fun q1 =>
    some q1
def g_X6_readStatement (c1 : Nat) (ζ : ZS) : Option ZS :=
    (g_X8_says [108, 101, 115, 115] ζ).bind fun q1 =>
    gI q1.1 0 (q1.1 = 0) (
      (g_X8_says [99, 97, 112] q1.2).bind fun q2 =>
      gI q2.1 0 (q2.1 = 0) (
        (g_X8_says [109, 117, 115, 116] q2.2).bind fun q3 =>
        gI q3.1 0 (q3.1 = 0) (
          (g_X8_person q3.2).bind fun q4 =>
          gI q4.1 (-1) (q4.1 = (-1)) (
            (g_X6_wrong 1 q4.2).bind fun q8 =>
            g_X6_readStatement_114 q8) (
            gI (q4.2.1 c1 9) 12 ((q4.2.1 c1 9) < 12) (
              (g_X8_person q4.2).bind fun q5 =>
              (g_X6_readSaying c1 q5.1 q5.2).bind fun q6 =>
              g_X6_readStatement_114 q6) (
              (g_X6_wrong 5 q4.2).bind fun q7 =>
              g_X6_readStatement_114 q7))) (
          (g_X6_readLimit (c1 + 3) q3.2).bind fun q9 =>
          g_X6_readStatement_114 q9)) (
        (g_X6_readLimit (c1 + 2) q2.2).bind fun q10 =>
        g_X6_readStatement_114 q10)) (
      (g_X6_readLess c1 q1.2).bind fun q11 =>
      g_X6_readStatement_114 q11)
def g_X6_read_58  (ζ : ZS) : Option (Int × ZS) :=
    some (ζ.1 29 2, ζ)
def g_X6_read_23 (c1 : Nat) : Nat → Int → ZS → Option (Int × ZS)
  | 0, _, _ => none
  | n + 1, z3, ζ =>
    gI 1000 z3 (1000 ≤ z3) (
      g_X6_read_58 ζ) (
      gI (ζ.1 29 2) 0 ((ζ.1 29 2) = 0) (
        gI (ζ.1 27 2) 0 ((ζ.1 27 2) = 0) (
          g_X6_read_58 ζ) (
          (g_X6_readStatement c1 ζ).bind fun q1 =>
          (g_X6_read_23 c1 n) (z3 + 1) q1)) (
        g_X6_read_58 ζ))
def g_X6_read (c1 : Nat) (z2 : Int) (ζ : ZS) : Option (Int × ZS) :=
    (g_X0_clear c1 (zI (zI ζ 29 1 z2) 29 2 0)).bind fun q3 =>
    (g_X8_rewind q3).bind fun q4 =>
    g_X6_read_23 c1 FU 0 q4
def g_X11_choice_51 (z1 : Int) (ζ : ZS) : Option (Int × ZS) :=
    some (z1, ζ)
def g_X11_choice  (ζ : ZS) : Option (Int × ZS) :=
    rk (ζ.2.2 26 15) 0 fun c101 =>
    (g_X6_read c101 (ζ.1 26 16) ζ).bind fun q2 =>
    gI q2.1 0 (q2.1 = 0) (
      rk ((zI q2.2 27 1 0).2.2 26 14) 0 fun c104 =>
      rk ((zI q2.2 27 1 0).2.2 26 15) 0 fun c105 =>
      g_X11_choice_51 q2.1 (zI (zR (zR (zI q2.2 27 1 0) 26 14 (some c105)) 26 15 (some c104)) 26 18 1)) (
      g_X11_choice_51 q2.1 (zI q2.2 27 1 0))
/-- what a step of the tape changes -/
def Wt3 (x y : Nat) : Prop := x = 27 ∧ 2 ≤ y ∧ y ≤ 4
/-- the tape at the token p -/
def Tp (s : Nat → Int) (N p : Nat) (ζ : ZS) : Prop := ζ.1 27 2 = tK s N p ∧ ζ.1 27 3 = skp s N p ∧ ζ.1 27 4 = tE s N p
def Tx (s : Nat → Int) (N : Nat) (ζ : ZS) : Prop := ζ.1 27 1 = N ∧ ∀ i, i < N → ζ.1 28 i = s i
theorem tx_fx {s : Nat → Int} {N : Nat} {ζ ζ' : ZS} {W : Nat → Nat → Prop} (h : Tx s N ζ) (hf : Fx W ζ ζ') (h1 : ¬ W 27 1) (h2 : ∀ i, ¬ W 28 i) : Tx s N ζ' := ⟨by rw [(hf.1 _ _ h1).1]; exact h.1, fun i hi => by rw [(hf.1 _ _ (h2 i)).1]; exact h.2 i hi⟩
theorem s_kindOf (ζ : ZS) {z : Int} (hz : r32 z) : g_X8_kindOf z ζ = some (knd z, ζ) := by
  apply ok_eq
  have n1 : ¬ (97 ≤ z ∧ z ≤ 122) → Ok (g_X8_kindOf_14 z ζ) (fun x => x = (knd z, ζ)) := fun q => by
    unfold g_X8_kindOf_14 g_X8_kindOf_28 g_X8_kindOf_39 knd
    rw [if_neg q]
    have n2 : ¬ (48 ≤ z ∧ z ≤ 57) → Ok (gI z 59 (z = 59) (some ((3 : Int), ζ)) (some (4, ζ))) (fun x => x = (if 48 ≤ z ∧ z ≤ 57 then 2 else if z = 59 then 3 else 4, ζ)) := fun q2 => by
      rw [if_neg q2]
      exact ok_gI hz.1 hz.2 (by omega) (by omega) (fun c => ok_some (by rw [if_pos c])) (fun c => ok_some (by rw [if_neg c]))
    exact ok_gI hz.1 hz.2 (by omega) (by omega) (fun c => n2 (by omega)) (fun c => ok_gI (by omega) (by omega) hz.1 hz.2 (fun c2 => n2 (by omega)) (fun c2 => ok_some (by rw [if_pos ⟨by omega, by omega⟩])))
  unfold g_X8_kindOf
  exact ok_gI hz.1 hz.2 (by omega) (by omega) (fun c => n1 (by omega)) (fun c => ok_gI (by omega) (by omega) hz.1 hz.2 (fun c2 => n1 (by omega)) (fun c2 => ok_some (by rw [knd_1.mpr ⟨by omega, by omega⟩])))
section
variable {s : Nat → Int} {N : Nat} {ζ : ZS}
theorem s_step (hN : N ≤ 1000) (hs : ∀ i, i < N → 0 ≤ s i ∧ s i ≤ 126) (hx : Tx s N ζ) {e : Nat} (he : ζ.1 27 4 = e) (heN : e ≤ N) : Ok (g_X8_step ζ) (fun ζ' => Tp s N e ζ' ∧ Fx Wt3 ζ ζ') := by
  have kb : ∀ c, 1 ≤ knd c ∧ knd c ≤ 4 := fun c => by unfold knd; repeat' split; all_goals omega
  have b0 := skp_b (s := s) heN
  -- the last part, at the token's start
  have s60 : ∀ ζ1, Fx Wt3 ζ ζ1 → ζ1.1 27 3 = skp s N e → Ok (g_X8_step_60 ζ1) (fun ζ' => Tp s N e ζ' ∧ Fx Wt3 ζ ζ') := fun ζ1 f1 e3 => by
    have x1 := tx_fx hx f1 (by unfold Wt3; omega) (fun i => by unfold Wt3; omega)
    unfold g_X8_step_60
    rw [x1.1, e3, show Int.toNat ((skp s N e : Nat) : Int) = skp s N e by omega]
    -- 88: kind and the first end
    have s88 : ∀ kk : Int, kk = (if N ≤ skp s N e then 0 else knd (s (skp s N e))) → Ok (g_X8_step_88 kk ζ1) (fun ζ' => Tp s N e ζ' ∧ Fx Wt3 ζ ζ') := fun kk hkk => by
      have kr : 0 ≤ kk ∧ kk ≤ 4 := by rw [hkk]; split; omega; have := kb (s (skp s N e)); omega
      unfold g_X8_step_88
      have a3 : (zI ζ1 27 2 kk).1 27 3 = skp s N e := by rw [zI_1, if_neg (by omega)]; exact e3
      have a1 : (zI ζ1 27 2 kk).1 27 1 = N := by rw [zI_1, if_neg (by omega)]; exact x1.1
      rw [a3, a1]
      refine ok_beq (s_min _ (by omega) (by omega)) ?_
      generalize hm : (if (N : Int) < (skp s N e : Int) + 1 then (N : Int) else (skp s N e : Int) + 1) = m0
      have c2 : (zI (zI ζ1 27 2 kk) 27 4 m0).1 27 2 = kk := by rw [zI_1, if_neg (by omega), zI_1, if_pos ⟨rfl, rfl⟩]
      have c3 : (zI (zI ζ1 27 2 kk) 27 4 m0).1 27 3 = skp s N e := by rw [zI_1, if_neg (by omega)]; exact a3
      have c4 : (zI (zI ζ1 27 2 kk) 27 4 m0).1 27 4 = m0 := by rw [zI_1, if_pos ⟨rfl, rfl⟩]
      have fz : Fx Wt3 ζ (zI (zI ζ1 27 2 kk) 27 4 m0) := fx_I (fx_I f1 (by unfold Wt3; omega)) (by unfold Wt3; omega)
      rw [c2]
      generalize zI (zI ζ1 27 2 kk) 27 4 m0 = ζ2 at c2 c3 c4 fz ⊢
      have eK : tK s N e = if N ≤ skp s N e then 0 else if knd (s (skp s N e)) = 1 ∧ 8 < tE s N e - skp s N e then 4 else if knd (s (skp s N e)) = 2 ∧ 3 < tE s N e - skp s N e then 4 else knd (s (skp s N e)) := rfl
      have eE : tE s N e = if N ≤ skp s N e then N else if knd (s (skp s N e)) = 1 ∨ knd (s (skp s N e)) = 2 then rnp s N (knd (s (skp s N e))) (skp s N e) else skp s N e + 1 := rfl
      have run : (kk = 1 ∨ kk = 2) → Ok (g_X8_step_124 ζ2) (fun ζ' => Tp s N e ζ' ∧ Fx Wt3 ζ ζ') := fun h12 => by
        have lt : ¬ N ≤ skp s N e := fun q => by rw [if_pos q] at hkk; omega
        rw [if_neg lt] at hkk eK eE
        rw [if_neg (by omega)] at hm
        rw [← hkk] at eK eE
        rw [if_pos h12] at eE
        have eR : rnp s N kk (skp s N e) = rnp s N kk (skp s N e + 1) := by rw [rnp_e, if_pos ⟨by omega, hkk.symm⟩]
        have key : ∀ (n : Nat) (y : Nat) (ζ3 : ZS), N - y < n → y ≤ N → ζ3.1 27 4 = y → ζ3.1 27 2 = kk → ζ3.1 27 3 = skp s N e → Fx Wt3 ζ ζ3 → rnp s N kk y = tE s N e → Ok (g_X8_step_130 1 n ζ3) (fun ζ' => Tp s N e ζ' ∧ Fx Wt3 ζ ζ') := by
          intro n
          induction n with
          | zero => intro _ _ h; omega
          | succ n ih =>
            intro y ζ3 hn hy y4 y2 y3 f3 hr
            have x3 := tx_fx hx f3 (by unfold Wt3; omega) (fun i => by unfold Wt3; omega)
            have out : rnp s N kk y = y → Ok (g_X8_step_177 1 ζ3) (fun ζ' => Tp s N e ζ' ∧ Fx Wt3 ζ ζ') := fun q => by
              have ey : tE s N e = y := by rw [← hr, q]
              rw [ey] at eK
              unfold g_X8_step_177 g_X8_step_204 g_X8_step_212
              rw [y2, y3, y4]
              have yl := tE_b (s := s) heN
              rw [ey] at yl
              have done : tK s N e = kk → Ok (some ζ3) (fun ζ' => Tp s N e ζ' ∧ Fx Wt3 ζ ζ') := fun g => ok_some ⟨⟨by rw [y2, g], y3, by rw [y4, ey]⟩, f3⟩
              have four : tK s N e = 4 → Ok (some (zI ζ3 27 2 4)) (fun ζ' => Tp s N e ζ' ∧ Fx Wt3 ζ ζ') := fun g => ok_some ⟨⟨by rw [zI_1, if_pos ⟨rfl, rfl⟩, g], by rw [zI_1, if_neg (by omega)]; exact y3, by rw [zI_1, if_neg (by omega), y4, ey]⟩, fx_I f3 (by unfold Wt3; omega)⟩
              refine ok_gI (by omega) (by omega) (by omega) (by omega) (fun c => by omega) (fun _ => ok_gI (by omega) (by omega) (by omega) (by omega) (fun c => ok_gI (by omega) (by omega) (by omega) (by omega) (fun d => done ?_) (fun d => four ?_)) (fun c => ok_gI (by omega) (by omega) (by omega) (by omega) (fun d => done ?_) (fun d => four ?_)))
              · rw [eK, if_neg (by omega), if_neg (by omega)]
              · rw [eK, if_pos (by omega)]
              · rw [eK, if_neg (by omega), if_neg (by omega)]
              · rw [eK, if_neg (by omega), if_pos (by omega)]
            unfold g_X8_step_130
            rw [x3.1, y4, show Int.toNat ((y : Nat) : Int) = y by omega]
            refine ok_gI (by omega) (by omega) (by omega) (by omega) (fun c => by omega) (fun _ => ok_gI (by omega) (by omega) (by omega) (by omega) (fun c => out (by rw [rnp_e, if_neg (by omega)])) (fun c => ok_gk (by omega) (by omega) ?_))
            have sy := hs y (by omega)
            rw [x3.2 y (by omega)]
            refine ok_beq (s_kindOf ζ3 ⟨by omega, by omega⟩) ?_
            rw [y2]
            have := kb (s y)
            refine ok_gI (by omega) (by omega) (by omega) (by omega) (fun d => ?_) (fun d => out (by rw [rnp_e, if_neg (fun q => d q.2)]))
            rw [y4]
            refine ih (y + 1) _ (by omega) (by omega) (by rw [zI_1, if_pos ⟨rfl, rfl⟩]; omega) (by rw [zI_1, if_neg (by omega)]; exact y2) (by rw [zI_1, if_neg (by omega)]; exact y3) (fx_I f3 (by unfold Wt3; omega)) ?_
            rw [← hr, rnp_e kk y, if_pos ⟨by omega, d⟩]
        unfold g_X8_step_124 g_X8_step_129
        exact key FU (skp s N e + 1) ζ2 (by rw [FU_e]; omega) (by omega) (by rw [c4, ← hm]; omega) c2 c3 fz (by rw [eE, eR])
      refine ok_gI (by omega) (by omega) (by omega) (by omega) (fun c => run (Or.inl c)) (fun n1 => ok_gI (by omega) (by omega) (by omega) (by omega) (fun c => run (Or.inr c)) (fun n2 => ?_))
      unfold g_X8_step_129
      show Ok (g_X8_step_130 0 (4999 + 1) ζ2) _
      unfold g_X8_step_130 g_X8_step_177 g_X8_step_212
      refine ok_gI (by omega) (by omega) (by omega) (by omega) (fun _ => ok_gI (by omega) (by omega) (by omega) (by omega) (fun _ => ok_some ⟨⟨?_, c3, ?_⟩, fz⟩) (fun q => absurd rfl q)) (fun q => absurd rfl q)
      · rw [c2, eK, hkk]
        rw [hkk] at n1 n2
        split
        · rfl
        case isFalse q =>
          rw [if_neg q] at n1 n2
          rw [if_neg (fun g => n1 g.1), if_neg (fun g => n2 g.1)]
      · rw [c4, eE, ← hm]
        rw [hkk] at n1 n2
        by_cases q : N ≤ skp s N e
        · rw [if_pos q, if_pos (by omega)]
        · rw [if_neg q] at n1 n2
          rw [if_neg q, if_neg (by omega), if_neg (by omega)]; omega
    refine ok_gI (by omega) (by omega) (by omega) (by omega) (fun c => s88 0 (by rw [if_pos (by omega)])) (fun c => ok_gk (by omega) (by omega) ?_)
    have sq := hs (skp s N e) (by omega)
    rw [x1.2 (skp s N e) (by omega)]
    exact ok_beq (s_kindOf ζ1 ⟨by omega, by omega⟩) (s88 _ (by rw [if_neg (by omega)]))
  have key : ∀ (n : Nat) (x : Nat) (ζ1 : ZS), N - x < n → x ≤ N → ζ1.1 27 3 = x → Fx Wt3 ζ ζ1 → skp s N x = skp s N e → Ok (g_X8_step_8 n ζ1) (fun ζ' => Tp s N e ζ' ∧ Fx Wt3 ζ ζ') := by
    intro n
    induction n with
    | zero => intro _ _ h; omega
    | succ n ih =>
      intro x ζ1 hn hxN e3 f1 hk
      have x1 := tx_fx hx f1 (by unfold Wt3; omega) (fun i => by unfold Wt3; omega)
      unfold g_X8_step_8 g_X8_step_47
      rw [x1.1, e3, show Int.toNat ((x : Nat) : Int) = x by omega]
      refine ok_gI (by omega) (by omega) (by omega) (by omega) (fun c => s60 ζ1 f1 ?_) (fun c => ok_gk (by omega) (by omega) ?_)
      · rw [e3, ← hk, skp_e, if_neg (by omega)]
      have sx := hs x (by omega)
      rw [x1.2 x (by omega)]
      have bl : blc (s x) → Ok (g_X8_step_8 n (zI ζ1 27 3 ((x : Int) + 1))) (fun ζ' => Tp s N e ζ' ∧ Fx Wt3 ζ ζ') := fun b =>
        ih (x + 1) _ (by omega) (by omega) (by rw [zI_1, if_pos ⟨rfl, rfl⟩]; omega) (fx_I f1 (by unfold Wt3; omega)) (by rw [← hk, skp_e x, if_pos ⟨by omega, b⟩])
      refine ok_gI (by omega) (by omega) (by omega) (by omega) (fun b => bl (Or.inl b)) (fun b1 => ok_gk (by omega) (by omega) (ok_gI (by omega) (by omega) (by omega) (by omega) (fun b => bl (Or.inr b)) (fun b2 => s60 ζ1 f1 ?_)))
      rw [e3, ← hk, skp_e, if_neg (fun q => by have := q.2; omega)]
  unfold g_X8_step
  rw [he]
  exact key FU e _ (by rw [FU_e]; omega) heN (by rw [zI_1, if_pos ⟨rfl, rfl⟩]) (fx_I (fx_refl _ _) (by unfold Wt3; omega)) rfl
end
