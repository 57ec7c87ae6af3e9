/-! the start of the law holds what holds between the calls -/
theorem cls_far2 {A : Nat → Nat → Int} {ζ ζ' : ZS} (hs : Ws A) (h : Cls A ζ) (z : ∀ x y, 26 ≤ x → ζ'.1 x y = ζ.1 x y ∧ ζ'.2.1 x y = ζ.2.1 x y) (hr : ζ'.2.2 26 14 = ζ.2.2 26 14 ∧ ζ'.2.2 26 15 = ζ.2.2 26 15) : Cls A ζ' :=
  cls_sl hs (fun _ _ _ => rfl) h (cr_fx h.1 hr (fun x y g => (z x y (by omega)).1)) (fun x y g => z x y (by unfold Wfo at g; omega)) (z 26 18 (by omega)).1
def Far (σ σ' : HS) : Prop := ∀ c, 25 ≤ c → σ'.1 c = σ.1 c ∧ σ'.2.1 c = σ.2.1 c ∧ σ'.2.2 c = σ.2.2 c
theorem far_r (σ : HS) : Far σ σ := fun _ _ => ⟨rfl, rfl, rfl⟩
theorem far_N {σ σ' : HS} {i : Nat} (h : Far σ σ') (hi : i < 25) : Far σ (sN σ' i) := fun c hc => by
  have e : ¬ c = i := by omega
  have q := h c hc
  exact ⟨(if_neg e).trans q.1, (if_neg e).trans q.2.1, (if_neg e).trans q.2.2⟩
theorem far_R {σ σ' : HS} {i k : Nat} {v : Option Nat} (h : Far σ σ') (hi : i < 25) : Far σ (sR σ' i k v) := fun c hc => by
  have q := h c hc
  refine ⟨q.1, q.2.1, ?_⟩
  rw [← q.2.2]
  funext y
  show u2 σ'.2.2 i k v c y = _
  rw [u2_e, if_neg (by omega)]
theorem far_I {σ σ' : HS} {i k : Nat} {v : Int32} (h : Far σ σ') (hi : i < 25) : Far σ (sI σ' i k v) := fun c hc => by
  have q := h c hc
  refine ⟨?_, q.2.1, q.2.2⟩
  rw [← q.1]
  funext y
  show u2 σ'.1 i k v c y = _
  rw [u2_e, if_neg (by omega)]
theorem far_J {σ σ' : HS} {i k : Nat} {v : Int64} (h : Far σ σ') (hi : i < 25) : Far σ (sJ σ' i k v) := fun c hc => by
  have q := h c hc
  refine ⟨q.1, ?_, q.2.2⟩
  rw [← q.2.1]
  funext y
  show u2 σ'.2.1 i k v c y = _
  rw [u2_e, if_neg (by omega)]
set_option maxRecDepth 100000 in
set_option maxHeartbeats 4000000 in
theorem st_0far (σ : HS) : Far σ (st_0 σ) := far_R (far_N (far_I (far_R (far_N (far_R (far_N (far_R (far_N (far_R (far_N (far_R (far_N (far_R (far_N (far_R (far_N (far_R (far_N (far_R (far_N (far_R (far_N (far_R (far_N (far_R (far_N (far_R (far_N (far_R (far_N (far_R (far_N (far_R (far_N (far_R (far_N (far_R (far_N (far_R (far_J (far_J (far_J (far_J (far_J (far_J (far_J (far_J (far_J (far_J (far_J (far_J (far_J (far_J (far_J (far_J (far_J (far_N (far_R (far_N (far_R (far_N (far_R (far_N (far_R (far_N (far_r σ) (by decide)) (by decide)) (by decide)) (by decide)) (by decide)) (by decide)) (by decide)) (by decide)) (by decide)) (by decide)) (by decide)) (by decide)) (by decide)) (by decide)) (by decide)) (by decide)) (by decide)) (by decide)) (by decide)) (by decide)) (by decide)) (by decide)) (by decide)) (by decide)) (by decide)) (by decide)) (by decide)) (by decide)) (by decide)) (by decide)) (by decide)) (by decide)) (by decide)) (by decide)) (by decide)) (by decide)) (by decide)) (by decide)) (by decide)) (by decide)) (by decide)) (by decide)) (by decide)) (by decide)) (by decide)) (by decide)) (by decide)) (by decide)) (by decide)) (by decide)) (by decide)) (by decide)) (by decide)) (by decide)) (by decide)) (by decide)) (by decide)) (by decide)) (by decide)) (by decide)) (by decide)) (by decide)) (by decide)) (by decide)) (by decide)) (by decide)
theorem zof_i (x : Int32) : x = mJ x.toInt := (Int32.ofInt_toInt x).symm
theorem zof_l (x : Int64) : x = mL x.toInt := (Int64.ofInt_toInt x).symm
set_option maxRecDepth 100000 in
set_option maxHeartbeats 4000000 in
theorem inv_new : ∃ σ1 σ2, f_X11_init_26 (sN zH 26) = some σ1 ∧ f_X12_init_0 (sN σ1 0) = some σ2 ∧ Inv σ2 := by
  have f26 := st_26f (sN zH 26)
  have z26 := fun m => st_26z (sN zH 26) m
  have p1 := pl_1 (sN zH 26)
  have c0 : ∀ k, (st_26 (sN zH 26)).2.2 0 k = pt 0 k := fun k => rfl
  rw [fi_26]
  generalize st_26 (sN zH 26) = S at f26 z26 p1 c0 ⊢
  have hR : Rp (fun c k => (S.1 c k).toInt, fun c k => (S.2.1 c k).toInt, S.2.2) S := by
    refine ⟨fun c k => zof_i _, fun c k => zof_l _, rfl, fun c k b e => ?_⟩
    show S.2.2 c k = some b
    rcases pt_in e with q | q
    · have : c = 0 := pl_r.1 _ q
      rw [this, c0, ← this]; exact e
    · exact alp_m p1 _ q
  obtain ⟨g1, e1, d1, d2⟩ := b_new (ζ := (fun c k => (S.1 c k).toInt, fun c k => (S.2.1 c k).toInt, S.2.2)) f26.1 f26.2.1 (fun t m ht hm => by show (S.1 (32 + t) m).toInt = 0; rw [z26 m t ht]; rfl) (by show (S.1 27 1).toInt = 0; rw [f26.2.2.1]; rfl) (fun m hm => by
    show (S.1 148 m).toInt = -1
    rcases (show m = 0 ∨ m = 1 ∨ m = 2 ∨ m = 3 by omega) with e | e | e | e
    · rw [e, f26.2.2.2.1]; rfl
    · rw [e, f26.2.2.2.2.1]; rfl
    · rw [e, f26.2.2.2.2.2.1]; rfl
    · rw [e, f26.2.2.2.2.2.2]; rfl)
  obtain ⟨σ1, es1, r1⟩ := q_X11_beginWith 3 3 rfl _ S hR g1 e1
  refine ⟨σ1, ?_⟩
  rw [es1]
  have far := st_0far (sN σ1 0)
  have f0 := fun m => st_0f (sN σ1 0) m
  have p0 := pl_0 (sN σ1 0)
  rw [fi_0]
  have n02 : (sN σ1 0).1 0 2 = 0 := rfl
  have nf : ∀ c, 25 ≤ c → (sN σ1 0).1 c = σ1.1 c ∧ (sN σ1 0).2.1 c = σ1.2.1 c ∧ (sN σ1 0).2.2 c = σ1.2.2 c := fun c hc => ⟨if_neg (by omega), if_neg (by omega), if_neg (by omega)⟩
  generalize st_0 (sN σ1 0) = S0 at far f0 p0 ⊢
  have fr : ∀ c, 25 ≤ c → S0.1 c = σ1.1 c ∧ S0.2.1 c = σ1.2.1 c ∧ S0.2.2 c = σ1.2.2 c := fun c hc => ⟨(far c hc).1.trans (nf c hc).1, (far c hc).2.1.trans (nf c hc).2.1, (far c hc).2.2.trans (nf c hc).2.2⟩
  have hR0 : Rp (fun c k => if c < 25 then (S0.1 c k).toInt else g1.1 c k, fun c k => if c < 25 then (S0.2.1 c k).toInt else g1.2.1 c k, S0.2.2) S0 := by
    refine ⟨fun c k => ?_, fun c k => ?_, rfl, fun c k b e => ?_⟩
    · show S0.1 c k = mJ (if c < 25 then (S0.1 c k).toInt else g1.1 c k)
      split
      · exact zof_i _
      · rw [(fr c (by omega)).1]; exact r1.1 c k
    · show S0.2.1 c k = mL (if c < 25 then (S0.2.1 c k).toInt else g1.2.1 c k)
      split
      · exact zof_l _
      · rw [(fr c (by omega)).2.1]; exact r1.2.1 c k
    · show S0.2.2 c k = some b
      rcases pt_in e with q | q
      · exact alp_m p0 _ q
      · have : 26 ≤ c := pl_r.2 _ q
        rw [(fr c (by omega)).2.2, r1.2.2.1]
        exact r1.2.2.2 c k b e
  obtain ⟨g2, e2, i0, w0, rf0, k2, k1⟩ := a_new (ζ := (fun c k => if c < 25 then (S0.1 c k).toInt else g1.1 c k, fun c k => if c < 25 then (S0.2.1 c k).toInt else g1.2.1 c k, S0.2.2)) (by show (S0.1 0 32).toInt = -1; rw [(f0 0).1]; rfl) (by show (S0.1 0 2).toInt = 0; rw [(f0 0).2.2.1, n02]; rfl) (fun t m ht hm => by show (S0.1 17 (4 * t + m)).toInt = 0; rw [(f0 (4 * t + m)).2.1]; rfl)
  obtain ⟨σ2, es2, r2⟩ := q_X12_clears 3 3 rfl _ S0 hR0 g2 e2
  refine ⟨σ2, rfl, ?_, g2, g2.1, r2, rf0, ?_, w0, fun j hj => ?_⟩
  · rw [es2]; rfl
  · refine cls_far2 w0.2.1 (d1 g2.1 i0) (fun x y hx => ⟨?_, ?_⟩) ⟨?_, ?_⟩
    · rw [k1 x y (by omega)]
      show (if x < 25 then (S0.1 x y).toInt else g1.1 x y) = _
      rw [if_neg (by omega)]
    · rw [k2]
      show (if x < 25 then (S0.2.1 x y).toInt else g1.2.1 x y) = _
      rw [if_neg (by omega)]
    · rw [k2]
      show S0.2.2 26 14 = _
      rw [(fr 26 (by omega)).2.2, r1.2.2.1]
    · rw [k2]
      show S0.2.2 26 15 = _
      rw [(fr 26 (by omega)).2.2, r1.2.2.1]
  · rw [k2]
    show (S0.2.1 5 j).toInt = _
    obtain ⟨-, -, -, v0, v1, v2, v3, v4, v5, v6, v7, v8, v9, v10, v11, v12, v13, v14, v15, v16⟩ := f0 0
    rcases (show j = 0 ∨ j = 1 ∨ j = 2 ∨ j = 3 ∨ j = 4 ∨ j = 5 ∨ j = 6 ∨ j = 7 ∨ j = 8 ∨ j = 9 ∨ j = 10 ∨ j = 11 ∨ j = 12 ∨ j = 13 ∨ j = 14 ∨ j = 15 ∨ j = 16 by omega) with e | e | e | e | e | e | e | e | e | e | e | e | e | e | e | e | e <;> subst e
    · rw [v0]; decide
    · rw [v1]; decide
    · rw [v2]; decide
    · rw [v3]; decide
    · rw [v4]; decide
    · rw [v5]; decide
    · rw [v6]; decide
    · rw [v7]; decide
    · rw [v8]; decide
    · rw [v9]; decide
    · rw [v10]; decide
    · rw [v11]; decide
    · rw [v12]; decide
    · rw [v13]; decide
    · rw [v14]; decide
    · rw [v15]; decide
    · rw [v16]; decide
/-- the law's own long[1] -/
theorem inv_sN {σ : HS} (h : Inv σ) : Inv (sN σ 25) := by
  obtain ⟨ζ, A, hr, hf, hc, hW, hd⟩ := h
  refine ⟨(fun c k => if c = 25 then 0 else ζ.1 c k, fun c k => if c = 25 then 0 else ζ.2.1 c k, (sN σ 25).2.2), A, ⟨fun c k => ?_, fun c k => ?_, rfl, fun c k b e => ?_⟩, (fun x y g => ?_), cls_far2 hW.2.1 hc (fun x y g => ⟨?_, ?_⟩) ⟨?_, ?_⟩, hW, fun j hj => ?_⟩
  · show (if c = 25 then (fun _ => (0 : Int32)) else σ.1 c) k = mJ (if c = 25 then 0 else ζ.1 c k)
    split
    · rfl
    · exact hr.1 c k
  · show (if c = 25 then (fun _ => (0 : Int64)) else σ.2.1 c) k = mL (if c = 25 then 0 else ζ.2.1 c k)
    split
    · rfl
    · exact hr.2.1 c k
  · show (if c = 25 then (fun _ => none) else σ.2.2 c) k = some b
    have : c ≠ 25 := fun q => by rcases pt_in e with g | g; (have := pl_r.1 _ g; have : c = 0 := this; omega); (have := pl_r.2 _ g; have : 26 ≤ c := this; omega)
    rw [if_neg this, hr.2.2.1]
    exact hr.2.2.2 c k b e
  · show (if x = 25 then 0 else ζ.1 x y) = _
    rw [if_neg (by unfold psl at g; omega)]; exact hf x y g
  · show (if x = 25 then 0 else ζ.1 x y) = _
    rw [if_neg (by omega)]
  · show (if x = 25 then 0 else ζ.2.1 x y) = _
    rw [if_neg (by omega)]
  · show (if 26 = 25 then (fun _ => none) else σ.2.2 26) 14 = _
    rw [if_neg (by omega), hr.2.2.1]
  · show (if 26 = 25 then (fun _ => none) else σ.2.2 26) 15 = _
    rw [if_neg (by omega), hr.2.2.1]
  · show (if 5 = 25 then 0 else ζ.2.1 5 j) = _
    rw [if_neg (by omega)]; exact hd j hj
