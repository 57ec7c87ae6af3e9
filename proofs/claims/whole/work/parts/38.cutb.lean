/-! the class's cones: one row more -/
def e4 (v w : V4) : Prop := ∀ i, i < 4 → v i = w i
theorem e4_symm {v w : V4} (h : e4 v w) : e4 w v := fun i hi => (h i hi).symm
theorem par_e4 {v v' w w' : V4} (h : par v w) (e1 : e4 v v') (e2 : e4 w w') : par v' w' := fun i hi j hj => by rw [← e1 i hi, ← e1 j hj, ← e2 i hi, ← e2 j hj]; exact h i hi j hj
theorem par_of_e4 {v w : V4} (h : e4 v w) : par v w := par_e4 (par_self v) (fun _ _ => rfl) h
theorem nv_e4 {v w : V4} (h : nv v) (e : e4 v w) : nv w := by obtain ⟨i, hi, hne⟩ := h; exact ⟨i, hi, by rw [← e i hi]; exact hne⟩
theorem prm_e4 {v w : V4} (h : prm v) (e : e4 v w) : prm w := fun m hm => h m (fun i hi => by rw [e i hi]; exact hm i hi)
theorem ex_e4 {A : List V4} {v w : V4} (h : Ex A v) (e : e4 v w) : Ex A w :=
  ⟨fun a ha => by rw [← dt_congr e]; exact h.1 a ha, nv_e4 h.2.1 e, fun x y n hx hy hn he => par_e4 (h.2.2 x y n hx hy hn (fun i hi => by rw [e i hi]; exact he i hi)) (fun _ _ => rfl) e⟩
theorem pos_e4 {v w : V4} (h : pos4 v) (e : e4 v w) : pos4 w := ⟨fun i hi => by rw [← e i hi]; exact h.1 i hi, nv_e4 h.2 e⟩
def Iv (ζ1 : ZS) (c k R N : Nat) (ρ : Nat → V4) (B : List V4) (S : V4 → Prop) : Prop := ζ1.1 c 3 = k ∧ ζ1.1 c 4 = (R : Int) ∧ ζ1.1 c 5 = N ∧ (∀ l, l < N → Ex B (cw ζ1 c l) ∧ prm (cw ζ1 c l) ∧ ζ1.1 (c + 2) l = ((msk (fun b => decide (dt (ρ b) (cw ζ1 c l) = 0)) R : Nat) : Int)) ∧ (∀ l l', l < N → l' < N → par (cw ζ1 c l) (cw ζ1 c l') → l = l') ∧ (∀ l, l < N → ∃ u, S u ∧ par u (cw ζ1 c l)) ∧ ∀ u, S u → ∃ l, l < N ∧ par u (cw ζ1 c l)
theorem iv_congr {ζ1 : ZS} {c k R N : Nat} {ρ : Nat → V4} {B : List V4} {S S' : V4 → Prop} (h : Iv ζ1 c k R N ρ B S) (e : ∀ u, S u ↔ S' u) : Iv ζ1 c k R N ρ B S' :=
  ⟨h.1, h.2.1, h.2.2.1, h.2.2.2.1, h.2.2.2.2.1, fun l hl => by obtain ⟨u, hu, hp⟩ := h.2.2.2.2.2.1 l hl; exact ⟨u, (e u).mp hu, hp⟩, fun u hu => h.2.2.2.2.2.2 u ((e u).mpr hu)⟩
theorem iv_step {ζ1 ζ2 : ZS} {c k R N : Nat} {ρ : Nat → V4} {B : List V4} {S : V4 → Prop} {u w : V4} (h : Iv ζ1 c k R N ρ B S) (h5 : ζ2.1 c 5 = ((N + 1 : Nat) : Int)) (hw : ∀ m, m < 4 → cw ζ2 c N m = w m) (ht : ζ2.1 (c + 2) N = ((msk (fun b => decide (dt (ρ b) w = 0)) R : Nat) : Int)) (hf : Fx (Wt c N) ζ1 ζ2) (hx : Ex B w) (hp : prm w) (hpu : par u w) (hu : nv u) (hne : ∀ u', S u' → ¬ par u' u) : Iv ζ2 c k R (N + 1) ρ B (fun x => S x ∨ x = u) := by
  have old : ∀ l, l < N → e4 (cw ζ1 c l) (cw ζ2 c l) := fun l hl m hm => ((hf.1 (c + 1) (4 * l + m) (by unfold Wt; omega)).2).symm
  have nw : e4 w (cw ζ2 c N) := fun m hm => (hw m hm).symm
  have clash : ∀ l, l < N → ¬ par (cw ζ1 c l) w := by
    intro l hl hq
    obtain ⟨u', hs, hq'⟩ := h.2.2.2.2.2.1 l hl
    have nl := (h.2.2.2.1 l hl).1.2.1
    have a1 : par u' w := par_trans (par_symm hq') hq nl
    exact hne u' hs (par_trans (par_symm a1) (par_symm hpu) hx.2.1)
  refine ⟨by rw [(hf.1 c 3 (by unfold Wt; omega)).1]; exact h.1, by rw [(hf.1 c 4 (by unfold Wt; omega)).1]; exact h.2.1, h5, fun l hl => ?_, fun l l' hl hl' hq => ?_, fun l hl => ?_, fun x hx' => ?_⟩
  · by_cases e : l = N
    · subst e
      refine ⟨ex_e4 hx nw, prm_e4 hp nw, ?_⟩
      rw [ht]
      congr 2
      funext b
      rw [dt_congr nw]
    · have hl2 : l < N := by omega
      have := h.2.2.2.1 l hl2
      refine ⟨ex_e4 this.1 (old l hl2), prm_e4 this.2.1 (old l hl2), ?_⟩
      rw [(hf.1 (c + 2) l (by unfold Wt; omega)).1, this.2.2]
      congr 2
      funext b
      rw [dt_congr (old l hl2)]
  · by_cases e : l = N
    · by_cases e' : l' = N
      · omega
      · subst e
        exact absurd (par_symm (par_e4 hq (e4_symm nw) (e4_symm (old l' (by omega))))) (clash l' (by omega))
    · by_cases e' : l' = N
      · subst e'
        exact absurd (par_e4 hq (e4_symm (old l (by omega))) (e4_symm nw)) (clash l (by omega))
      · exact h.2.2.2.2.1 l l' (by omega) (by omega) (par_e4 hq (e4_symm (old l (by omega))) (e4_symm (old l' (by omega))))
  · by_cases e : l = N
    · subst e
      exact ⟨u, Or.inr rfl, par_e4 hpu (fun _ _ => rfl) nw⟩
    · obtain ⟨u', hs, hq⟩ := h.2.2.2.2.2.1 l (by omega)
      exact ⟨u', Or.inl hs, par_e4 hq (fun _ _ => rfl) (old l (by omega))⟩
  · rcases hx' with hs | e
    · obtain ⟨l, hl, hq⟩ := h.2.2.2.2.2.2 x hs
      exact ⟨l, by omega, par_e4 hq (fun _ _ => rfl) (old l hl)⟩
    · rw [e]; exact ⟨N, by omega, par_e4 hpu (fun _ _ => rfl) nw⟩
theorem iv_fx {ζ1 ζ2 : ZS} {c k R N : Nat} {ρ : Nat → V4} {B : List V4} {S : V4 → Prop} (h : Iv ζ1 c k R N ρ B S) (h1 : ∀ x, ζ2.1 c x = ζ1.1 c x) (h2 : ∀ x, ζ2.1 (c + 2) x = ζ1.1 (c + 2) x) (h3 : ∀ x, ζ2.2.1 (c + 1) x = ζ1.2.1 (c + 1) x) : Iv ζ2 c k R N ρ B S := by
  have e : ∀ l, cw ζ2 c l = cw ζ1 c l := fun l => by funext m; exact h3 _
  unfold Iv
  simp only [h1, h2, e]
  exact h
theorem z_top (p : Nat → Bool) {R : Nat} (hR : R < 31) : zor (msk p R) (zshl 1 R) = ((msk (fun b => decide (b = R) || p b) (R + 1) : Nat) : Int) := by
  rw [zshl_n hR, zor_n (msk_31 p (by omega)) (two_31 hR)]
  congr 1
  apply msk_of (Nat.or_lt_two_pow (Nat.lt_of_lt_of_le (msk_lt p R) (Nat.pow_le_pow_right (by decide) (by omega))) (Nat.pow_lt_pow_right (by decide) (by omega)))
  intro i hi
  rw [Nat.testBit_or, msk_tb, Nat.testBit_two_pow]
  by_cases e : i = R
  · subst e; simp
  · simp [e, show i < R by omega, Ne.symm e]
theorem z_top0 (p : Nat → Bool) {R : Nat} (hR : R < 31) : zor (msk p R) 0 = ((msk (fun b => !decide (b = R) && p b) (R + 1) : Nat) : Int) := by
  have := zor_n (a := msk p R) (b := 0) (msk_31 p (by omega)) (by decide)
  have e : ((0 : Nat) : Int) = 0 := rfl
  rw [e] at this
  rw [this, Nat.or_zero]
  congr 1
  apply msk_of (Nat.lt_of_lt_of_le (msk_lt p R) (Nat.pow_le_pow_right (by decide) (by omega)))
  intro i hi
  rw [msk_tb]
  by_cases e : i = R
  · subst e; simp
  · simp [e, show i < R by omega]
def Wc (c d : Nat) (x _k : Nat) : Prop := x = c ∨ x = c + 1 ∨ x = c + 2 ∨ x = d + 3
set_option maxHeartbeats 1000000 in
theorem s_becomeCut (ζ : ZS) (c d e : Nat) {k R n : Nat} {ρ : Nat → V4} (hc : Cn ζ d k R n ρ) (hr : Rk k R ρ) (hR : R + 1 + (4 - k) ≤ 23) (hd : c + 3 < d ∨ d + 3 < c) (hl : ln e = 4) (hec : e < c ∨ c + 3 < e) (hed : e < d ∨ d + 3 < e) (hbd : bd (fun m => ζ.1 e m)) :
    Ok (g_X1_becomeCut c d e ζ) (fun ζ' => ∃ n', Cn ζ' c k (R + 1) n' (rx R ρ (fun m => ζ.1 e m)) ∧ Fx (Wc c d) ζ ζ') := by
  generalize hrr : (fun m => ζ.1 e m : V4) = rr at hbd
  have hre : ∀ m, ζ.1 e m = rr m := fun m => by rw [← hrr]
  have hk1 := hr.1
  have hk4 := hr.2.1
  have hkR := hr.2.2.1
  have n42 := cn_44 hc hr (by omega)
  have hcE := @cn_edge ζ d k R n ρ hc hr
  obtain ⟨h3, h4, h5, hti, hI⟩ := hc
  obtain ⟨F, hF⟩ : ∃ F : Nat → V4, F = cw ζ d := ⟨_, rfl⟩
  rw [← hF] at hI
  simp only [← hF] at hti hcE
  have hpos := Ak_pos (k := k) (R := R) (ρ := ρ)
  have hbdf : ∀ i, i < n → ∀ m, m < 4 → 0 ≤ F i m ∧ F i m ≤ 6000000 := fun i hi => ex_bd hpos (Ak_bd hr) (hI.1 i hi).1 (hI.1 i hi).2
  have hdt : ∀ i, i < n → -2400000000 ≤ dt rr (F i) ∧ dt rr (F i) ≤ 2400000000 := fun i hi => dt_bd hbd (hbdf i hi)
  have hexp : ∀ v, Ex (rr :: Ak k R ρ) v → Ex (Ak k (R + 1) (rx R ρ rr)) v := fun v hv => Ex_congr (fun w => Ak_rx) hv
  -- how many may be taken
  have room : ∀ {ζ1 : ZS} {N : Nat} {S : V4 → Prop}, Iv ζ1 c k (R + 1) N (rx R ρ rr) (rr :: Ak k R ρ) S → N < 44 := by
    intro ζ1 N S h
    have := (cntR (Rk_rx hr hbd) (by omega) (fun l hl => ⟨hexp _ (h.2.2.2.1 l hl).1, (h.2.2.2.1 l hl).2.1⟩) h.2.2.2.2.1).2 (by omega)
    omega
  -- the source stays
  have src : ∀ {ζ1 : ZS}, Fx (Wc c d) ζ ζ1 → (∀ i, cw ζ1 d i = F i) ∧ ζ1.1 d = ζ.1 d ∧ ζ1.1 (d + 2) = ζ.1 (d + 2) ∧ ζ1.1 e = ζ.1 e := by
    intro ζ1 hf
    refine ⟨fun i => ?_, ?_, ?_, ?_⟩
    · rw [hF]; funext m; exact (hf.1 _ _ (by unfold Wc; omega)).2
    · funext x; exact (hf.1 _ _ (by unfold Wc; omega)).1
    · funext x; exact (hf.1 _ _ (by unfold Wc; omega)).1
    · funext x; exact (hf.1 _ _ (by unfold Wc; omega)).1
  let B := rr :: Ak k R ρ
  let Ed : Nat → Nat → Prop := fun a b => 0 < dt rr (F a) ∧ dt rr (F b) < 0 ∧ Adj (Ak k R ρ) (fls n F) (F a) (F b)
  let S1 : Nat → V4 → Prop := fun o u => ∃ i, i < o ∧ 0 ≤ dt rr (F i) ∧ u = F i
  let S2 : Nat → Nat → V4 → Prop := fun a b u => S1 n u ∨ ∃ a' b', a' < n ∧ b' < n ∧ Ed a' b' ∧ (a' < a ∨ (a' = a ∧ b' < b)) ∧ u = pr rr (F a') (F b')
  let Sd : Nat → ZS → Prop := fun o ζ1 => ∀ i, i < o → ζ1.2.1 (d + 3) i = dt rr (F i)
  let St : Nat → (V4 → Prop) → ZS → Prop := fun o S ζ1 => ∃ N, Iv ζ1 c k (R + 1) N (rx R ρ rr) B S ∧ Sd o ζ1 ∧ Fx (Wc c d) ζ ζ1
  let Post : ZS → Prop := fun ζ' => ∃ n', Cn ζ' c k (R + 1) n' (rx R ρ rr) ∧ Fx (Wc c d) ζ ζ'
  have hF0 : ∀ i, i < n → pos4 (F i) := fun i hi => ex_pos hpos (hI.1 i hi).1
  have wt_c : ∀ N x y, N < 44 → Wt c N x y → Wc c d x y := fun N x y _ h => by unfold Wt at h; unfold Wc; omega
  -- the end
  have fin : ∀ ζ1, St n (S2 n 0) ζ1 → Post ζ1 := by
    rintro ζ1 ⟨N, hv, _, hf⟩
    refine ⟨N, ⟨hv.1, hv.2.1, hv.2.2.1, fun l hl => (hv.2.2.2.1 l hl).2.2, ?_⟩, hf⟩
    refine isc_congr (fun w => Ak_rx) (isc_of hpos hI (fun l hl => ⟨(hv.2.2.2.1 l hl).1, (hv.2.2.2.1 l hl).2.1⟩) hv.2.2.2.2.1 (fun v hx => ?_))
    rcases isc_dd hpos hI hx with ⟨i, hi, g1, g2⟩ | ⟨a, b, ha, hb, g1, g2, g3, g4⟩
    · obtain ⟨l, hl, hp⟩ := hv.2.2.2.2.2.2 (F i) (Or.inl ⟨i, hi, g1, rfl⟩)
      exact ⟨l, hl, par_trans hp g2 (hF0 i hi).2⟩
    · obtain ⟨l, hl, hp⟩ := hv.2.2.2.2.2.2 (pr rr (F a) (F b)) (Or.inr ⟨a, b, ha, hb, ⟨g1, g2, g3⟩, Or.inl ha, rfl⟩)
      exact ⟨l, hl, par_trans hp g4 (pr_pos hpos (hI.1 a ha).1 (hI.1 b hb).1 g1 g2).2⟩
  -- one pair
  have pair : ∀ (a b : Nat) (ζ1 : ZS), a < n → b < n → Ed a b → St n (S2 a b) ζ1 → Ok (g_X1_join c d (a : Int) (b : Int) (zshl 1 (R : Int)) ζ1) (fun ζ2 => St n (S2 a (b + 1)) ζ2) := by
    rintro a b ζ1 ha hb hE ⟨N, hv, hs, hf⟩
    have hN := room hv
    obtain ⟨sw, s1, s2, s3⟩ := src hf
    have ej : jn ζ1 d a b = pr rr (F a) (F b) := by
      funext m
      unfold jn pr
      rw [hs a ha, hs b hb, sw a, sw b]
    have hpp := pr_pos hpos (hI.1 a ha).1 (hI.1 b hb).1 hE.1 hE.2.1
    have hbj : ∀ m, m < 4 → (jn ζ1 d a b m).natAbs < 4611686018427387904 := by
      intro m hm
      rw [ej]
      show (-(dt rr (F b)) * F a m + dt rr (F a) * F b m).natAbs < _
      have m1 := mb (a := -(dt rr (F b))) (b := F a m) (A := 2400000000) (B := 6000000) (by have := hdt b hb; omega) (by have := hdt b hb; omega) (by have := hbdf a ha m hm; omega) (hbdf a ha m hm).2
      have m2 := mb (a := dt rr (F a)) (b := F b m) (A := 2400000000) (B := 6000000) (by have := hdt a ha; omega) (by have := hdt a ha; omega) (by have := hbdf b hb m hm; omega) (hbdf b hb m hm).2
      omega
    refine ok_mono (s_join ζ1 c d rfl rfl (by omega) (by omega) hv.2.2.1 hN hd hbj (by rw [ej]; exact hpp.2)) (fun ζ2 ⟨q5, qt, qw, qf⟩ => ?_)
    rw [ej] at qw
    have hG := gl_pos hpp.2
    have w0 : ∀ m, m < 4 → 0 ≤ cw ζ2 c N m := fun m hm => by
      have p0 := hpp.1 m hm
      have := qw m hm
      exact (sg_mul (a := 1) (b := (gl (pr rr (F a) (F b)) 4 : Int)) (x := pr rr (F a) (F b) m) (by decide) (by omega) (by omega)).1.mp p0
    have wn : nv (cw ζ2 c N) := nv_sc (σ := (gl (pr rr (F a) (F b)) 4 : Int)) qw hpp.2
    have wpos : pos4 (cw ζ2 c N) := ⟨w0, wn⟩
    have wpar : par (pr rr (F a) (F b)) (cw ζ2 c N) := fun i hi j hj => by rw [qw i hi, qw j hj]; grind
    have wex : Ex B (cw ζ2 c N) := ex_par wpar hpp wpos (isc_ed hpos hI ha hb hE.1 hE.2.1 hE.2.2)
    have wm : ζ2.1 (c + 2) N = ((msk (fun x => decide (dt (rx R ρ rr x) (cw ζ2 c N) = 0)) (R + 1) : Nat) : Int) := by
      rw [qt, s2, hti a ha, hti b hb, z_and _ _ (by omega), z_top _ (by omega)]
      congr 1
      apply msk_congr
      intro x hx
      by_cases ex : x = R
      · have : dt rr (cw ζ2 c N) = 0 := (par_sg wpar hpp wpos rr).2.2.mpr (pr_dt rr (F a) (F b))
        simp [ex, rx, this]
      · have hxR : x < R := by omega
        have g1 := (hI.1 a ha).1.1 (ρ x) (List.mem_append_right _ (mem_fl.mpr ⟨x, hxR, rfl⟩))
        have g2 := (hI.1 b hb).1.1 (ρ x) (List.mem_append_right _ (mem_fl.mpr ⟨x, hxR, rfl⟩))
        have iff1 := (par_sg wpar hpp wpos (ρ x)).2.2
        rw [dt_pr] at iff1
        have n1 : 0 < -(dt rr (F b)) := by have := hE.2.1; omega
        have n2 := hE.1
        have k1 := Int.mul_nonneg (Int.le_of_lt n1) g1
        have k2 := Int.mul_nonneg (Int.le_of_lt n2) g2
        have iff2 : dt (ρ x) (cw ζ2 c N) = 0 ↔ (dt (ρ x) (F a) = 0 ∧ dt (ρ x) (F b) = 0) := by
          rw [iff1]
          constructor
          · intro z
            exact ⟨(Int.mul_eq_zero.mp (show -(dt rr (F b)) * dt (ρ x) (F a) = 0 by omega)).resolve_left (by omega), (Int.mul_eq_zero.mp (show dt rr (F a) * dt (ρ x) (F b) = 0 by omega)).resolve_left (by omega)⟩
          · rintro ⟨z1, z2⟩; rw [z1, z2]; simp
        have hrx : rx R ρ rr x = ρ x := by unfold rx; rw [if_neg ex]
        rw [hrx]
        simp only [ex, decide_false, Bool.false_or, iff2, Bool.decide_and]
    have st := iv_step (u := pr rr (F a) (F b)) hv q5 (fun m _ => rfl) wm qf wex (gl_prm hG w0 qw) wpar hpp.2 (fun u' hu' hq => by
      rcases hu' with ⟨i, hi, _, e⟩ | ⟨a', b', ha', hb', hE', hlt, e⟩
      · rw [e] at hq
        exact ne_keep hpos hI hi ha hb hE.1 hE.2.1 (par_symm hq)
      · rw [e] at hq
        have := ne_edge hpos hI ha' hb' hE'.1 hE'.2.1 hE'.2.2 ha hb hE.1 hE.2.1 hq
        omega)
    refine ⟨N + 1, iv_congr st (fun u => ⟨?_, ?_⟩), fun i hi => ?_, fx_trans hf (fx_mono qf (wt_c N · · hN))⟩
    · rintro (hu | hu)
      · rcases hu with hu | ⟨a', b', h1, h2, h3, h4, h5⟩
        · exact Or.inl hu
        · exact Or.inr ⟨a', b', h1, h2, h3, by omega, h5⟩
      · exact Or.inr ⟨a, b, ha, hb, hE, Or.inr ⟨rfl, by omega⟩, hu⟩
    · rintro (hu | ⟨a', b', h1, h2, h3, h4, h5⟩)
      · exact Or.inl (Or.inl hu)
      · by_cases q : a' = a ∧ b' = b
        · rw [q.1, q.2] at h5; exact Or.inr h5
        · exact Or.inl (Or.inr ⟨a', b', h1, h2, h3, by omega, h5⟩)
    · rw [(qf.1 (d + 3) i (by unfold Wt; omega)).2]; exact hs i hi
  -- no pair: nothing new
  have skip : ∀ (a b : Nat) (ζ1 : ZS), ¬ Ed a b → St n (S2 a b) ζ1 → St n (S2 a (b + 1)) ζ1 := by
    rintro a b ζ1 hE ⟨N, hv, hs, hf⟩
    refine ⟨N, iv_congr hv (fun u => ⟨?_, ?_⟩), hs, hf⟩
    · rintro (hu | ⟨a', b', h1, h2, h3, h4, h5⟩)
      · exact Or.inl hu
      · exact Or.inr ⟨a', b', h1, h2, h3, by omega, h5⟩
    · rintro (hu | ⟨a', b', h1, h2, h3, h4, h5⟩)
      · exact Or.inl hu
      · by_cases q : a' = a ∧ b' = b
        · rw [q.1, q.2] at h3; exact absurd h3 hE
        · exact Or.inr ⟨a', b', h1, h2, h3, by omega, h5⟩
  have inner : ∀ (a : Nat) (r108 : Int → ZS → Option ZS), a < n → (∀ ζ2, St n (S2 (a + 1) 0) ζ2 → Ok (r108 ((a : Int) + 1) ζ2) Post) → ∀ (m : Nat) (y : Int) (b : Nat) (ζ1 : ZS), y = b → b ≤ n → n - b < m → St n (S2 a b) ζ1 → Ok (g_X1_becomeCut_120 c d (zshl 1 (R : Int)) (a : Int) r108 m y ζ1) Post := by
    intro a r108 ha hnext m
    induction m with
    | zero => intro _ _ _ _ _ h; omega
    | succ m ih =>
      intro y b ζ1 hy hb hm hst
      subst hy
      obtain ⟨sw, s1, s2, s3⟩ := src hst.choose_spec.2.2
      have hs := hst.choose_spec.2.1
      unfold g_X1_becomeCut_120
      rw [s1]
      refine ok_gI (by omega) (by omega) (by omega) (by omega) (fun h => ?_) (fun h => ?_)
      · refine hnext ζ1 ?_
        have e : b = n := by omega
        subst e
        obtain ⟨N, hv, hs, hf⟩ := hst
        refine ⟨N, iv_congr hv (fun u => ⟨?_, ?_⟩), hs, hf⟩
        · rintro (hu | ⟨a', b', h1, h2, h3, h4, h5⟩)
          · exact Or.inl hu
          · exact Or.inr ⟨a', b', h1, h2, h3, by omega, h5⟩
        · rintro (hu | ⟨a', b', h1, h2, h3, h4, h5⟩)
          · exact Or.inl hu
          · exact Or.inr ⟨a', b', h1, h2, h3, by omega, h5⟩
      · have hbn : b < n := by omega
        have ga := hdt a ha
        have gb := hdt b hbn
        rw [show Int.toNat (a : Int) = a by omega, show Int.toNat (b : Int) = b by omega, hs a ha, hs b hbn]
        have go : ∀ ζ2, St n (S2 a (b + 1)) ζ2 → Ok (g_X1_becomeCut_174 r108 (g_X1_becomeCut_120 c d (zshl 1 (R : Int)) (a : Int) r108 m) c d (zshl 1 (R : Int)) (a : Int) (b : Int) ζ2) Post := fun ζ2 h2 => ih _ (b + 1) ζ2 (by omega) (by omega) (by omega) h2
        refine ok_gk (by omega) (by omega) (ok_gJ ?_ ?_ (by omega) (by omega) (fun h => ?_) (fun h => ?_))
        · omega
        · omega
        · exact go ζ1 (skip a b ζ1 (fun q => by have := q.1; omega) hst)
        · refine ok_gk (by omega) (by omega) (ok_gJ (by omega) (by omega) ?_ ?_ (fun h => ?_) (fun h => ?_))
          · omega
          · omega
          · exact go ζ1 (skip a b ζ1 (fun q => by have := q.2.1; omega) hst)
          · rename_i h0
            have hab : a ≠ b := fun q => by subst q; omega
            refine ok_bind (s_isEdge ζ1 d (R := R) (k := k) (n := n) (tb := fun o x => decide (dt (ρ x) (F o) = 0)) rfl rfl ha hbn (by omega) hk4 (by omega) (by rw [s1]; exact h3) (by rw [s1]; exact h5) (fun o ho => by rw [s2]; exact hti o ho)) (fun q ⟨q1, q2, q3⟩ => ?_)
            rw [hcE ha hbn hab] at q3
            refine ok_gI (by omega) (by omega) (by omega) (by omega) (fun hz => ?_) (fun hz => ?_)
            · rw [q1]
              exact go ζ1 (skip a b ζ1 (fun w => by have := q3.mpr w.2.2; omega) hst)
            · rw [q1]
              exact ok_bind (pair a b ζ1 ha hbn ⟨by omega, by omega, q3.mp (by omega)⟩ hst) (fun ζ2 h2 => go ζ2 h2)
  have outer : ∀ (m : Nat) (y : Int) (a : Nat) (ζ1 : ZS), y = a → a ≤ n → n - a < m → St n (S2 a 0) ζ1 → Ok (g_X1_becomeCut_108 c d (zshl 1 (R : Int)) m y ζ1) Post := by
    intro m
    induction m with
    | zero => intro _ _ _ _ _ h; omega
    | succ m ih =>
      intro y a ζ1 hy ha hm hst
      subst hy
      obtain ⟨sw, s1, s2, s3⟩ := src hst.choose_spec.2.2
      unfold g_X1_becomeCut_108
      rw [s1]
      refine ok_gI (by omega) (by omega) (by omega) (by omega) (fun h => ?_) (fun h => ?_)
      · have e : a = n := by omega
        subst e
        exact ok_some (fin ζ1 hst)
      · exact inner a _ (by omega) (fun ζ2 h2 => ih _ (a + 1) ζ2 (by omega) (by omega) (by omega) h2) FU 0 0 ζ1 rfl (by omega) (by rw [FU_e]; omega) hst
  have first : ∀ (m : Nat) (y : Int) (o : Nat) (ζ1 : ZS), y = o → o ≤ n → n - o < m → St o (S1 o) ζ1 → Ok (g_X1_becomeCut_46 c d e (zshl 1 (R : Int)) m y ζ1) Post := by
    intro m
    induction m with
    | zero => intro _ _ _ _ _ h; omega
    | succ m ih =>
      intro y o ζ1 hy ho hm hst
      subst hy
      obtain ⟨N, hv, hs, hf⟩ := hst
      obtain ⟨sw, s1, s2, s3⟩ := src hf
      unfold g_X1_becomeCut_46
      rw [s1]
      refine ok_gI (by omega) (by omega) (by omega) (by omega) (fun h => ?_) (fun h => ?_)
      · have eo : o = n := by omega
        subst eo
        refine outer FU 0 0 ζ1 rfl (by omega) (by rw [FU_e]; omega) ⟨N, iv_congr hv (fun u => ⟨Or.inl, ?_⟩), hs, hf⟩
        rintro (hu | ⟨a', b', h1, h2, h3, h4, h5⟩)
        · exact hu
        · omega
      · have hon : o < n := by omega
        have hp : psum (fun m => cw ζ1 d o m * ζ1.1 e m) k = dt rr (F o) := by
          rw [sw o, s3]
          have : (fun m => F o m * ζ.1 e m) = (fun m => F o m * rr m) := by funext m; rw [hre m]
          rw [this]
          exact psum_dt hk4 (fun m h1 h2 => Ak_zero (hI.1 o hon).1.1 m h2 h1)
        have go := hdt o hon
        refine ok_beq (s_product ζ1 d e rfl (by omega) hk4 (by rw [s1]; exact h3) hl (fun m hm => by
          rw [s3, hre m]; have := hbd m hm; omega)) ?_
        rw [hp, show Int.toNat (o : Int) = o by omega]
        have hv' : Iv (zJ ζ1 (d + 3) o (dt rr (F o))) c k (R + 1) N (rx R ρ rr) B (S1 o) := iv_fx hv (fun _ => rfl) (fun _ => rfl) (fun x => by rw [zJ_2, if_neg (by omega)])
        have hs' : Sd (o + 1) (zJ ζ1 (d + 3) o (dt rr (F o))) := by
          intro i hi
          rw [zJ_2]
          by_cases q : i = o
          · rw [if_pos ⟨rfl, q⟩, q]
          · rw [if_neg (by omega)]; exact hs i (by omega)
        have hf' : Fx (Wc c d) ζ (zJ ζ1 (d + 3) o (dt rr (F o))) := fx_J hf (by unfold Wc; omega)
        generalize zJ ζ1 (d + 3) o (dt rr (F o)) = ζ2 at hv' hs' hf'
        obtain ⟨sw', s1', s2', s3'⟩ := src hf'
        have hN := room hv'
        -- a corner that is kept
        have keep : ∀ bit : Int, 0 ≤ dt rr (F o) → zor (((msk (fun b => decide (dt (ρ b) (F o) = 0)) R : Nat) : Int)) bit = ((msk (fun x => decide (dt (rx R ρ rr x) (F o) = 0)) (R + 1) : Nat) : Int) → Ok (g_X1_take c d (o : Int) bit ζ2) (fun ζ3 => St (o + 1) (S1 (o + 1)) ζ3) := by
          intro bit h0 hbit
          refine ok_mono (s_take ζ2 c d rfl (by omega) hv'.2.2.1 hN hd) (fun ζ3 ⟨q5, qt, qw, qf⟩ => ?_)
          have st := iv_step (u := F o) (w := F o) hv' q5 (fun m hm => by rw [qw m hm, sw' o]) (by rw [qt, s2', hti o hon]; exact hbit) qf (ex_keep (hI.1 o hon).1 h0) (hI.1 o hon).2 (par_self _) (hF0 o hon).2 (fun u' ⟨i, hi, _, eu⟩ hq => by
            rw [eu] at hq
            have := hI.2.1 i o (by omega) hon hq
            omega)
          refine ⟨N + 1, iv_congr st (fun u => ⟨?_, ?_⟩), fun i hi => ?_, fx_trans hf' (fx_mono qf (wt_c N · · hN))⟩
          · rintro (⟨i, hi, g1, g2⟩ | hu)
            · exact ⟨i, by omega, g1, g2⟩
            · exact ⟨o, by omega, h0, hu⟩
          · rintro ⟨i, hi, g1, g2⟩
            by_cases q : i = o
            · rw [q] at g2; exact Or.inr g2
            · exact Or.inl ⟨i, by omega, g1, g2⟩
          · rw [(qf.1 (d + 3) i (by unfold Wt; omega)).2]; exact hs' i hi
        have nxt : ∀ ζ3, St (o + 1) (S1 (o + 1)) ζ3 → Ok (g_X1_becomeCut_99 (g_X1_becomeCut_46 c d e (zshl 1 (R : Int)) m) c d e (zshl 1 (R : Int)) (o : Int) ζ3) Post := fun ζ3 h => ih _ (o + 1) ζ3 (by omega) (by omega) (by omega) h
        refine ok_gk (by omega) (by omega) (ok_gJ ?_ ?_ (by omega) (by omega) (fun h => ?_) (fun h => ?_))
        · omega
        · omega
        · refine nxt ζ2 ⟨N, iv_congr hv' (fun u => ⟨?_, ?_⟩), hs', hf'⟩
          · rintro ⟨i, hi, g1, g2⟩; exact ⟨i, by omega, g1, g2⟩
          · rintro ⟨i, hi, g1, g2⟩
            by_cases q : i = o
            · rw [q] at g1; omega
            · exact ⟨i, by omega, g1, g2⟩
        · have h : ¬ dt rr (F o) < 0 := h
          refine ok_gJ ?_ ?_ (by omega) (by omega) (fun hz => ?_) (fun hz => ?_)
          · omega
          · omega
          · have hz : dt rr (F o) = 0 := hz
            refine ok_bind (keep _ (by omega) ?_) nxt
            rw [z_top _ (by omega)]
            congr 1
            apply msk_congr
            intro x hx
            by_cases q : x = R
            · have : dt rr (F o) = 0 := hz
              simp [q, rx, this]
            · simp [q, rx]
          · have hz : ¬ dt rr (F o) = 0 := hz
            refine ok_bind (keep _ (by omega) ?_) nxt
            rw [z_top0 _ (by omega)]
            congr 1
            apply msk_congr
            intro x hx
            by_cases q : x = R
            · have : ¬ dt rr (F o) = 0 := hz
              simp [q, rx, this]
            · simp [q, rx]
  unfold g_X1_becomeCut
  refine ok_gI (by omega) (by omega) (by omega) (by omega) (fun h => absurd h (by omega)) (fun _ => ?_)
  rw [h4]
  unfold g_X1_becomeCut_19
  refine first FU 0 0 _ rfl (by omega) (by rw [FU_e]; omega) ⟨0, ⟨?_, ?_, ?_, fun l hl => by omega, fun l l' hl => by omega, fun l hl => by omega, fun u ⟨i, hi, _⟩ => by omega⟩, fun i hi => by omega, fx_I (fx_I (fx_I (fx_refl _ _) (by unfold Wc; omega)) (by unfold Wc; omega)) (by unfold Wc; omega)⟩
  · simp [zI_1, h3]
  · simp [zI_1, h4]
  · simp [zI_1]
