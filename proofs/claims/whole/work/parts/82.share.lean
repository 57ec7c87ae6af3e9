/-! share: the weights of a sum -/
def smn (f : Nat → Nat) : Nat → Nat
  | 0 => 0
  | n + 1 => smn f n + f n
theorem smn_congr {f g : Nat → Nat} : ∀ {n : Nat}, (∀ i, i < n → f i = g i) → smn f n = smn g n
  | 0, _ => rfl
  | n + 1, h => by simp only [smn]; rw [smn_congr (fun i hi => h i (by omega)), h n (by omega)]
theorem smn_add (f g : Nat → Nat) : ∀ n, smn (fun i => f i + g i) n = smn f n + smn g n
  | 0 => rfl
  | n + 1 => by simp only [smn]; rw [smn_add f g n]; omega
theorem smn_0 : ∀ n, smn (fun _ => 0) n = 0
  | 0 => rfl
  | n + 1 => by simp only [smn]; rw [smn_0 n]
theorem smn_swap (F : Nat → Nat → Nat) (m : Nat) : ∀ n, smn (fun a => smn (fun b => F a b) m) n = smn (fun b => smn (fun a => F a b) n) m
  | 0 => by simp only [smn]; rw [smn_0]
  | n + 1 => by
    simp only [smn]
    rw [smn_swap F m n, ← smn_add]
theorem smn_cut (f : Nat → Nat) (k : Nat) : ∀ n, k ≤ n → smn f k = smn (fun i => if i < k then f i else 0) n
  | 0, h => by rw [show k = 0 by omega]; rfl
  | n + 1, h => by
    simp only [smn]
    by_cases c : k = n + 1
    · subst c
      rw [if_pos (by omega)]
      simp only [smn]
      congr 1
      exact smn_congr (fun i hi => by rw [if_pos (by omega)])
    · rw [if_neg (by omega), smn_cut f k n (by omega)]; rfl
/-- a triangle may be summed by either side -/
theorem smn_tri (F : Nat → Nat → Nat) (n : Nat) : smn (fun a => smn (fun b => F a b) (n - a)) n = smn (fun b => smn (fun a => F a b) (n - b)) n := by
  have e1 : smn (fun a => smn (fun b => F a b) (n - a)) n = smn (fun a => smn (fun b => if a + b < n then F a b else 0) n) n := smn_congr (fun a ha => by
    rw [smn_cut _ (n - a) n (by omega)]
    exact smn_congr (fun b hb => by
      by_cases c : b < n - a
      · rw [if_pos c, if_pos (by omega)]
      · rw [if_neg c, if_neg (by omega)]))
  have e2 : smn (fun b => smn (fun a => F a b) (n - b)) n = smn (fun b => smn (fun a => if a + b < n then F a b else 0) n) n := smn_congr (fun b hb => by
    rw [smn_cut _ (n - b) n (by omega)]
    exact smn_congr (fun a ha => by
      by_cases c : a < n - b
      · rw [if_pos c, if_pos (by omega)]
      · rw [if_neg c, if_neg (by omega)]))
  rw [e1, e2, smn_swap]
/-- weights that fit, and by which a thing (if one is asked) is best -/
def GB (A : Nat → Nat → Int) (t : Int) (w : V4) : Prop := (∀ s : Nat, (s : Int) < A 9 0 → hrd A s = true → 0 ≤ dt (sr A s) w) ∧ (t ≠ -1 → ∀ u, u < 8 → inb A u = true → 0 ≤ dt (leadv A t.toNat u) w)
noncomputable def cG (A : Nat → Nat → Int) (t : Int) (w : V4) : Nat := if cdec (GB A t w) = true then 1 else 0
theorem cG_c4 {A : Nat → Nat → Int} {t : Int} {v w : V4} (h : ∀ m, m < 4 → v m = w m) : cG A t v = cG A t w := by
  have e : GB A t v ↔ GB A t w := by
    unfold GB
    constructor
    · rintro ⟨a, b⟩; exact ⟨fun s h1 h2 => by rw [← dt_c4 h]; exact a s h1 h2, fun h0 u h1 h2 => by rw [← dt_c4 h]; exact b h0 u h1 h2⟩
    · rintro ⟨a, b⟩; exact ⟨fun s h1 h2 => by rw [dt_c4 h]; exact a s h1 h2, fun h0 u h1 h2 => by rw [dt_c4 h]; exact b h0 u h1 h2⟩
  unfold cG
  rw [show GB A t v = GB A t w from propext e]
theorem cG_1 {A : Nat → Nat → Int} {t : Int} {w : V4} (h : GB A t w) : cG A t w = 1 := by unfold cG; rw [cdec_iff.mpr h, if_pos rfl]
theorem cG_0 {A : Nat → Nat → Int} {t : Int} {w : V4} (h : ¬ GB A t w) : cG A t w = 0 := by unfold cG; rw [cdec_f.mpr h, if_neg (by decide)]
def lfv (m : Nat) (pre : Nat → Int) (l : Nat) : V4 := fun i => if i < m then pre i else if i = m then (l : Int) else 0
/-- as the reference counts -/
noncomputable def ctr (A : Nat → Nat → Int) (t : Int) : Nat → Nat → (Nat → Int) → Nat → Nat
  | 0, m, pre, l => cG A t (lfv m pre l)
  | j + 1, m, pre, l => smn (fun w => ctr A t j (m + 1) (fun i => if i = m then (w : Int) else pre i) (l - w)) (l + 1)
theorem s_isBestBy {A : Nat → Nat → Int} {ζ : ZS} (h : Rf A ζ) (hw : Wa A) {t : Nat} {z : Int} (hz : z = t) (ht : t < 8) (h0 : ∀ m : Nat, m < 4 → A 0 20 ≤ (m : Int) → gvv ζ m = 0) (hb : ∀ m, m < 4 → 0 ≤ gvv ζ m ∧ gvv ζ m ≤ 6000000) : Ok (g_X12_isBestBy z ζ) (fun r => r.2 = ζ ∧ ∃ p : Bool, r.1 = bi p ∧ (p = true ↔ ∀ u, u < 8 → inb A u = true → 0 ≤ dt (leadv A t u) (gvv ζ))) := by
  have key : ∀ (n : Nat) (p : Bool) (w : Int) (u : Nat), w = u → u ≤ 8 → 8 - u < n → (p = true ↔ ∀ u', u' < u → inb A u' = true → 0 ≤ dt (leadv A t u') (gvv ζ)) → Ok (g_X12_isBestBy_4 z n (bi p) w ζ) (fun r => r.2 = ζ ∧ ∃ p : Bool, r.1 = bi p ∧ (p = true ↔ ∀ u, u < 8 → inb A u = true → 0 ≤ dt (leadv A t u) (gvv ζ))) := by
    intro n
    induction n with
    | zero => intro _ _ _ _ _ h; omega
    | succ n ih =>
      intro p w u hwu hu hn hp
      subst hwu
      unfold g_X12_isBestBy_4 g_X12_isBestBy_40 g_X12_isBestBy_36 g_X12_isBestBy_41
      refine ok_gI (by omega) (by omega) (by omega) (by omega) (fun g => ok_gz (bi_r p) (ok_some ⟨rfl, p, rfl, by rw [hp, show u = 8 by omega]⟩)) (fun g => ?_)
      have hu8 : u < 8 := by omega
      have next : ∀ p' : Bool, (p' = true ↔ (p = true ∧ (inb A u = true → 0 ≤ dt (leadv A t u) (gvv ζ)))) → Ok (g_X12_isBestBy_4 z n (bi p') ((u : Int) + 1) ζ) (fun r => r.2 = ζ ∧ ∃ p : Bool, r.1 = bi p ∧ (p = true ↔ ∀ u, u < 8 → inb A u = true → 0 ≤ dt (leadv A t u) (gvv ζ))) := fun p' hp' => ih p' _ (u + 1) (by omega) (by omega) (by omega) (by
        rw [hp', hp]
        constructor
        · rintro ⟨a, b⟩ u' h1 h2
          by_cases c : u' = u
          · subst c; exact b h2
          · exact a u' (by omega) h2
        · intro a
          exact ⟨fun u' h1 h2 => a u' (by omega) h2, fun h2 => a u (by omega) h2⟩)
      refine ok_bi (fun e => next false ⟨fun q => (by cases q), fun q => (by rw [e] at q; cases q.1)⟩) (fun e => ok_beq (s_isInN h hw rfl hu8) (ok_bi (fun e2 => next true ⟨fun _ => ⟨e, fun q => by rw [e2] at q; cases q⟩, fun _ => rfl⟩) (fun e2 => ?_)))
      have b1 := vv_nn hw ht hb
      have b2 := vv_nn hw hu8 hb
      refine ok_beq (s_goodBy h hw hz ht h0) (ok_beq (s_goodBy h hw rfl hu8 h0) ?_)
      dsimp only
      refine ok_gJ (by omega) (by omega) (by omega) (by omega) (fun g1 => next false ⟨fun q => (by cases q), fun q => ?_⟩) (fun g1 => next true ⟨fun _ => ⟨e, fun _ => ?_⟩, fun _ => rfl⟩)
      · have := q.2 e2; rw [dt_lead] at this; omega
      · rw [dt_lead]; omega
  unfold g_X12_isBestBy
  exact key FU true 0 0 rfl (by omega) (by rw [FU_e]; omega) ⟨fun _ u' h => by omega, fun _ => rfl⟩
theorem smn_le {f : Nat → Nat} {B : Nat} : ∀ {n : Nat}, (∀ i, i < n → f i ≤ B) → smn f n ≤ n * B
  | 0, _ => by simp [smn]
  | n + 1, h => by
    have := smn_le (f := f) (B := B) (n := n) (fun i hi => h i (by omega))
    have := h n (by omega)
    simp only [smn]
    rw [Nat.succ_mul]; omega
theorem ctr_le {A : Nat → Nat → Int} {t : Int} : ∀ (j m : Nat) (pre : Nat → Int) (l : Nat), l ≤ 20 → ctr A t j m pre l ≤ 21 ^ j
  | 0, m, pre, l, _ => by unfold ctr cG; split <;> simp
  | j + 1, m, pre, l, hl => by
    unfold ctr
    have := smn_le (f := fun w => ctr A t j (m + 1) (fun i => if i = m then (w : Int) else pre i) (l - w)) (B := 21 ^ j) (n := l + 1) (fun i hi => ctr_le j (m + 1) _ (l - i) (by omega))
    rw [Nat.pow_succ, Nat.mul_comm]
    exact Nat.le_trans this (Nat.mul_le_mul_right _ (by omega))
theorem s_shareFrom {A : Nat → Nat → Int} (hW : Wall A) {k R : Nat} {ρ : Nat → V4} {t : Int} (hk : A 0 20 = k) (ht : t = -1 ∨ (0 ≤ t ∧ t ≤ 7)) (hr : Rk k R ρ) (hR : R ≤ 16) (hX : ∀ w, InC (Ak k R ρ) w ↔ Sc A (hrd A) w) : ∀ (d j : Nat), j < d → ∀ (m l : Nat) (pre : Nat → Int) (z y : Int) (ζ : ZS), z = m → y = l → m + j + 1 = k → l ≤ 20 → Rf A ζ → Rw ζ k R ρ → (∀ i, i < m → gvv ζ i = pre i ∧ 0 ≤ pre i ∧ pre i ≤ 20) → (∀ i, k ≤ i → i < 4 → gvv ζ i = 0) → Ok (g_X12_shareFrom d t z y ζ) (fun r => r.1 = ((ctr A t j m pre l : Nat) : Int) ∧ Fx W24 ζ r.2 ∧ (∀ i, i < m → gvv r.2 i = pre i) ∧ ∀ i, k ≤ i → i < 4 → gvv r.2 i = 0) := by
  have k4 := hr.2.1
  intro d
  induction d with
  | zero => intro j h; omega
  | succ d ihd =>
    intro j hj m l pre z y ζ hz hy hmj hl h hrw hpre hzz
    subst hz; subst hy
    have e20 : ζ.1 0 20 = k := by rw [rf_k h, hk]
    unfold g_X12_shareFrom g_X12_shareFrom_0
    rw [e20]
    cases j with
    | zero =>
      refine ok_gI (by omega) (by omega) (by omega) (by omega) (fun _ => ok_gw (by omega) (by omega) (ok_gk (by omega) (by omega) ?_)) (fun g => by omega)
      rw [show Int.toNat (m : Int) = m by omega]
      have fz : Fx W24 ζ (zJ ζ 24 m (l : Int)) := fx_J (fx_refl _ _) rfl
      have gv : ∀ i, i < 4 → gvv (zJ ζ 24 m (l : Int)) i = lfv m pre l i := fun i hi => by
        unfold gvv lfv
        rw [zJ_2]
        by_cases c1 : i < m
        · rw [if_neg (by omega), if_pos c1]; exact (hpre i c1).1
        · rw [if_neg c1]
          by_cases c2 : i = m
          · rw [if_pos ⟨rfl, c2⟩, if_pos c2]
          · rw [if_neg (by omega), if_neg c2]; exact hzz i (by omega) hi
      have lb : ∀ i, i < 4 → 0 ≤ lfv m pre l i ∧ lfv m pre l i ≤ 20 := fun i hi => by
        unfold lfv
        split
        · exact (hpre i (by assumption)).2
        · split <;> omega
      have lz : ∀ i, k ≤ i → i < 4 → lfv m pre l i = 0 := fun i h1 h2 => by unfold lfv; rw [if_neg (by omega), if_neg (by omega)]
      have h1 := rf_24 h fz
      have rw1 : Rw (zJ ζ 24 m (l : Int)) k R ρ := ⟨hrw.1, hrw.2.1, fun b hb x hx => by unfold rr; rw [zJ_2, if_neg (by omega)]; exact hrw.2.2 b hb x hx⟩
      have keep1 : ∀ i, i < m → gvv (zJ ζ 24 m (l : Int)) i = pre i := fun i hi => by rw [gv i (by omega)]; unfold lfv; rw [if_pos hi]
      have keep2 : ∀ i, k ≤ i → i < 4 → gvv (zJ ζ 24 m (l : Int)) i = 0 := fun i a b => by rw [gv i b]; exact lz i a b
      generalize zJ ζ 24 m (l : Int) = ζ1 at fz gv h1 rw1 keep1 keep2
      refine ok_bind (s_doesFit rw1 hr (by omega) keep2 (fun i hi => by rw [gv i hi]; have := lb i hi; omega)) (fun r ⟨r1, p, r2, r3⟩ => ?_)
      have es : InC (Ak k R ρ) (gvv ζ1) ↔ ∀ s : Nat, (s : Int) < A 9 0 → hrd A s = true → 0 ≤ dt (sr A s) (lfv m pre l) := by
        rw [hX, sc_c4 (w := lfv m pre l) gv]
        exact ⟨fun q => q.2.2, fun q => ⟨fun i hi => (lb i hi).1, fun i hi hki => lz i (by omega) hi, q⟩⟩
      unfold g_X12_shareFrom_41 g_X12_shareFrom_37 g_X12_shareFrom_42 ctr
      rw [r2, r1]
      refine ok_bi (fun e => ok_some ⟨?_, fz, keep1, keep2⟩) (fun e => ?_)
      · rw [cG_0 (fun q => by rw [r3.mpr (es.mpr q.1)] at e; cases e)]; rfl
      · have fit := es.mp (r3.mp e)
        refine ok_gI (by omega) (by omega) (by omega) (by omega) (fun g => ok_some ⟨?_, fz, keep1, keep2⟩) (fun g => ?_)
        · rw [cG_1 ⟨fit, fun c => absurd (by omega) c⟩]; rfl
        · refine ok_bind (s_isBestBy h1 hW.1 (t := t.toNat) (by omega) (by omega) (fun i hi hki => keep2 i (by omega) hi) (fun i hi => by rw [gv i hi]; have := lb i hi; omega)) (fun s ⟨s1, p2, s2, s3⟩ => ?_)
          have e3 : (∀ u, u < 8 → inb A u = true → 0 ≤ dt (leadv A t.toNat u) (gvv ζ1)) ↔ ∀ u, u < 8 → inb A u = true → 0 ≤ dt (leadv A t.toNat u) (lfv m pre l) := by
            constructor
            · intro q u h1 h2; rw [← dt_c4 gv]; exact q u h1 h2
            · intro q u h1 h2; rw [dt_c4 gv]; exact q u h1 h2
          rw [s2, s1]
          refine ok_bi (fun e4 => ok_some ⟨?_, fz, keep1, keep2⟩) (fun e4 => ok_some ⟨?_, fz, keep1, keep2⟩)
          · rw [cG_0 (fun q => by rw [s3.mpr (e3.mpr (q.2 (by omega)))] at e4; cases e4)]; rfl
          · rw [cG_1 ⟨fit, fun _ => e3.mp (s3.mp e4)⟩]; rfl
    | succ j =>
      refine ok_gI (by omega) (by omega) (by omega) (by omega) (fun g => by omega) (fun _ => ?_)
      unfold ctr
      have key : ∀ (n : Nat) (acc w : Int) (x : Nat) (ζ1 : ZS), w = x → x ≤ l + 1 → l + 1 - x < n → acc = ((smn (fun w => ctr A t j (m + 1) (fun i => if i = m then (w : Int) else pre i) (l - w)) x : Nat) : Int) → Fx W24 ζ ζ1 → (∀ i, i < m → gvv ζ1 i = pre i) → (∀ i, k ≤ i → i < 4 → gvv ζ1 i = 0) → Ok (g_X12_shareFrom_49 (g_X12_shareFrom d) t (m : Int) (l : Int) n acc w ζ1) (fun r => r.1 = ((smn (fun w => ctr A t j (m + 1) (fun i => if i = m then (w : Int) else pre i) (l - w)) (l + 1) : Nat) : Int) ∧ Fx W24 ζ r.2 ∧ (∀ i, i < m → gvv r.2 i = pre i) ∧ ∀ i, k ≤ i → i < 4 → gvv r.2 i = 0) := by
        intro n
        induction n with
        | zero => intro _ _ _ _ _ _ h; omega
        | succ n ih =>
          intro acc w x ζ1 hwx hx hn ha hf k1 k2
          subst hwx
          unfold g_X12_shareFrom_49
          refine ok_gI (by omega) (by omega) (by omega) (by omega) (fun g => ok_some ⟨?_, hf, k1, k2⟩) (fun g => ?_)
          · rw [ha, show x = l + 1 by omega]
          · have hxl : x ≤ l := by omega
            rw [show Int.toNat (m : Int) = m by omega]
            have fz : Fx W24 ζ (zJ ζ1 24 m (x : Int)) := fx_J hf rfl
            have h1 := rf_24 h fz
            have rw1 : Rw (zJ ζ1 24 m (x : Int)) k R ρ := ⟨by rw [(fz.1 0 20 (by unfold W24; omega)).1]; exact hrw.1, by rw [(fz.1 0 26 (by unfold W24; omega)).1]; exact hrw.2.1, fun b hb y hy => by unfold rr; rw [(fz.1 19 _ (by unfold W24; omega)).2]; exact hrw.2.2 b hb y hy⟩
            have g1 : ∀ i, i < m + 1 → gvv (zJ ζ1 24 m (x : Int)) i = (if i = m then (x : Int) else pre i) ∧ 0 ≤ (if i = m then (x : Int) else pre i) ∧ (if i = m then (x : Int) else pre i) ≤ 20 := fun i hi => by
              by_cases c : i = m
              · rw [if_pos c]
                refine ⟨?_, by omega, by omega⟩
                unfold gvv; rw [zJ_2, if_pos ⟨rfl, c⟩]
              · rw [if_neg c]
                refine ⟨?_, (hpre i (by omega)).2⟩
                show (zJ ζ1 24 m (x : Int)).2.1 24 i = pre i
                rw [zJ_2, if_neg (by omega)]; exact k1 i (by omega)
            have g2 : ∀ i, k ≤ i → i < 4 → gvv (zJ ζ1 24 m (x : Int)) i = 0 := fun i a b => by
              show (zJ ζ1 24 m (x : Int)).2.1 24 i = 0
              rw [zJ_2, if_neg (by omega)]; exact k2 i a b
            refine ok_gw (by omega) (by omega) (ok_gk (by omega) (by omega) (ok_bind (ihd j (by omega) (m + 1) (l - x) (fun i => if i = m then (x : Int) else pre i) _ _ _ (by omega) (by omega) (by omega) (by omega) h1 rw1 g1 g2) (fun q ⟨q1, q2, q3, q4⟩ => ?_)))
            refine ih _ _ (x + 1) q.2 (by omega) (by omega) (by omega) ?_ (fx_trans fz q2) (fun i hi => by rw [q3 i (by omega), if_neg (by omega)]) q4
            rw [ha, q1]
            simp only [smn]
            omega
      exact key FU 0 0 0 ζ rfl (by omega) (by rw [FU_e]; omega) rfl (fx_refl _ _) (fun i hi => (hpre i hi).1) hzz
def QSh (A : Nat → Nat → Int) (z y v : Int) : Prop := (((z = -1 ∨ inz A z = true) ∧ (1 ≤ y ∧ y ≤ 20)) ∧ v = ((ctr A z ((A 0 20).toNat - 1) 0 (fun _ => 0) y.toNat : Nat) : Int)) ∨ (¬ ((z = -1 ∨ inz A z = true) ∧ (1 ≤ y ∧ y ≤ 20)) ∧ v = -1)
theorem qsh_fun {A : Nat → Nat → Int} {z y v w : Int} (h : QSh A z y v) (g : QSh A z y w) : v = w := by
  rcases h with ⟨p, q⟩ | ⟨p, q⟩ <;> rcases g with ⟨p', q'⟩ | ⟨p', q'⟩
  · exact q.trans q'.symm
  · exact absurd p p'
  · exact absurd p' p
  · omega
theorem a_share {A : Nat → Nat → Int} {ζ : ZS} (h : Rf A ζ) (hW : Wall A) {z y : Int} (hz : r32 z) (hy : r32 y) : Ok (g_X12_share z y ζ) (RP A ζ (QSh A z y)) := by
  have f0 : Fx (fun x _ => x < 25 ∧ x ≠ 5) ζ (zI ζ 0 0 0) := fx_I (fx_refl _ _) (by decide)
  have h0 := rf_0 h 0
  have hk := hW.1.1
  obtain ⟨k, hkk⟩ : ∃ k : Nat, A 0 20 = k := ⟨(A 0 20).toNat, by omega⟩
  have go : (z = -1 ∨ inz A z = true) → Ok (g_X12_share_18 z y (zI ζ 0 0 0)) (RP A ζ (QSh A z y)) := by
    intro hzz
    have ht : z = -1 ∨ (0 ≤ z ∧ z ≤ 7) := by
      rcases hzz with q | q
      · exact Or.inl q
      · have := inz_r q; exact Or.inr ⟨this.1, this.2.1⟩
    unfold g_X12_share_18 g_X12_share_28
    refine ok_beq (s_within _ hy (by omega) (by omega)) (ok_bi (fun e => ok_some (rp_same h (Or.inr ⟨fun q => bd_f e q.2, rfl⟩))) (fun e => ?_))
    have ey := bd_t e
    refine ok_beq (s_heard h0 hW.2.1 hW.2.2.1) (ok_bind (s_laysRows h0 hW.1 hW.2.1 hkk rfl) (fun ζ1 ⟨R, ρ, g1, g2, g3, g4, f1⟩ => ?_))
    have h1 := rf_Wr h0 f1
    have kk := g2.2.1
    refine ok_bind (s_givesWeights h1 hk (a := 0) (b := 0) (c := 0) (d := 0) (by omega) (by omega) (by omega) (by omega)) (fun ζ2 ⟨w1, f2⟩ => ?_)
    have h2 := rf_24 h1 f2
    have rw2 : Rw ζ2 k R ρ := ⟨by rw [(f2.1 0 20 (by unfold W24; omega)).1]; exact g1.1, by rw [(f2.1 0 26 (by unfold W24; omega)).1]; exact g1.2.1, fun b hb m hm => by unfold rr; rw [(f2.1 19 _ (by unfold W24; omega)).2]; exact g1.2.2 b hb m hm⟩
    have zz : ∀ i, k ≤ i → i < 4 → gvv ζ2 i = 0 := fun i a b => by unfold gvv; rw [w1 i b]; exact gvn_z i (by omega)
    refine ok_bind (s_shareFrom hW hkk ht g2 (by omega) g4 DEP (k - 1) (by rw [DEP_e]; omega) 0 y.toNat (fun _ => 0) _ _ ζ2 rfl (by omega) (by omega) (by omega) h2 rw2 (fun i hi => by omega) zz) (fun q ⟨q1, q2, q3, q4⟩ => ok_some ⟨Or.inl ⟨⟨hzz, ey⟩, ?_⟩, rf_24 h2 q2, fx_trans f0 (fx_trans (fx_mono f1 (fun x y q => by unfold Wr at q; show x < 25 ∧ x ≠ 5; omega)) (fx_mono (fx_trans f2 q2) (fun x y q => by unfold W24 at q; show x < 25 ∧ x ≠ 5; omega)))⟩)
    rw [q1, hkk, show Int.toNat (k : Int) = k by omega]
  unfold g_X12_share g_X12_share_28
  refine ok_gI hz.1 hz.2 (by omega) (by omega) (fun g => go (Or.inl g)) (fun g => ok_beq (s_isThingIn h0 hW.1 hz) (ok_bi (fun e => ok_some (rp_same h (Or.inr ⟨fun q => ?_, rfl⟩))) (fun e => go (Or.inr e))))
  rcases q.1 with c | c
  · exact g c
  · rw [e] at c; cases c
