/-! the reference cuts all tokens -/
def Cut (s : Nat → Int) (N : Nat) (ζ ζ' : ZS) : Prop := ∃ T, T ≤ N ∧ (∀ i, i ≤ T → Ent s N ζ' i) ∧ (∀ i, i < T → tK s N (pos s N i) ≠ 0) ∧ tK s N (pos s N T) = 0 ∧ Fx Wcu ζ ζ' ∧ ζ'.1 0 7 = 0 ∧ ζ'.1 0 8 = 0 ∧ ζ'.1 0 2 = 0
theorem s_cut {s : Nat → Int} {N : Nat} {ζ : ZS} (hN : N ≤ 1000) (hs : ∀ i, i < N → 0 ≤ s i ∧ s i ≤ 126) (h1 : ∀ i, i < N → ζ.1 1 i = s i) : ∀ (n : Nat) (z1 z2 : Int) (t x : Nat) (ζ1 : ZS), z1 = t → z2 = x → x ≤ N → N - x < n → t ≤ x → pos s N t ≤ x → skp s N x = skp s N (pos s N t) → Lyd s N ζ ζ1 t → Ok (g_X12_cutAll_17 n z1 z2 ζ1) (Cut s N ζ) := by
  intro n
  induction n with
  | zero => intro _ _ _ _ _ _ _ _ h; omega
  | succ n ih =>
    intro z1 z2 t x ζ1 hz1 hz2 hx hn ht hp hk hL
    subst hz1; subst hz2
    have hL' := hL
    obtain ⟨hf, h3, h2, he⟩ := hL
    have pb := pos_b (s := s) (N := N) t
    have e1 : ∀ i, i < N → ζ1.1 1 i = s i := fun i hi => by rw [(hf.1 1 i (by unfold Wcu; omega)).1]; exact h1 i hi
    unfold g_X12_cutAll_17 g_X12_cutAll_44
    rw [h3]
    have et : Int.toNat (t : Int) = t := by omega
    have ex : Int.toNat (x : Int) = x := by omega
    rw [et, ex]
    refine ok_gI (by omega) (by omega) (by omega) (by omega) (fun g => ?_) (fun g => ?_)
    · have xe : x = N := by omega
      subst xe
      have k : skp s x x = x := by rw [skp_e, if_neg (by omega)]
      rw [k] at hk
      have k0 : tK s x (pos s x t) = 0 := (tK_0 pb).mpr hk.symm
      refine ok_gk (by omega) (by omega) (ok_gk (by omega) (by omega) (ok_some ⟨t, ht, fun i hi => ?_, fun i hi => (he i hi).2, k0, fx_I (fx_I (fx_I (fx_I hf (by unfold Wcu; omega)) (by unfold Wcu; omega)) (by unfold Wcu; omega)) (by unfold Wcu; omega), ?_, ?_, ?_⟩))
      · have e03 : (zI ζ1 2 t 0).1 0 3 = x := by rw [zI_1, if_neg (by omega)]; exact h3
        rw [e03]
        by_cases c : i = t
        · subst c
          unfold Ent
          rw [k0, ← hk]
          refine ⟨?_, ?_, fun _ g => absurd rfl g⟩
          · rw [zI_1, if_neg (by omega), zI_1, if_neg (by omega), zI_1, if_neg (by omega), zI_1, if_pos ⟨rfl, rfl⟩]
          · rw [zI_1, if_neg (by omega), zI_1, if_neg (by omega), zI_1, if_pos ⟨rfl, rfl⟩]
        · have q := (he i (by omega)).1
          unfold Ent at q ⊢
          rw [zI_1, if_neg (by omega), zI_1, if_neg (by omega), zI_1, if_neg (by omega), zI_1, if_neg (by omega), zI_1, if_neg (by omega), zI_1, if_neg (by omega), zI_1, if_neg (by omega), zI_1, if_neg (by omega)]
          exact q
      · rw [zI_1, if_neg (by omega), zI_1, if_pos ⟨rfl, rfl⟩]
      · rw [zI_1, if_pos ⟨rfl, rfl⟩]
      · rw [zI_1, if_neg (by omega), zI_1, if_neg (by omega), zI_1, if_neg (by omega), zI_1, if_neg (by omega)]; exact h2
    · have xl : x < N := by omega
      have sb := hs x xl
      rw [e1 x xl]
      have bl : blc (s x) → Ok (g_X12_cutAll_17 n (t : Int) ((x : Int) + 1) ζ1) (Cut s N ζ) := fun b => by
        refine ih _ _ t (x + 1) ζ1 rfl (by omega) (by omega) (by omega) (by omega) (by omega) ?_ hL'
        rw [← hk, skp_e x, if_pos ⟨xl, b⟩]
      refine ok_gk (by omega) (by omega) (ok_gI (by omega) (by omega) (by omega) (by omega) (fun b => bl (Or.inl b)) (fun b1 => ok_gI (by omega) (by omega) (by omega) (by omega) (fun b => bl (Or.inr b)) (fun b2 => ?_)))
      have sx : skp s N x = x := by rw [skp_e, if_neg (fun q => by have := q.2; omega)]
      rw [sx] at hk
      have eE : tE s N (pos s N t) = if knd (s x) = 1 ∨ knd (s x) = 2 then rnp s N (knd (s x)) x else x + 1 := by unfold tE; rw [← hk, if_neg (by omega)]
      have eK : tK s N (pos s N t) = if knd (s x) = 1 ∧ 8 < tE s N (pos s N t) - x then 4 else if knd (s x) = 2 ∧ 3 < tE s N (pos s N t) - x then 4 else knd (s x) := by unfold tK; rw [← hk, if_neg (by omega)]
      have bE := tE_b (s := s) pb
      have eV : tV s N (pos s N t) = if tK s N (pos s N t) = 1 then fld 37 96 s x (tE s N (pos s N t) - x) else if tK s N (pos s N t) = 2 then fld 10 48 s x (tE s N (pos s N t) - x) else s x := by unfold tV; rw [← hk]
      have nk : tK s N (pos s N t) ≠ 0 := fun q => by have := (tK_0 pb).mp q; omega
      rw [← hk] at bE
      have nxt : ∀ (y : Nat) (z : Int) (a v : Int), z = y → tE s N (pos s N t) = y → a = tK s N (pos s N t) → (tK s N (pos s N t) ≠ 4 → v = tV s N (pos s N t)) → Ok (g_X12_cutAll_17 n ((t : Int) + 1) z (zJ (zI (zI ζ1 3 t x) 2 t a) 4 t v)) (Cut s N ζ) := fun y z a v hz hy ha hv => by
        refine ih _ _ (t + 1) y _ (by omega) hz (by omega) (by omega) (by omega) ?_ ?_ (lyd_put hL' ha (by rw [← hk]) hv nk)
        · show tE s N (pos s N t) ≤ y; omega
        · show _ = skp s N (tE s N (pos s N t)); rw [hy]
      refine ok_gk (by omega) (by omega) (ok_beq (s_isL _ ⟨by omega, by omega⟩) (ok_bi (fun e => ?_) (fun e => ?_)))
      · refine ok_beq (s_isD _ ⟨by omega, by omega⟩) (ok_bi (fun e' => ?_) (fun e' => ?_))
        · have n1 : ¬ knd (s x) = 1 := fun q => by have := knd_1.mp q; rw [decide_eq_true this.1, decide_eq_true this.2] at e; cases e
          have n2 : ¬ knd (s x) = 2 := fun q => by have := knd_2.mp q; rw [decide_eq_true this.1, decide_eq_true this.2] at e'; cases e'
          rw [if_neg (by omega)] at eE
          rw [if_neg (fun q => n1 q.1), if_neg (fun q => n2 q.1)] at eK
          have eV' : tV s N (pos s N t) = s x := by rw [eV, if_neg (by omega), if_neg (by omega)]
          refine ok_gw (by omega) (by omega) (ok_beq (s_isS _ ⟨by omega, by omega⟩) (ok_bi (fun e2 => ?_) (fun e2 => ?_)))
          · unfold g_X12_cutAll_261 g_X12_cutAll_265
            rw [show ln 2 = 1002 from rfl, et]
            refine ok_gk (by omega) (by omega) (ok_gk (by omega) (by omega) (nxt (x + 1) _ 4 (s x) (by omega) eE ?_ (fun _ => eV'.symm)))
            rw [eK]
            unfold knd at n1 n2 ⊢
            have : s x ≠ 59 := of_decide_eq_false e2
            revert n1 n2
            repeat' split
            all_goals (intro n1 n2; omega)
          · unfold g_X12_cutAll_261 g_X12_cutAll_265
            rw [show ln 2 = 1002 from rfl, et]
            refine ok_gk (by omega) (by omega) (ok_gk (by omega) (by omega) (nxt (x + 1) _ 3 (s x) (by omega) eE ?_ (fun _ => eV'.symm)))
            rw [eK]
            have : s x = 59 := of_decide_eq_true e2
            rw [this]; rfl
        · have k2 : knd (s x) = 2 := knd_2.mpr (bd_t e')
          rw [k2, if_pos (Or.inr rfl)] at eE
          rw [k2, if_neg (by omega)] at eK
          have key : ∀ (m : Nat) (z z5 : Int) (y : Nat), z = y → x ≤ y → y ≤ N → N - y < m → rnp s N 2 y = rnp s N 2 x → (∀ i, x ≤ i → i < y → 48 ≤ s i ∧ s i ≤ 57) → z5 = fld 10 48 s x (min 3 (y - x)) → Ok (g_X12_cutAll_159 (t : Int) (x : Int) (g_X12_cutAll_17 n) m z z5 (zI ζ1 3 t x)) (Cut s N ζ) := by
            intro m
            induction m with
            | zero => intro _ _ _ _ _ _ h; omega
            | succ m ih2 =>
              intro z z5 y hz hxy hy hm hr hd hv
              subst hz
              unfold g_X12_cutAll_159 g_X12_cutAll_210
              rw [show (zI ζ1 3 t (x : Int)).1 0 3 = N by rw [zI_1, if_neg (by omega)]; exact h3, show Int.toNat (y : Int) = y by omega]
              have out : rnp s N 2 y = y → Ok (g_X12_cutAll_218 (g_X12_cutAll_17 n) (t : Int) (y : Int) (x : Int) z5 (zI ζ1 3 t x)) (Cut s N ζ) := fun q => by
                rw [← hr, q] at eE
                rw [eE] at eK eV bE
                unfold g_X12_cutAll_218 g_X12_cutAll_236 g_X12_cutAll_265
                rw [show ln 2 = 1002 from rfl, et]
                refine ok_gI (by omega) (by omega) (by omega) (by omega) (fun c => ?_) (fun c => ?_)
                · rw [if_neg (by omega)] at eK
                  refine ok_gk (by omega) (by omega) (ok_gk (by omega) (by omega) (nxt y _ 2 z5 rfl eE eK.symm (fun _ => ?_)))
                  rw [eV, eK, if_neg (by omega), if_pos rfl, hv, show min 3 (y - x) = y - x by omega]
                · rw [if_pos ⟨rfl, by omega⟩] at eK
                  exact ok_gk (by omega) (by omega) (ok_gk (by omega) (by omega) (nxt y _ 4 z5 rfl eE eK.symm (fun q => absurd eK q)))
              refine ok_gI (by omega) (by omega) (by omega) (by omega) (fun c => out (by rw [rnp_e, if_neg (by omega)])) (fun c => ok_gk (by omega) (by omega) ?_)
              have yl : y < N := by omega
              have sy := hs y yl
              have ey : (zI ζ1 3 t (x : Int)).1 1 y = s y := by rw [zI_1, if_neg (by omega)]; exact e1 y yl
              rw [ey]
              refine ok_beq (s_isD _ ⟨by omega, by omega⟩) (ok_bi (fun e3 => out ?_) (fun e3 => ?_))
              · rw [rnp_e, if_neg (fun q => by have := knd_2.mp q.2; rw [decide_eq_true this.1, decide_eq_true this.2] at e3; cases e3)]
              · have dy := bd_t e3
                have hr' : rnp s N 2 (y + 1) = rnp s N 2 x := by rw [← hr, rnp_e 2 y, if_pos ⟨yl, knd_2.mpr dy⟩]
                have hd' : ∀ i, x ≤ i → i < y + 1 → 48 ≤ s i ∧ s i ≤ 57 := fun i g1 g2 => by
                  by_cases c : i = y
                  · rw [c]; exact dy
                  · exact hd i g1 (by omega)
                refine ok_gI (by omega) (by omega) (by omega) (by omega) (fun c3 => ih2 _ _ (y + 1) (by omega) (by omega) (by omega) (by omega) hr' hd' ?_) (fun c3 => ok_gk (by omega) (by omega) ?_)
                · rw [hv, show min 3 (y - x) = min 3 (y + 1 - x) by omega]
                · rw [ey]
                  refine ok_gw (by omega) (by omega) (ih2 _ _ (y + 1) (by omega) (by omega) (by omega) (by omega) hr' hd' ?_)
                  rw [hv, show min 3 (y - x) = y - x by omega, show min 3 (y + 1 - x) = (y - x) + 1 by omega]
                  show _ = 10 * fld 10 48 s x (y - x) + (s (x + (y - x)) - 48)
                  rw [show x + (y - x) = y by omega]
                  omega
          exact key FU _ 0 x rfl (by omega) hx (by rw [FU_e]; omega) rfl (fun i g1 g2 => by omega) (by rw [show min 3 (x - x) = 0 by omega]; rfl)
      · have k1 : knd (s x) = 1 := knd_1.mpr (bd_t e)
        rw [k1, if_pos (Or.inl rfl)] at eE
        rw [k1] at eK
        have key : ∀ (m : Nat) (z z5 : Int) (y : Nat), z = y → x ≤ y → y ≤ N → N - y < m → rnp s N 1 y = rnp s N 1 x → z5 = fld 37 96 s x (min 8 (y - x)) → Ok (g_X12_cutAll_70 (t : Int) (x : Int) (g_X12_cutAll_17 n) m z z5 (zI ζ1 3 t x)) (Cut s N ζ) := by
          intro m
          induction m with
          | zero => intro _ _ _ _ _ _ h; omega
          | succ m ih2 =>
            intro z z5 y hz hxy hy hm hr hv
            subst hz
            unfold g_X12_cutAll_70 g_X12_cutAll_121
            rw [show (zI ζ1 3 t (x : Int)).1 0 3 = N by rw [zI_1, if_neg (by omega)]; exact h3, show Int.toNat (y : Int) = y by omega]
            have out : rnp s N 1 y = y → Ok (g_X12_cutAll_129 (g_X12_cutAll_17 n) (t : Int) (y : Int) (x : Int) z5 (zI ζ1 3 t x)) (Cut s N ζ) := fun q => by
              rw [← hr, q] at eE
              rw [eE] at eK eV bE
              unfold g_X12_cutAll_129 g_X12_cutAll_148 g_X12_cutAll_265
              rw [show ln 2 = 1002 from rfl, et]
              refine ok_gI (by omega) (by omega) (by omega) (by omega) (fun c => ?_) (fun c => ?_)
              · rw [if_neg (by omega), if_neg (by omega)] at eK
                refine ok_gk (by omega) (by omega) (ok_gk (by omega) (by omega) (nxt y _ 1 z5 rfl eE eK.symm (fun _ => ?_)))
                rw [eV, eK, if_pos rfl, hv, show min 8 (y - x) = y - x by omega]
              · rw [if_pos ⟨rfl, by omega⟩] at eK
                exact ok_gk (by omega) (by omega) (ok_gk (by omega) (by omega) (nxt y _ 4 z5 rfl eE eK.symm (fun q => absurd eK q)))
            refine ok_gI (by omega) (by omega) (by omega) (by omega) (fun c => out (by rw [rnp_e, if_neg (by omega)])) (fun c => ok_gk (by omega) (by omega) ?_)
            have yl : y < N := by omega
            have sy := hs y yl
            have ey : (zI ζ1 3 t (x : Int)).1 1 y = s y := by rw [zI_1, if_neg (by omega)]; exact e1 y yl
            rw [ey]
            refine ok_beq (s_isL _ ⟨by omega, by omega⟩) (ok_bi (fun e3 => out ?_) (fun e3 => ?_))
            · rw [rnp_e, if_neg (fun q => by have := knd_1.mp q.2; rw [decide_eq_true this.1, decide_eq_true this.2] at e3; cases e3)]
            · have dy := bd_t e3
              have hr' : rnp s N 1 (y + 1) = rnp s N 1 x := by rw [← hr, rnp_e 1 y, if_pos ⟨yl, knd_1.mpr dy⟩]
              refine ok_gI (by omega) (by omega) (by omega) (by omega) (fun c3 => ih2 _ _ (y + 1) (by omega) (by omega) (by omega) (by omega) hr' ?_) (fun c3 => ok_gk (by omega) (by omega) ?_)
              · rw [hv, show min 8 (y - x) = min 8 (y + 1 - x) by omega]
              · rw [ey]
                refine ok_beq (s_rank _ dy.1 dy.2) (ok_gw (by omega) (by omega) (ih2 _ _ (y + 1) (by omega) (by omega) (by omega) (by omega) hr' ?_))
                rw [hv, show min 8 (y - x) = y - x by omega, show min 8 (y + 1 - x) = (y - x) + 1 by omega]
                show _ = 37 * fld 37 96 s x (y - x) + (s (x + (y - x)) - 96)
                rw [show x + (y - x) = y by omega]
        exact key FU _ 0 x rfl (by omega) hx (by rw [FU_e]; omega) rfl (by rw [show min 8 (x - x) = 0 by omega]; rfl)
theorem s_cutAll {A : Nat → Nat → Int} {ζ : ZS} (h : Rf A ζ) (hW : Wall A) : Ok (g_X12_cutAll ζ) (Cut (A 1) (A 0 2).toNat ζ) := by
  have q := hW.2.2.2.2.2.2
  have e2 : ζ.1 0 2 = A 0 2 := h 0 2 (by unfold psl; omega)
  have q1 := q.1
  unfold g_X12_cutAll
  rw [e2]
  refine s_cut (by omega) (fun i hi => ?_) (fun i hi => h 1 i (by unfold psl; omega)) FU 0 0 0 0 _ rfl rfl (by omega) (by rw [FU_e]; omega) (by omega) (by show 0 ≤ 0; omega) rfl ⟨fx_I (fx_I (fx_refl _ _) (by unfold Wcu; omega)) (by unfold Wcu; omega), ?_, ?_, fun i hi => by omega⟩
  · have := q.2 i (by omega); omega
  · rw [zI_1, if_neg (by omega), zI_1, if_pos ⟨rfl, rfl⟩]; omega
  · rw [zI_1, if_pos ⟨rfl, rfl⟩]
