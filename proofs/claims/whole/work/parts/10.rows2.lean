/-- what a boolean field takes -/
def zc {α : Type} (x : Int32) (a : Option α) : Option α := if x = 0 ∨ x = 1 then a else none
theorem zc_of {α : Type} {x : Int32} {a fo : Option α} (h : zc x a = fo) (hf : fo ≠ none) : (x = 0 ∨ x = 1) ∧ a = fo := by
  unfold zc at h
  by_cases c : x = 0 ∨ x = 1
  · rw [if_pos c] at h
    exact ⟨c, h⟩
  · rw [if_neg c] at h
    exact absurd h.symm hf
section GR2
variable {E : ET} {F : FT} {nL : Nat} {cc : ByteArray} {own : String} {Ts : List Cond} {pc i j : Nat} {lv lv' : List (Nat × Value)} {st : List Value} {σ : HS}
theorem g_ldcw (hC : Cx E F nL cc own Ts) {index : Nat} {v : Int32} (hw : Jvm.Cond.constant own index v ∈ Ts) (hd : decode cc pc = .ok (.ldc_w index, 3)) (kk : G E F (pc + 3) lv (.int v :: st) σ) : G E F pc lv st σ := fun hwf H locs ls hP hS hl => lv_ldcw hC.1 hC.2.1 hC.2.2.2.1 (hC.2.2.2.2.1 _ hw) hd (kk hwf H locs ls hP hS hl)
theorem g_lxor (hC : Cx E F nL cc own Ts) {x y : Int64} (hd : decode cc pc = .ok (.lxor, 1)) (kk : G E F (pc + 1) lv (.long (x ^^^ y) :: st) σ) : G E F pc lv (.long y :: .long x :: st) σ := fun hwf H locs ls hP hS hl => lv_lxor hC.1 hC.2.1 hd (kk hwf H locs ls hP hS hl)
theorem g_aaldC (hC : Cx E F nL cc own Ts) {a : Nat} {i : Int32} (hk : kd a = 17) (ha : AL E a) (hd : decode cc pc = .ok (.aaload, 1)) {α : Type} {cj : Nat} {f : Nat → Option α} {fo : Option α} (h : ck i (ln a) (rk (σ.2.2 a i.toNatClampNeg) cj f) = fo) (hf : fo ≠ none) (kk : ∀ b, σ.2.2 a i.toNatClampNeg = some b → kd b = cj → AL E b → f b = fo → G E F (pc + 1) lv (.ref (E.2.2.1 b) :: st) σ) : G E F pc lv (.int i :: .ref (E.2.2.1 a) :: st) σ := by
  obtain ⟨h1, h2⟩ := ck_of h hf
  obtain ⟨b, g1, g2, g4⟩ := rk_of h2 hf
  exact fun hwf H locs ls hP hS hl => va_aldq hC.1 hC.2.1 hC.2.2.2.2.2.1 hP (al_at ha).choose 4 (by rw [wl_at σ (al_at ha).choose_spec, ce_R hk (by decide)]) rfl h1 hd (by
    show W _ _ _ _ _ _ _ _ _ _ _ _ _ _ _ (F0 _ _ _ (va_rf ((σ.2.2 a i.toNatClampNeg).map E.2.2.1) :: st))
    rw [g1]
    exact kk b g1 g2 (hwf a _ b ha g1) g4 hwf H locs ls hP hS hl)
theorem g_aaldI (hC : Cx E F nL cc own Ts) {a : Nat} {i : Int32} (hk : kd a = 18) (ha : AL E a) (hd : decode cc pc = .ok (.aaload, 1)) {α : Type} {cj : Nat} {f : Nat → Option α} {fo : Option α} (h : ck i (ln a) (rk (σ.2.2 a i.toNatClampNeg) cj f) = fo) (hf : fo ≠ none) (kk : ∀ b, σ.2.2 a i.toNatClampNeg = some b → kd b = cj → AL E b → f b = fo → G E F (pc + 1) lv (.ref (E.2.2.1 b) :: st) σ) : G E F pc lv (.int i :: .ref (E.2.2.1 a) :: st) σ := by
  obtain ⟨h1, h2⟩ := ck_of h hf
  obtain ⟨b, g1, g2, g4⟩ := rk_of h2 hf
  intro hwf H locs ls hP hS hl
  have hlt : i.toNatClampNeg < ln a := Nat.not_le.mp fun q => h1 (Or.inr q)
  have hcell := hP (al_at ha).choose _ (by rw [wl_at σ (al_at ha).choose_spec, ce_R hk (by decide)])
  refine W.aald (v := .ref (E.2.2.1 b)) (ty := .array .int) hC.1 hC.2.1 hcell ((hC.2.2.2.2.2.1.2 5 _ rfl).1 (ln a) (fun j => va_rf ((σ.2.2 a j).map E.2.2.1))) rfl (fun q => by cases q) (by show ¬ (i < 0 ∨ (arrV _ _ _).slots.size ≤ _); rw [arrV_size]; exact h1) (by show (arrV _ _ _).slots[_]? = _; rw [arrV_read _ _ hlt]; show some (va_rf ((σ.2.2 a i.toNatClampNeg).map E.2.2.1)) = _; rw [g1]; rfl) rfl rfl hd (kk b g1 g2 (hwf a _ b ha g1) g4 hwf H locs ls hP hS hl)
theorem g_alen (hC : Cx E F nL cc own Ts) {a ci : Nat} {v : Int32} (hk : kd a = ci) (hc : ci = 14 ∨ ci = 15 ∨ ci = 17 ∨ ci = 18) (ha : AL E a) (hv : Int32.ofNat (ln a) = v) (hd : decode cc pc = .ok (.arraylength, 1)) (kk : G E F (pc + 1) lv (.int v :: st) σ) : G E F pc lv (.ref (E.2.2.1 a) :: st) σ := by
  intro hwf H locs ls hP hS hl
  rcases hc with rfl | rfl | rfl | rfl
  · exact va_alen hC.1 hC.2.1 hC.2.2.2.2.2.1 hP (al_at ha).choose 1 (by rw [wl_at σ (al_at ha).choose_spec, ce_I hk (by decide)]) rfl hv hd (kk hwf H locs ls hP hS hl)
  · exact va_alen hC.1 hC.2.1 hC.2.2.2.2.2.1 hP (al_at ha).choose 2 (by rw [wl_at σ (al_at ha).choose_spec, ce_J hk]) rfl hv hd (kk hwf H locs ls hP hS hl)
  · exact va_alen hC.1 hC.2.1 hC.2.2.2.2.2.1 hP (al_at ha).choose 4 (by rw [wl_at σ (al_at ha).choose_spec, ce_R hk (by decide)]) rfl hv hd (kk hwf H locs ls hP hS hl)
  · exact va_alen hC.1 hC.2.1 hC.2.2.2.2.2.1 hP (al_at ha).choose 5 (by rw [wl_at σ (al_at ha).choose_spec, ce_R hk (by decide)]) rfl hv hd (kk hwf H locs ls hP hS hl)
theorem wf_sR {E : ET} {σ : HS} {t k v : Nat} (hw : wf E σ) (hv : AL E v) : wf E (sR σ t k (some v)) := by
  intro a j b ha hb
  have hb : u2 σ.2.2 t k (some v) a j = some b := hb
  rw [u2_e] at hb
  by_cases c : a = t ∧ j = k
  · rw [if_pos c] at hb; cases hb; exact hv
  · rw [if_neg c] at hb; exact hw a j b ha hb
theorem g_putR (hC : Cx E F nL cc own Ts) {C ref : String} {T : u_T} {N ci k index t v : Nat} {ty0 : Nat → FieldType} (hr : cr ci C T N) (hin : ∀ w ∈ u_ws C T N, w ∈ Ts) (hty0 : ∀ k, k < N → parseFieldDescriptor (T k).2.2.1 = some (ty0 k)) (hnm : ∀ a, a < N → ∀ b, b < N → a ≠ b → (T a).2.1 ≠ (T b).2.1) (hk : kd t = ci) (ht : AL E t) (hv : AL E v) (hkn : k < N) (hw : Cond.fieldLink own index ref (T k).2.1 (T k).2.2.1 ∈ Ts) (hs : ref = (T k).1) (hfin : (T k).2.2.2 = false) (hty : ft ci k = ty0 k) (ht0 : isR (ty0 k) = true) (hd : decode cc pc = .ok (.putfield index, 3)) (kk : G E F (pc + 3) lv st (sR σ t k (some v))) : G E F pc lv (.ref (E.2.2.1 v) :: .ref (E.2.2.1 t) :: st) σ := by
  have hlen : k < nf ci := by rw [hr.2.1]; exact hkn
  have hnr : narrow (ty0 k) (.ref (E.2.2.1 v)) = .ref (E.2.2.1 v) := by
    generalize ty0 k = ty at ht0
    cases ty <;> first | rfl | (simp [isR] at ht0)
  have hfi : fits (ty0 k) (.ref (E.2.2.1 v)) = true := by
    generalize ty0 k = ty at ht0
    cases ty <;> first | rfl | (simp [isR] at ht0)
  exact fun hwf H locs ls hP hS hl => va_put (ty := ty0 k) hC.1 hC.2.1 hC.2.2.2.2.1 hin ty0 hty0 hnm hC.2.2.2.1 hC.2.2.2.2.2.1 hP (wl_DA hC σ) hS (al_at ht).choose (by rw [wl_at σ (al_at ht).choose_spec, ce_o hk hr.2.2]) hr.1 k hkn (hC.2.2.2.2.1 _ hw) (by rw [hs]; exact fun _ h => h) hfin (hty0 k hkn) hnr hfi (by rw [fl_len]; exact hlen) hd (fun H1 locs1 hP1 hD1 hS1 => kk (wf_sR hwf hv) H1 locs1 ls (by
    rw [wl_set hC.2.2.2.2.2.2.1 (σ' := sR σ t k (some v)) (al_at ht).choose_spec (by rw [ce_o hk hr.2.2, fl_set (σ' := sR σ t k (some v)) hlen (by rw [hty, fv_R ht0]; show va_rf ((u2 σ.2.2 t k (some v) t k).map E.2.2.1) = _; rw [u2_e, if_pos ⟨rfl, rfl⟩]; rfl) (fun j hj => fv_nR (Or.inr hj) _)]) (fun x hx => ce_nR x hx)] at hP1
    exact hP1) hS1 hl)
end GR2
