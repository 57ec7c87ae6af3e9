/-! the law's own value and gap: they catch -/
/-- as inv_throw, the law's own cell written between the two calls -/
def UP (σ σ' : HS) : Prop := σ' = σ ∨ ∃ w : Int64, σ' = sJ σ 25 0 w
theorem inv_throw2 {τ : Type} {cv : Int → τ} {X : ZS → Option (Option Int × ZS)} {Y : ZS → Option (Int × ZS)} {F : HS → Option (Option τ × HS)} {G : HS → Option (τ × HS)} {Q : (Nat → Nat → Int) → Int → Int → Prop}
    (hX : ∀ ζ σ, Rp ζ σ → Sm (fun (p : Option Int × ZS) (q : Option τ × HS) => q.1 = p.1.map cv ∧ Rp p.2 q.2) (X ζ) (F σ)) (hY : ∀ ζ σ, Rp ζ σ → Sm (fun (p : Int × ZS) (q : τ × HS) => q.1 = cv p.1 ∧ Rp p.2 q.2) (Y ζ) (G σ))
    (ha : ∀ A ζ, Rf A ζ → Wall A → Ok (Y ζ) (fun r => RP A ζ (Q A (r.2.1 0 0)) r)) (hb : ∀ A ζ, Cls A ζ → Wall A → Ok (X ζ) (CPt A ζ (Q A))) (hu : ∀ A s t v w, Wall A → Q A s v → Q A t w → s = t ∧ (s = 0 → v = w))
    {σ : HS} (h : Inv σ) : ∃ o σ1, F σ = some (o, σ1) ∧ ∀ σ', UP σ1 σ' → ∃ b σ2, G σ' = some (b, σ2) ∧ Inv σ2 ∧ ((o = some b ∧ σ2.1 0 0 = 0) ∨ (o = none ∧ σ2.1 0 0 = 1)) ∧ σ2.2.1 25 0 = σ'.2.1 25 0 := by
  obtain ⟨ζ, A, hr, hf, hc, hW, hd⟩ := h
  obtain ⟨r, er, c1, c2, c3⟩ := hb A ζ hc hW
  obtain ⟨s, es, s1, s2⟩ := hX ζ σ hr r er
  have z : ∀ x y, x < 26 → r.2.1 x y = ζ.1 x y ∧ r.2.2.1 x y = ζ.2.1 x y := fun x y g => c3.1 x y (by show ¬ 26 ≤ x; omega)
  have hf1 : Rf A r.2 := rf_far hf (fun x y g => (z x y g).1)
  have hd1 : Wrd r.2 := fun j hj => by rw [(z 5 j (by omega)).2]; exact hd j hj
  have key : ∀ (ζ1 : ZS) (σ' : HS), Rp ζ1 σ' → Rf A ζ1 → Cls A ζ1 → Wrd ζ1 → ∃ b σ2, G σ' = some (b, σ2) ∧ Inv σ2 ∧ ((s.1 = some b ∧ σ2.1 0 0 = 0) ∨ (s.1 = none ∧ σ2.1 0 0 = 1)) ∧ σ2.2.1 25 0 = σ'.2.1 25 0 := by
    intro ζ1 σ' hr1 hf2 hc2 hd2
    obtain ⟨u, eu, q1, q2, q3⟩ := ha A ζ1 hf2 hW
    obtain ⟨t, et, t1, t2⟩ := hY ζ1 σ' hr1 u eu
    refine ⟨t.1, t.2, et, ⟨u.2, A, t2, q2, cls_far hW.2.1 hc2 (fx_mono q3 (fun x y g => by show x < 26; omega)), hW, fun j hj => ?_⟩, ?_, ?_⟩
    · rw [(q3.1 5 j (by show ¬ (5 < 25 ∧ 5 ≠ 5); omega)).2]; exact hd2 j hj
    · have e0 : t.2.1 0 0 = mJ (u.2.1 0 0) := t2.1 0 0
      rcases c1 with ⟨v, g1, g2⟩ | ⟨g1, g2⟩
      · have w := hu A _ _ _ _ hW g2 q1
        left
        rw [s1, g1, t1, ← w.2 rfl, e0, ← w.1]
        exact ⟨rfl, rfl⟩
      · have w := hu A _ _ _ _ hW g2 q1
        right
        rw [s1, g1, e0, ← w.1]
        exact ⟨rfl, rfl⟩
    · rw [t2.2.1 25 0, (q3.1 25 0 (by show ¬ (25 < 25 ∧ 25 ≠ 5); omega)).2, ← hr1.2.1 25 0]
  refine ⟨s.1, s.2, es, fun σ' hup => ?_⟩
  rcases hup with rfl | ⟨w, rfl⟩
  · exact key r.2 s.2 s2 hf1 c2 hd1
  · refine key (zJ r.2 25 0 w.toInt) _ ⟨s2.1, fun c k => ?_, s2.2.2.1, s2.2.2.2⟩ hf1 (cls_far hW.2.1 c2 (fx_J (fx_refl _ _) (show 25 < 26 by decide))) (fun j hj => by rw [zJ_2, if_neg (by omega)]; exact hd1 j hj)
    show u2 s.2.2.1 25 0 w c k = mL (u2 r.2.2.1 25 0 w.toInt c k)
    rw [u2_e, u2_e]
    split
    · exact (Int64.ofInt_toInt w).symm
    · exact s2.2.1 c k
theorem inv_value2 (x1 x2 : Int32) {σ : HS} (h : Inv σ) : ∃ o σ1, f_X11_value 26 x1 x2 σ = some (o, σ1) ∧ ∀ σ', UP σ1 σ' → ∃ b σ2, f_X12_value 0 x1 x2 σ' = some (b, σ2) ∧ Inv σ2 ∧ ((o = some b ∧ σ2.1 0 0 = 0) ∨ (o = none ∧ σ2.1 0 0 = 1)) ∧ σ2.2.1 25 0 = σ'.2.1 25 0 :=
  inv_throw2 (cv := mJ) (X := g_X11_value x1.toInt x2.toInt) (Y := g_X12_value x1.toInt x2.toInt) (F := f_X11_value 26 x1 x2) (G := f_X12_value 0 x1 x2) (Q := fun A => QVa A x1.toInt x2.toInt) (fun ζ σ hr => q_X11_value x1 x1.toInt (jt x1) x2 x2.toInt (jt x2) ζ σ hr) (fun ζ σ hr => q_X12_value x1 x1.toInt (jt x1) x2 x2.toInt (jt x2) ζ σ hr) (fun A ζ h hW => a_value h hW (jr x1) (jr x2)) (fun A ζ h hW => b_value h hW (jr x1) (jr x2)) (fun A s t v w _ p q => qva_fun p q) h
theorem inv_gap2 (x1 x2 x3 : Int32) {σ : HS} (h : Inv σ) : ∃ o σ1, f_X11_gap 26 x1 x2 x3 σ = some (o, σ1) ∧ ∀ σ', UP σ1 σ' → ∃ b σ2, f_X12_gap 0 x1 x2 x3 σ' = some (b, σ2) ∧ Inv σ2 ∧ ((o = some b ∧ σ2.1 0 0 = 0) ∨ (o = none ∧ σ2.1 0 0 = 1)) ∧ σ2.2.1 25 0 = σ'.2.1 25 0 :=
  inv_throw2 (cv := mL) (X := g_X11_gap x1.toInt x2.toInt x3.toInt) (Y := g_X12_gap x1.toInt x2.toInt x3.toInt) (F := f_X11_gap 26 x1 x2 x3) (G := f_X12_gap 0 x1 x2 x3) (Q := fun A => QGp A x1.toInt x2.toInt x3.toInt) (fun ζ σ hr => q_X11_gap x1 x1.toInt (jt x1) x2 x2.toInt (jt x2) x3 x3.toInt (jt x3) ζ σ hr) (fun ζ σ hr => q_X12_gap x1 x1.toInt (jt x1) x2 x2.toInt (jt x2) x3 x3.toInt (jt x3) ζ σ hr) (fun A ζ h hW => a_gap h hW (jr x1) (jr x2) (jr x3)) (fun A ζ h hW => b_gap h hW (jr x1) (jr x2) (jr x3)) (fun A s t v w _ p q => qgp_fun p q) h
def CvI (E : ET) (y : MethodName) (ws : List Cond) (rm : Room) (av : List Value) (σ : HS) (fo : Option (Int32 × HS)) : Prop := Met E.1 y ws rm (va_Pc av (WX E σ)) (va_Qi (fun r u => fo = some (r, u)) (Wd E) (aS E)) 1 6 (aS E)
def RvI (E : ET) (F : FT) (fo : Option (Int32 × HS)) : Prop := F.2.2.2.1.sig.returnType = some .int ∧ F.2.2.2.2.2 = MQ F.2.2.1 (va_Qi (fun r u => fo = some (r, u)) (Wd E) F.1.2.2.2.2.2.1) F.2.1 F.1.2.2.2.1 1 6 F.1.2.2.2.2.2.1
/-- what a caller of a method that throws stands on -/
def TX (F : FT) : Prop := TS F.1.2.2.2.2.2.1 F.1.2.2.2.1 ∧ ∀ w ∈ TW, w.before F.2.1 F.1.2.2.2.1 = true
theorem CvI.of {E : ET} {y : MethodName} {ws : List Cond} {rm : Room} {av : List Value} {σ : HS} {cc : ByteArray} {maxL : Nat} {lv : List (Nat × Value)} {fo : Option (Int32 × HS)} {hh : List (Nat × Nat × Nat × Nat)} (hE : EO E) (hy : plainName y.cls = true) (hw : ws = Cond.codeWith y cc maxL (some .int) hh :: GX) (hl : (lg_sl av).length ≤ maxL) (hlv : lv_args 0 av = lv)
    (body : ∀ F : FT, Cx E F maxL cc y.cls GT → Ro F rm → RvI E F fo → F.1.2.2.2.2.2.2 = (0, 0) → F.2.2.2.2.1.exceptionTable.toList = tableOf hh → TX F → G E F 0 lv [] σ) : CvI E y ws rm av σ fo := by
  refine va_MetW (cc := cc) (maxL := maxL) (ret := some .int) (hh := hh) hy hw ?_
  intro p e s m args below meth c s₁ B hml hv
  obtain ⟨rfl, ⟨hP, hK, hwf⟩, hX⟩ := hv
  have hts0 := atoms_spec (ws := ws) B.pre
  have hts : ∀ w ∈ GX, w.before av.toArray s = true := fun w h => hts0 w (by rw [hw]; exact List.mem_cons_of_mem _ h)
  have hown : s.vm.findClass y.cls = some m.cls := findClass_of_methodNamed B.named
  have htab : c.exceptionTable.toList = tableOf hh := vx_table (x := y) B (hts0 _ (by rw [hw]; exact List.mem_cons_self))
  have hent := lv_entry av (n := maxL) hl
  rw [lg_entry_eq]
  exact body ((p, e, (headSpec ws rm).room, s, m, aS E, 0, 0), (av.toArray, below, meth, c, MQ below (va_Qi (fun r u => fo = some (r, u)) (Wd E) (aS E)) av.toArray s 1 6 (aS E))) ⟨B.exec, B.bytes, hml, hown, fun w h => hts w (List.mem_append_left _ h), hK, hE, B.notSynchronized, fun k h => ⟨k, h, rfl⟩, Nat.zero_le _, Nat.zero_le _⟩ rfl ⟨B.returns, rfl⟩ rfl htab ⟨hX, fun w h => hts w (List.mem_append_right _ h)⟩ hwf s.heap [] _ hP va_S.rf (by rw [hml, ← hlv]; exact hent)
section GTY
variable {E : ET} {F : FT} {nL : Nat} {cc : ByteArray} {own : String} {pc : Nat} {lv : List (Nat × Value)} {st As : List Value} {σ : HS} {R : Room}
variable {y : MethodName} {bytes : ByteArray} {maxL n index t ci N : Nat} {T : u_T} {ret : Option FieldType} {ws : List Cond} {rm : Room}
theorem gx_ts (hC : Cx E F nL cc own GT) (hX : TX F) : ∀ w ∈ GX, w.before F.2.1 F.1.2.2.2.1 = true := fun w h => by
  rcases List.mem_append.mp h with h | h
  · exact hC.2.2.2.2.1 w h
  · exact hX.2 w h
theorem t_sub (hC : Cx E F nL cc own GT) : ∀ q, aS E q → F.1.2.2.2.2.2.1 q := fun q h => by obtain ⟨k, h1, h2⟩ := h; rw [h2]; exact hC.2.2.2.2.2.2.2.2.1 k h1
theorem t_preV (hC : Cx E F nL cc own GT) (hX : TX F) {H : Heap} {locs : List Loc} {C : String} (hwf : wf E σ) (hP : va_P E.2.1 vwCl (wl E σ) H) (hS : va_S F.1.2.2.2.2.2.1 F.1.2.2.2.1.heap H locs) (hr : cr ci C T N) (hk : kd t = ci) (ht : AL E t) : PreV F.1.2.2.2.1 H C (E.2.2.1 t) (va_Pc (.ref (E.2.2.1 t) :: As) (WX E σ)) As :=
  ⟨ct_blind E _ σ, va_recv hC.2.2.2.2.2.1 hP (ci := ci) (q0 := (al_at ht).choose) hr.1 (by rw [wl_at σ (al_at ht).choose_spec, ce_o hk hr.2.2]), fun U hU hW => ⟨rfl, ⟨by rw [hU]; exact hP, va_K.moved hW.alike hC.2.2.2.2.2.1, hwf⟩, ts_mv hX.1 (t_sub hC) hW (fun a h1 h2 => by rw [hU]; exact hS.2.1 a h1 h2)⟩⟩
theorem t_preS (hC : Cx E F nL cc own GT) (hX : TX F) {H : Heap} {locs : List Loc} (hwf : wf E σ) (hP : va_P E.2.1 vwCl (wl E σ) H) (hS : va_S F.1.2.2.2.2.2.1 F.1.2.2.2.1.heap H locs) : PreS F.1.2.2.2.1 H (va_Pc As (WX E σ)) As :=
  ⟨ct_blind E _ σ, fun U hU hW => ⟨rfl, ⟨by rw [hU]; exact hP, va_K.moved hW.alike hC.2.2.2.2.2.1, hwf⟩, ts_mv hX.1 (t_sub hC) hW (fun a h1 h2 => by rw [hU]; exact hS.2.1 a h1 h2)⟩⟩
theorem g_tryI (hC : Cx E F nL cc own GT) (hX : TX F) (hO : Ro F R) {fo : Option (Option Int32 × HS)} (hM : CtI E y ws rm (.ref (E.2.2.1 t) :: As) σ fo) (hws : ws = Cond.code y bytes maxL ret :: GX) (hT : GoodIn GX (wsV own index y.cls y ws)) (hrm : rm.cells = 1 ∧ rm.slots = 6 ∧ rm.frames + 1 ≤ R.frames ∧ 8 + (maxL + 11) + rm.locals ≤ R.locals) (hy : y.cls = y.cls ∧ y.cls ≠ "java/lang/invoke/MethodHandle" ∧ y.cls ≠ "java/lang/invoke/VarHandle" ∧ (parseMethodDescriptor y.desc).map (fun d => d.parameters.length) = some n) (hr : cr ci y.cls T N) (hk : kd t = ci) (ht : AL E t) (hn : As.length = n) (hW : (st.map fun v => v.category).sum ≤ 8) (hd : decode cc pc = .ok (.invokevirtual index, 3)) (hcs : F.1.2.2.2.2.2.2.1 + 1 ≤ R.cells ∧ F.1.2.2.2.2.2.2.2 + 6 ≤ R.slots)
    {x : ExceptionTableEntry} (htab : F.2.2.2.2.1.exceptionTable.toList = [x]) (hcov : covers x pc = true) (hct : x.catchType ≠ 0) (hlink : Cond.classLink own x.catchType NSE ∈ GT)
    (kx : ∀ σ1 q, fo = some (none, σ1) → G E (fA F 1 6) x.handlerPc lv [.ref q] σ1) (kk : ∀ r σ1, fo = some (some r, σ1) → G E (fA F 1 6) (pc + 3) lv (.int r :: st) σ1) : G E F pc lv (As.reverse ++ .ref (E.2.2.1 t) :: st) σ := by
  intro hwf H locs ls hP hS hl
  have hO1 : F.1.2.2.1 = R := hO
  have hts := gx_ts hC hX
  refine vx_calli (vx_runV (C := y.cls) (Ts := GX) ⟨hC.1, hC.2.1, hC.2.2.1, hC.2.2.2.1, hts⟩ hM (cwV n hts hT hws hrm.1 hrm.2.1 hy (by rw [hO1]; exact hrm.2.2)) (t_preV hC hX hwf hP hS hr hk ht) rfl hn (hl.1.trans hC.2.2.1) rfl (lv_room hW) hd (by rw [hO1]; exact hcs)) hS (fun q _ h => t_sub hC q h) (t_sub hC) (fun q _ h => t_sub hC q h) (fun C ce q9 u t1 H1 locs1 ht1 hvm hpx hB hz1 hk1 hS1 hce hcv hcl => ?_) (fun r u t1 H1 locs1 ht1 hvm hp hB hz1 hk1 hS1 => ?_)
  · obtain ⟨rfl, hWd⟩ := hB
    exact xc_catch (own := own) (name := NSE) (E := NSE) hC.2.2.2.1 htab hcov hct (hC.2.2.2.2.1 _ hlink) (tb_mv (Vm.Alike.refl _) hX.1.2.2.2.2 _ tb_ca) hce hcv hcl (kx u q9 hpx hWd.2.2 H1 locs1 ls (by rw [← ht1]; exact hWd.1) hS1 hl)
  · exact kk r u hp hB.2.2 H1 locs1 ls (by rw [← ht1]; exact hB.1) hS1 hl
theorem g_tryJ (hC : Cx E F nL cc own GT) (hX : TX F) (hO : Ro F R) {fo : Option (Option Int64 × HS)} (hM : CtJ E y ws rm (.ref (E.2.2.1 t) :: As) σ fo) (hws : ws = Cond.code y bytes maxL ret :: GX) (hT : GoodIn GX (wsV own index y.cls y ws)) (hrm : rm.cells = 1 ∧ rm.slots = 6 ∧ rm.frames + 1 ≤ R.frames ∧ 8 + (maxL + 11) + rm.locals ≤ R.locals) (hy : y.cls = y.cls ∧ y.cls ≠ "java/lang/invoke/MethodHandle" ∧ y.cls ≠ "java/lang/invoke/VarHandle" ∧ (parseMethodDescriptor y.desc).map (fun d => d.parameters.length) = some n) (hr : cr ci y.cls T N) (hk : kd t = ci) (ht : AL E t) (hn : As.length = n) (hW : (st.map fun v => v.category).sum ≤ 8) (hd : decode cc pc = .ok (.invokevirtual index, 3)) (hcs : F.1.2.2.2.2.2.2.1 + 1 ≤ R.cells ∧ F.1.2.2.2.2.2.2.2 + 6 ≤ R.slots)
    {x : ExceptionTableEntry} (htab : F.2.2.2.2.1.exceptionTable.toList = [x]) (hcov : covers x pc = true) (hct : x.catchType ≠ 0) (hlink : Cond.classLink own x.catchType NSE ∈ GT)
    (kx : ∀ σ1 q, fo = some (none, σ1) → G E (fA F 1 6) x.handlerPc lv [.ref q] σ1) (kk : ∀ r σ1, fo = some (some r, σ1) → G E (fA F 1 6) (pc + 3) lv (.long r :: st) σ1) : G E F pc lv (As.reverse ++ .ref (E.2.2.1 t) :: st) σ := by
  intro hwf H locs ls hP hS hl
  have hO1 : F.1.2.2.1 = R := hO
  have hts := gx_ts hC hX
  refine vx_calll (vx_runV (C := y.cls) (Ts := GX) ⟨hC.1, hC.2.1, hC.2.2.1, hC.2.2.2.1, hts⟩ hM (cwV n hts hT hws hrm.1 hrm.2.1 hy (by rw [hO1]; exact hrm.2.2)) (t_preV hC hX hwf hP hS hr hk ht) rfl hn (hl.1.trans hC.2.2.1) rfl (lv_room hW) hd (by rw [hO1]; exact hcs)) hS (fun q _ h => t_sub hC q h) (t_sub hC) (fun q _ h => t_sub hC q h) (fun C ce q9 u t1 H1 locs1 ht1 hvm hpx hB hz1 hk1 hS1 hce hcv hcl => ?_) (fun r u t1 H1 locs1 ht1 hvm hp hB hz1 hk1 hS1 => ?_)
  · obtain ⟨rfl, hWd⟩ := hB
    exact xc_catch (own := own) (name := NSE) (E := NSE) hC.2.2.2.1 htab hcov hct (hC.2.2.2.2.1 _ hlink) (tb_mv (Vm.Alike.refl _) hX.1.2.2.2.2 _ tb_ca) hce hcv hcl (kx u q9 hpx hWd.2.2 H1 locs1 ls (by rw [← ht1]; exact hWd.1) hS1 hl)
  · exact kk r u hp hB.2.2 H1 locs1 ls (by rw [← ht1]; exact hB.1) hS1 hl
/-- the law calls a method of its own that catches -/
theorem g_lSI (hC : Cx E F nL cc own GT) (hX : TX F) (hO : Ro F R) {fo : Option (Int32 × HS)} {r : Int32} {σ' : HS} {hh : List (Nat × Nat × Nat × Nat)} (hM : CvI E y ws rm As σ fo) (hws : ws = Cond.codeWith y bytes maxL ret hh :: GX) (hT : GoodIn GX (va_wsS own index y ws)) (hrm : rm.cells = 1 ∧ rm.slots = 6 ∧ rm.frames + 1 ≤ R.frames ∧ 8 + (maxL + 11) + rm.locals ≤ R.locals) (hy : y.cls ≠ "java/lang/invoke/MethodHandle" ∧ y.cls ≠ "java/lang/invoke/VarHandle" ∧ (parseMethodDescriptor y.desc).map (fun d => d.parameters.length) = some n) (hn : As.length = n) (hW : (st.map fun v => v.category).sum ≤ 8) (hd : decode cc pc = .ok (.invokestatic index, 3)) (hcs : F.1.2.2.2.2.2.2.1 + 1 ≤ R.cells ∧ F.1.2.2.2.2.2.2.2 + 6 ≤ R.slots) (hs : fo = some (r, σ')) (kk : G E (fA F 1 6) (pc + 3) lv (.int r :: st) σ') : G E F pc lv (As.reverse ++ st) σ := by
  intro hwf H locs ls hP hS hl
  have hO1 : F.1.2.2.1 = R := hO
  have hts := gx_ts hC hX
  refine va_calli (vx_runSW (Ts := GX) (hh := hh) ⟨hC.1, hC.2.1, hC.2.2.1, hC.2.2.2.1, hts⟩ hM (vx_cwSW n hts hT hws hrm.1 hrm.2.1 hy (by rw [hO1]; exact hrm.2.2)) (t_preS hC hX hwf hP hS) rfl hn (hl.1.trans hC.2.2.1) rfl (lv_room hW) hd (by rw [hO1]; exact hcs)) hS (fun q _ h => t_sub hC q h) (t_sub hC) (fun r1 u t1 H1 locs1 ht1 hvm hw1 hB hz1 hk1 hS1 => ?_)
  rw [hs] at hw1
  cases hw1
  exact kk hB.2.2 H1 locs1 ls (by rw [← ht1]; exact hB.1) hS1 hl
theorem g_vret2 (hC : Cx E F nL cc own GT) {fo : Option (Int32 × HS)} {x : Int32} (hR : RvI E F fo) (h0 : F.1.2.2.2.2.2.2 = (0, 0)) (hd : decode cc pc = .ok (.ireturn, 1)) (h : some (x, σ) = fo) : G E (fA F 1 6) pc lv [.int x] σ := by
  intro hwf H locs ls hP hS hl
  have e1 : F.1.2.2.2.2.2.2.1 = 0 := by rw [h0]
  have e2 : F.1.2.2.2.2.2.2.2 = 0 := by rw [h0]
  show W _ _ _ _ _ _ _ _ _ _ _ _ (F.1.2.2.2.2.2.2.1 + 1) (F.1.2.2.2.2.2.2.2 + 6) F.2.2.2.2.2 _
  rw [hR.2, e1, e2]
  exact W.zret hC.1 hC.2.1 hR.1 rfl (fun t ht hW => ⟨⟨x, σ, rfl, h.symm, by rw [ht]; exact hP, va_K.moved hW.alike hC.2.2.2.2.2.1, hwf⟩, hS.F ht⟩) hS.2.2 hd hC.2.2.2.2.2.2.2.1
theorem cx_fA (hC : Cx E F nL cc own GT) {c m : Nat} (h1 : F.1.2.2.2.2.2.2.1 + c ≤ F.1.2.2.1.cells) (h2 : F.1.2.2.2.2.2.2.2 + m ≤ F.1.2.2.1.slots) : Cx E (fA F c m) nL cc own GT := ⟨hC.1, hC.2.1, hC.2.2.1, hC.2.2.2.1, hC.2.2.2.2.1, hC.2.2.2.2.2.1, hC.2.2.2.2.2.2.1, hC.2.2.2.2.2.2.2.1, hC.2.2.2.2.2.2.2.2.1, h1, h2⟩
end GTY
def w_L_value : List Cond := Cond.codeWith yL_value cL_value 5 (some .int) [(0, 10, 13, 13)] :: GX
def rm_L_value : Room := { frames := 7, cells := 1, slots := 6, locals := 252 }
theorem wc_X11_value : Cond.code yX11_value cX11_value 3 (some .int) ∈ GT := gtr_22 _ (List.mem_of_getElem? (i := 17) rfl)
theorem gl_value : GoodIn GX (wsV RL 7 RX11 yX11_value w_X11_value) := gx_V (gtr_22 _ (List.mem_of_getElem? (i := 14) rfl)) (gtr_22 _ (List.mem_of_getElem? (i := 15) rfl)) (gtr_22 _ (List.mem_of_getElem? (i := 16) rfl)) (gtr_1 _ (List.mem_of_getElem? (i := 2) rfl)) wc_X11_value
def l_value (x1 x2 : Int32) (σ : HS) : Option (Int32 × HS) := (f_X11_value 26 x1 x2 σ).map (fun q => match q.1 with | some v => (0, sJ q.2 25 0 v.toInt64) | none => (1, q.2))
theorem ck_ok {i : Int32} {n : Nat} (hn : i = 0 ∧ 0 < n) : ck i n (some ()) = some () := by
  unfold ck
  rw [if_pos]
  rw [hn.1]
  exact ⟨by decide, by have := hn.2; show (0 : Int) < n; omega⟩
set_option maxHeartbeats 4000000 in
set_option maxRecDepth 100000 in
theorem c_L_value (E : ET) (hE : EO E) (htr : E.1.stackTraces = false) (h26 : AL E 26) (h25 : AL E 25) (x1 x2 : Int32) (σ : HS) (hn : f_X11_value 26 x1 x2 σ ≠ none) : CvI E yL_value w_L_value rm_L_value [.ref (E.2.2.1 26), .int x1, .int x2, .ref (E.2.2.1 25)] σ (l_value x1 x2 σ) := by
  refine CvI.of (lv := [(0, .ref (E.2.2.1 26)), (1, .int x1), (2, .int x2), (3, .ref (E.2.2.1 25))]) (hh := [(0, 10, 13, 13)]) hE (by decide) rfl (Nat.le_of_ble_eq_true rfl) rfl (fun F hC hO hR h0 htab hX => ?_)
  have hO1 : F.1.2.2.1 = rm_L_value := hO
  have hC2 : Cx E (fA F 1 6) 5 cL_value RL GT := cx_fA hC (by rw [h0, hO1]; exact (Nat.le_of_ble_eq_true rfl)) (by rw [h0, hO1]; exact (Nat.le_of_ble_eq_true rfl))
  refine g_aload_n hC dL_value_0 rfl 3 rfl ?_
  refine g_iconst (v := 0) hC dL_value_1 (by decide) ?_
  refine g_aload_n hC dL_value_2 rfl 0 rfl ?_
  refine g_iload_n hC dL_value_3 rfl 1 rfl ?_
  refine g_iload_n hC dL_value_4 rfl 2 rfl ?_
  refine g_tryI (As := [.int x1, .int x2]) (n := 2) (x := ⟨0, 10, 13, 13⟩) hC hX hO (c_X11_value _ hC.2.2.2.2.2.2.1 htr 26 rfl h26 x1 x2 σ hn) rfl gl_value ⟨rfl, rfl, (Nat.le_of_ble_eq_true rfl), (Nat.le_of_ble_eq_true rfl)⟩ ⟨rfl, by decide, by decide, by decide +kernel⟩ cr11 rfl h26 rfl (Nat.le_of_ble_eq_true rfl) dL_value_5 (by rw [h0]; exact ⟨(Nat.le_of_ble_eq_true rfl), (Nat.le_of_ble_eq_true rfl)⟩) htab (by decide) (by decide) (gtr_22 _ (List.mem_of_getElem? (i := 13) rfl)) (fun σ1 q hq => ?_) (fun r σ1 hq => ?_)
  · refine g_astore (lv' := (4, .ref q) :: [(0, .ref (E.2.2.1 26)), (1, .int x1), (2, .int x2), (3, .ref (E.2.2.1 25))]) hC2 dL_value_13 (by decide) rfl ?_
    refine g_iconst (v := 1) hC2 dL_value_15 (by decide) ?_
    exact g_vret2 hC hR h0 dL_value_16 (by rw [l_value, hq]; rfl)
  · refine g_i2l hC2 dL_value_8 ?_
    refine g_last (a := 25) (fo := some ()) (b := some ()) hC2 rfl h25 dL_value_9 (ck_ok ⟨rfl, by decide⟩) (by simp) (fun _ => ?_)
    refine g_goto (tgt := 17) hC2 dL_value_10 (by decide) ?_
    refine g_iconst (v := 0) hC2 dL_value_17 (by decide) ?_
    exact g_vret2 hC hR h0 dL_value_18 (by rw [l_value, hq]; rfl)
def w_L_gap : List Cond := Cond.codeWith yL_gap cL_gap 6 (some .int) [(0, 11, 14, 13)] :: GX
def rm_L_gap : Room := { frames := 7, cells := 1, slots := 6, locals := 253 }
theorem wc_X11_gap : Cond.code yX11_gap cX11_gap 4 (some .long) ∈ GT := gtr_38 _ (List.mem_of_getElem? (i := 16) rfl)
theorem gl_gap : GoodIn GX (wsV RL 15 RX11 yX11_gap w_X11_gap) := gx_V (gtr_38 _ (List.mem_of_getElem? (i := 13) rfl)) (gtr_38 _ (List.mem_of_getElem? (i := 14) rfl)) (gtr_38 _ (List.mem_of_getElem? (i := 15) rfl)) (gtr_1 _ (List.mem_of_getElem? (i := 2) rfl)) wc_X11_gap
def l_gap (x1 x2 x3 : Int32) (σ : HS) : Option (Int32 × HS) := (f_X11_gap 26 x1 x2 x3 σ).map (fun q => match q.1 with | some v => (0, sJ q.2 25 0 v) | none => (1, q.2))
set_option maxHeartbeats 4000000 in
set_option maxRecDepth 100000 in
theorem c_L_gap (E : ET) (hE : EO E) (htr : E.1.stackTraces = false) (h26 : AL E 26) (h25 : AL E 25) (x1 x2 x3 : Int32) (σ : HS) (hn : f_X11_gap 26 x1 x2 x3 σ ≠ none) : CvI E yL_gap w_L_gap rm_L_gap [.ref (E.2.2.1 26), .int x1, .int x2, .int x3, .ref (E.2.2.1 25)] σ (l_gap x1 x2 x3 σ) := by
  refine CvI.of (lv := [(0, .ref (E.2.2.1 26)), (1, .int x1), (2, .int x2), (3, .int x3), (4, .ref (E.2.2.1 25))]) (hh := [(0, 11, 14, 13)]) hE (by decide) rfl (Nat.le_of_ble_eq_true rfl) rfl (fun F hC hO hR h0 htab hX => ?_)
  have hO1 : F.1.2.2.1 = rm_L_gap := hO
  have hC2 : Cx E (fA F 1 6) 6 cL_gap RL GT := cx_fA hC (by rw [h0, hO1]; exact (Nat.le_of_ble_eq_true rfl)) (by rw [h0, hO1]; exact (Nat.le_of_ble_eq_true rfl))
  refine g_aload hC dL_gap_0 4 rfl ?_
  refine g_iconst (v := 0) hC dL_gap_2 (by decide) ?_
  refine g_aload_n hC dL_gap_3 rfl 0 rfl ?_
  refine g_iload_n hC dL_gap_4 rfl 1 rfl ?_
  refine g_iload_n hC dL_gap_5 rfl 2 rfl ?_
  refine g_iload_n hC dL_gap_6 rfl 3 rfl ?_
  refine g_tryJ (As := [.int x1, .int x2, .int x3]) (n := 3) (x := ⟨0, 11, 14, 13⟩) hC hX hO (c_X11_gap _ hC.2.2.2.2.2.2.1 htr 26 rfl h26 x1 x2 x3 σ hn) rfl gl_gap ⟨rfl, rfl, (Nat.le_of_ble_eq_true rfl), (Nat.le_of_ble_eq_true rfl)⟩ ⟨rfl, by decide, by decide, by decide +kernel⟩ cr11 rfl h26 rfl (Nat.le_of_ble_eq_true rfl) dL_gap_7 (by rw [h0]; exact ⟨(Nat.le_of_ble_eq_true rfl), (Nat.le_of_ble_eq_true rfl)⟩) htab (by decide) (by decide) (gtr_22 _ (List.mem_of_getElem? (i := 13) rfl)) (fun σ1 q hq => ?_) (fun r σ1 hq => ?_)
  · refine g_astore (lv' := (5, .ref q) :: [(0, .ref (E.2.2.1 26)), (1, .int x1), (2, .int x2), (3, .int x3), (4, .ref (E.2.2.1 25))]) hC2 dL_gap_14 (by decide) rfl ?_
    refine g_iconst (v := 1) hC2 dL_gap_16 (by decide) ?_
    exact g_vret2 hC hR h0 dL_gap_17 (by rw [l_gap, hq]; rfl)
  · refine g_last (a := 25) (fo := some ()) (b := some ()) hC2 rfl h25 dL_gap_10 (ck_ok ⟨rfl, by decide⟩) (by simp) (fun _ => ?_)
    refine g_goto (tgt := 18) hC2 dL_gap_11 (by decide) ?_
    refine g_iconst (v := 0) hC2 dL_gap_18 (by decide) ?_
    exact g_vret2 hC hR h0 dL_gap_19 (by rw [l_gap, hq]; rfl)
