section XR
variable {p : Program} {l : Launch} {e : Env} {R : Room} {s : State} {m : MethodId} {args : Array Value} {below : List Frame} {meth : Method} {c : Code} {H : Heap} {locs : List Loc} {cells slots : Nat}
variable {y : MethodName} {bytes cc : ByteArray} {maxL nL n index : Nat} {ret : Option FieldType} {ws ws' : List Cond} {rm : Room} {Pc : Array Value → State → Prop} {Qc : Array Value → State → Outcome → State → Prop} {free : Addr → Prop} {Ts : List Cond} {own C : String} {b : Addr} {As rest : List Value} {pc : Nat} {ls : Array Slot}
/-- what a callee's words and room ask, with 20 words of stack left below it -/
def xw (R : Room) (y : MethodName) (ws ws' : List Cond) (bytes : ByteArray) (maxL : Nat) (ret : Option FieldType) (rm : Room) (n : Nat) : Prop :=
  ws = Cond.code y bytes maxL ret :: ws' ∧ rm.cells = 0 ∧ rm.slots = 0 ∧ rm.frames + 1 ≤ R.frames ∧ 20 + (maxL + 11) + rm.locals ≤ R.locals ∧ (y.cls ≠ "java/lang/invoke/MethodHandle" ∧ y.cls ≠ "java/lang/invoke/VarHandle") ∧ (parseMethodDescriptor y.desc).map (fun d => d.parameters.length) = some n
theorem x_runV (S : CallFix p m c cc nL s args Ts own) (hM : Met l y ws rm Pc Qc 0 0 free) (hT : GoodIn Ts (wsV own index y.cls y ws)) (hw : xw R y ws ws' bytes maxL ret rm n) (hp : PreV s H y.cls b Pc As) (hf : cells ≤ R.cells ∧ slots ≤ R.slots) (hn : As.length = n) (hsize : ls.size = nL) (hW : (rest.map fun v => v.category).sum ≤ 20) (hdg : decode cc pc = .ok (.invokevirtual index, 3)) :
    va_Run p l e R s m args below meth c H locs cells slots 0 0 (F0 m pc ls (As.reverse ++ .ref b :: rest)) rest (Qc (Value.ref b :: As).toArray) free := by
  obtain ⟨hw, hrc, hrs, hfr, hlo, hy, hlen⟩ := hw
  obtain ⟨hx, hb, hml, ho, ht⟩ := S
  have ok : ∀ w ∈ wsV own index y.cls y ws, w.before args s = true := fun w h => ht w (hT w h).1
  have hG : GoodIn Ts ws := fun w h => hT w (by unfold wsV; exact List.mem_append_right _ h)
  have hcm : Cond.code y bytes maxL ret ∈ ws := by rw [hw]; exact List.mem_cons_self
  have hini : (Cond.initialized y.cls).before args s = true := ok _ (by simp [wsV])
  have hK : Back l R p e below s args y 3 20 (PreOf R 0 0 Pc) (PostOf Qc 0 0 free) := back_of (bytes := bytes) (maxL := maxL) (ret := ret) hM hp.1 hrc hrs hfr hlo (pay_in ht hG) hcm (fun a' U hW => word_at hW (Or.inl (by first | rfl | simp [Cond.onTables, Cond.keeps, Cond.steady])) hini)
  obtain ⟨-, ⟨cellB, hcB, hoB, hclB⟩, hPc⟩ := hp
  intro T hT2 X
  obtain ⟨v, vm₁, ⟨U', l2, c2, s2⟩, hW₁, X', ⟨g', mk, t, L, e1, e2, hq, h1, hL, h2, h3⟩, st⟩ := callV X hx (C := y.cls) (index := index) (bytes := bytes) (maxL := maxL) (ret := ret) ho (ok _ (by simp [wsV])) (ok _ (by simp [wsV])) (ok _ (by simp [wsV])) (ht _ (hG _ hcm).1) hy hK (by rw [hT2]; exact hcB) hoB hclB (g := F0 m pc ls (As.reverse ++ .ref b :: rest)) rfl (hsize.trans hml.symm) (argsL := As) (rest := rest) (fun sig h => by rw [h] at hlen; exact hn.trans (Option.some.inj hlen).symm) rfl (by show 2 * 0 + _ ≤ 20; omega) (by rw [hb]; exact hdg)
    (fun vm₁ hW₁ => ⟨hf.1, hf.2, hPc (T.setVm vm₁) hT2 hW₁⟩)
  dsimp only [Pt.U, Pt.locs, Pt.cells, Pt.slots] at X' e1 e2 h1 h2 h3 st
  subst h1; subst h2; subst h3
  exact ⟨v, (T.setVm vm₁).calling g' mk (Value.ref b :: As).toArray, t, U', L, hT2, X', hL, e1, e2, hq, st⟩
theorem x_runS (S : CallFix p m c cc nL s args Ts own) (hM : Met l y ws rm Pc Qc 0 0 free) (hT : GoodIn Ts (va_wsS own index y ws)) (hw : xw R y ws ws' bytes maxL ret rm n) (hp : PreS s H Pc As) (hf : cells ≤ R.cells ∧ slots ≤ R.slots) (hn : As.length = n) (hsize : ls.size = nL) (hW : (rest.map fun v => v.category).sum ≤ 20) (hdg : decode cc pc = .ok (.invokestatic index, 3)) :
    va_Run p l e R s m args below meth c H locs cells slots 0 0 (F0 m pc ls (As.reverse ++ rest)) rest (Qc As.toArray) free := by
  obtain ⟨hw, hrc, hrs, hfr, hlo, hy, hlen⟩ := hw
  obtain ⟨hx, hb, hml, ho, ht⟩ := S
  have ok : ∀ w ∈ va_wsS own index y ws, w.before args s = true := fun w h => ht w (hT w h).1
  have hG : GoodIn Ts ws := fun w h => hT w (by unfold va_wsS; exact List.mem_append_right _ h)
  have hcm : Cond.code y bytes maxL ret ∈ ws := by rw [hw]; exact List.mem_cons_self
  have hini : (Cond.initialized y.cls).before args s = true := ok _ (by simp [va_wsS])
  have hK : Back l R p e below s args y 3 20 (PreOf R 0 0 Pc) (PostOf Qc 0 0 free) := back_of (bytes := bytes) (maxL := maxL) (ret := ret) hM hp.1 hrc hrs hfr hlo (pay_in ht hG) hcm (fun a' U hW => word_at hW (Or.inl (by first | rfl | simp [Cond.onTables, Cond.keeps, Cond.steady])) hini)
  intro T hT2 X
  obtain ⟨v, vm₁, ⟨U', l2, c2, s2⟩, hW₁, X', ⟨g', mk, t, L, e1, e2, hq, h1, hL, h2, h3⟩, st⟩ := callS X hx (index := index) (bytes := bytes) (maxL := maxL) (ret := ret) ho (ok _ (by simp [va_wsS])) (ok _ (by simp [va_wsS])) hini (ht _ (hG _ hcm).1) hy hK (g := F0 m pc ls (As.reverse ++ rest)) rfl (hsize.trans hml.symm) (argsL := As) (rest := rest) (fun sig h => by rw [h] at hlen; exact hn.trans (Option.some.inj hlen).symm) rfl (by show 2 * 0 + _ ≤ 20; omega) (by rw [hb]; exact hdg)
    (fun vm₁ hW₁ => ⟨hf.1, hf.2, hp.2 (T.setVm vm₁) hT2 hW₁⟩)
  dsimp only [Pt.U, Pt.locs, Pt.cells, Pt.slots] at X' e1 e2 h1 h2 h3 st
  subst h1; subst h2; subst h3
  exact ⟨v, (T.setVm vm₁).calling g' mk As.toArray, t, U', L, hT2, X', hL, e1, e2, hq, st⟩
end XR
/-- contracts: arguments, contents, what comes back -/
def CoI (E : ET) (y : MethodName) (ws : List Cond) (rm : Room) (av : List Value) (σ : HS) (fo : Option (Int32 × HS)) : Prop := Met E.1 y ws rm (va_Pc av (Wd E σ)) (va_Qi (fun r u => fo = some (r, u)) (Wd E) (aS E)) 0 0 (aS E)
def CoJ (E : ET) (y : MethodName) (ws : List Cond) (rm : Room) (av : List Value) (σ : HS) (fo : Option (Int64 × HS)) : Prop := Met E.1 y ws rm (va_Pc av (Wd E σ)) (va_Ql (fun r u => fo = some (r, u)) (Wd E) (aS E)) 0 0 (aS E)
def CoV (E : ET) (y : MethodName) (ws : List Cond) (rm : Room) (av : List Value) (σ : HS) (fo : Option HS) : Prop := Met E.1 y ws rm (va_Pc av (Wd E σ)) (va_Qv (fun u => fo = some u) (Wd E) (aS E)) 0 0 (aS E)
def CoR (E : ET) (y : MethodName) (ws : List Cond) (rm : Room) (av : List Value) (σ : HS) (fo : Option (Nat × HS)) : Prop := Met E.1 y ws rm (va_Pc av (Wd E σ)) (va_Qr (fun u : Nat × HS => fo = some u) (fun u a t => a = E.2.2.1 u.1 ∧ AL E u.1 ∧ Wd E u.2 t) (aS E)) 0 0 (aS E)
/-- the end that a contract wants -/
def RI (E : ET) (F : FT) (ty : FieldType) (fo : Option (Int32 × HS)) : Prop := F.2.2.2.1.sig.returnType = some ty ∧ F.2.2.2.2.2 = MQ F.2.2.1 (va_Qi (fun r u => fo = some (r, u)) (Wd E) F.1.2.2.2.2.2.1) F.2.1 F.1.2.2.2.1 F.1.2.2.2.2.2.2.1 F.1.2.2.2.2.2.2.2 F.1.2.2.2.2.2.1
def RJ (E : ET) (F : FT) (fo : Option (Int64 × HS)) : Prop := F.2.2.2.1.sig.returnType = some .long ∧ F.2.2.2.2.2 = MQ F.2.2.1 (va_Ql (fun r u => fo = some (r, u)) (Wd E) F.1.2.2.2.2.2.1) F.2.1 F.1.2.2.2.1 F.1.2.2.2.2.2.2.1 F.1.2.2.2.2.2.2.2 F.1.2.2.2.2.2.1
def RV (E : ET) (F : FT) (fo : Option HS) : Prop := F.2.2.2.1.sig.returnType = none ∧ F.2.2.2.2.2 = MQ F.2.2.1 (va_Qv (fun u => fo = some u) (Wd E) F.1.2.2.2.2.2.1) F.2.1 F.1.2.2.2.1 F.1.2.2.2.2.2.2.1 F.1.2.2.2.2.2.2.2 F.1.2.2.2.2.2.1
def RR (E : ET) (F : FT) (fo : Option (Nat × HS)) : Prop := (∃ rt, F.2.2.2.1.sig.returnType = some rt ∧ ((∃ n, rt = .object n) ∨ ∃ t, rt = .array t)) ∧ F.2.2.2.2.2 = MQ F.2.2.1 (va_Qr (fun u : Nat × HS => fo = some u) (fun u a t => a = E.2.2.1 u.1 ∧ AL E u.1 ∧ Wd E u.2 t) F.1.2.2.2.2.2.1) F.2.1 F.1.2.2.2.1 F.1.2.2.2.2.2.2.1 F.1.2.2.2.2.2.2.2 F.1.2.2.2.2.2.1
/-- the room that a call leaves for its own calls -/
def Ro (F : FT) (rm : Room) : Prop := F.1.2.2.1 = rm
theorem co_blind (E : ET) (av : List Value) (σ : HS) : FrameBlind (va_Pc av (Wd E σ)) := fun a U g mk q => ⟨q.1, q.2.1, va_K.moved (u := U) (U := U.calling g mk a) (Vm.Alike.refl U.vm) q.2.2.1, q.2.2.2⟩
section GC
variable {E : ET} {F : FT} {nL : Nat} {cc : ByteArray} {own : String} {Ts : List Cond} {pc : Nat} {lv : List (Nat × Value)} {st As : List Value} {σ : HS} {R : Room}
variable {y : MethodName} {bytes : ByteArray} {maxL n index t ci N : Nat} {T : u_T} {ret : Option FieldType} {ws ws' : List Cond} {rm : Room}
theorem g_iret (hC : Cx E F nL cc own Ts) {ty : FieldType} {fo : Option (Int32 × HS)} {x : Int32} (hR : RI E F ty fo) (hd : decode cc pc = .ok (.ireturn, 1)) (hn : narrow ty (.int x) = .int x) (h : some (x, σ) = fo) : G E F pc lv [.int x] σ := by
  intro hwf H locs ls hP hS hl
  rw [hR.2]
  exact W.zret hC.1 hC.2.1 hR.1 hn (fun t ht hW => ⟨⟨x, σ, rfl, h.symm, by rw [ht]; exact hP, va_K.moved hW.alike hC.2.2.2.2.2.1, hwf⟩, hS.F ht⟩) hS.2.2 hd hC.2.2.2.2.2.2.2.1
theorem g_lret (hC : Cx E F nL cc own Ts) {fo : Option (Int64 × HS)} {x : Int64} (hR : RJ E F fo) (hd : decode cc pc = .ok (.lreturn, 1)) (h : some (x, σ) = fo) : G E F pc lv [.long x] σ := by
  intro hwf H locs ls hP hS hl
  rw [hR.2]
  exact W.lret hC.1 hC.2.1 hR.1 (fun t ht hW => ⟨⟨x, σ, rfl, h.symm, by rw [ht]; exact hP, va_K.moved hW.alike hC.2.2.2.2.2.1, hwf⟩, hS.F ht⟩) hS.2.2 hd hC.2.2.2.2.2.2.2.1
theorem g_vret (hC : Cx E F nL cc own Ts) {fo : Option HS} (hR : RV E F fo) (hd : decode cc pc = .ok (.return_, 1)) (h : some σ = fo) : G E F pc lv [] σ := by
  intro hwf H locs ls hP hS hl
  rw [hR.2]
  exact W.vret hC.1 hC.2.1 hR.1 (fun t ht hW => ⟨⟨σ, rfl, h.symm, by rw [ht]; exact hP, va_K.moved hW.alike hC.2.2.2.2.2.1, hwf⟩, hS.F ht⟩) hS.2.2 hd hC.2.2.2.2.2.2.2.1
theorem g_aret (hC : Cx E F nL cc own Ts) {fo : Option (Nat × HS)} {a : Nat} (hR : RR E F fo) (hA : AL E a) (hd : decode cc pc = .ok (.areturn, 1)) (h : some (a, σ) = fo) : G E F pc lv [.ref (E.2.2.1 a)] σ := by
  intro hwf H locs ls hP hS hl
  obtain ⟨⟨rt, h1, h2⟩, h3⟩ := hR
  rw [h3]
  exact W.aret hC.1 hC.2.1 h1 h2 (Or.inr ⟨_, rfl⟩) (fun t ht hW => ⟨⟨(a, σ), E.2.2.1 a, rfl, h.symm, rfl, hA, by rw [ht]; exact hP, va_K.moved hW.alike hC.2.2.2.2.2.1, hwf⟩, hS.F ht⟩) hS.2.2 hd hC.2.2.2.2.2.2.2.1
theorem g_pre (hC : Cx E F nL cc own Ts) {H : Heap} {C : String} (hwf : wf E σ) (hP : va_P E.2.1 vwCl (wl E σ) H) (hr : cr ci C T N) (hk : kd t = ci) (ht : AL E t) (av : List Value) : PreV F.1.2.2.2.1 H C (E.2.2.1 t) (va_Pc (.ref (E.2.2.1 t) :: As) (Wd E σ)) As :=
  ⟨co_blind E _ σ, va_recv hC.2.2.2.2.2.1 hP (ci := ci) (q0 := (al_at ht).choose) hr.1 (by rw [wl_at σ (al_at ht).choose_spec, ce_o hk hr.2.2]), fun U hU hW => ⟨rfl, by rw [hU]; exact hP, va_K.moved hW.alike hC.2.2.2.2.2.1, hwf⟩⟩
theorem g_cVI (hC : Cx E F nL cc own Ts) (hO : Ro F R) {fo : Option (Int32 × HS)} {r : Int32} {σ' : HS} (hM : CoI E y ws rm (.ref (E.2.2.1 t) :: As) σ fo) (hT : GoodIn Ts (wsV own index y.cls y ws)) (hw : xw R y ws ws' bytes maxL ret rm n) (hr : cr ci y.cls T N) (hk : kd t = ci) (ht : AL E t) (hn : As.length = n) (hW : (st.map fun v => v.category).sum ≤ 20) (hd : decode cc pc = .ok (.invokevirtual index, 3)) (hs : fo = some (r, σ')) (kk : G E F (pc + 3) lv (.int r :: st) σ') : G E F pc lv (As.reverse ++ .ref (E.2.2.1 t) :: st) σ := by
  intro hwf H locs ls hP hS hl
  refine va_calli (x_runV ⟨hC.1, hC.2.1, hC.2.2.1, hC.2.2.2.1, hC.2.2.2.2.1⟩ hM hT (hO ▸ hw) (g_pre hC hwf hP hr hk ht As) ⟨hC.2.2.2.2.2.2.2.2.2.1, hC.2.2.2.2.2.2.2.2.2.2⟩ hn (hl.1.trans hC.2.2.1) hW hd) hS (fun q _ h => by obtain ⟨k, h1, h2⟩ := h; rw [h2]; exact hC.2.2.2.2.2.2.2.2.1 k h1) (fun q h => by obtain ⟨k, h1, h2⟩ := h; rw [h2]; exact hC.2.2.2.2.2.2.2.2.1 k h1) (fun r1 u t1 H1 locs1 ht1 hvm hw1 hB hz1 hk1 hS1 => ?_)
  rw [hs] at hw1
  cases hw1
  exact kk hB.2.2 H1 locs1 ls (by rw [← ht1]; exact hB.1) hS1 hl
theorem g_cVJ (hC : Cx E F nL cc own Ts) (hO : Ro F R) {fo : Option (Int64 × HS)} {r : Int64} {σ' : HS} (hM : CoJ E y ws rm (.ref (E.2.2.1 t) :: As) σ fo) (hT : GoodIn Ts (wsV own index y.cls y ws)) (hw : xw R y ws ws' bytes maxL ret rm n) (hr : cr ci y.cls T N) (hk : kd t = ci) (ht : AL E t) (hn : As.length = n) (hW : (st.map fun v => v.category).sum ≤ 20) (hd : decode cc pc = .ok (.invokevirtual index, 3)) (hs : fo = some (r, σ')) (kk : G E F (pc + 3) lv (.long r :: st) σ') : G E F pc lv (As.reverse ++ .ref (E.2.2.1 t) :: st) σ := by
  intro hwf H locs ls hP hS hl
  refine va_calll (x_runV ⟨hC.1, hC.2.1, hC.2.2.1, hC.2.2.2.1, hC.2.2.2.2.1⟩ hM hT (hO ▸ hw) (g_pre hC hwf hP hr hk ht As) ⟨hC.2.2.2.2.2.2.2.2.2.1, hC.2.2.2.2.2.2.2.2.2.2⟩ hn (hl.1.trans hC.2.2.1) hW hd) hS (fun q _ h => by obtain ⟨k, h1, h2⟩ := h; rw [h2]; exact hC.2.2.2.2.2.2.2.2.1 k h1) (fun q h => by obtain ⟨k, h1, h2⟩ := h; rw [h2]; exact hC.2.2.2.2.2.2.2.2.1 k h1) (fun r1 u t1 H1 locs1 ht1 hvm hw1 hB hz1 hk1 hS1 => ?_)
  rw [hs] at hw1
  cases hw1
  exact kk hB.2.2 H1 locs1 ls (by rw [← ht1]; exact hB.1) hS1 hl
theorem g_cVV (hC : Cx E F nL cc own Ts) (hO : Ro F R) {fo : Option HS} {σ' : HS} (hM : CoV E y ws rm (.ref (E.2.2.1 t) :: As) σ fo) (hT : GoodIn Ts (wsV own index y.cls y ws)) (hw : xw R y ws ws' bytes maxL ret rm n) (hr : cr ci y.cls T N) (hk : kd t = ci) (ht : AL E t) (hn : As.length = n) (hW : (st.map fun v => v.category).sum ≤ 20) (hd : decode cc pc = .ok (.invokevirtual index, 3)) (hs : fo = some σ') (kk : G E F (pc + 3) lv st σ') : G E F pc lv (As.reverse ++ .ref (E.2.2.1 t) :: st) σ := by
  intro hwf H locs ls hP hS hl
  refine va_callv (x_runV ⟨hC.1, hC.2.1, hC.2.2.1, hC.2.2.2.1, hC.2.2.2.2.1⟩ hM hT (hO ▸ hw) (g_pre hC hwf hP hr hk ht As) ⟨hC.2.2.2.2.2.2.2.2.2.1, hC.2.2.2.2.2.2.2.2.2.2⟩ hn (hl.1.trans hC.2.2.1) hW hd) hS (fun q _ h => by obtain ⟨k, h1, h2⟩ := h; rw [h2]; exact hC.2.2.2.2.2.2.2.2.1 k h1) (fun q h => by obtain ⟨k, h1, h2⟩ := h; rw [h2]; exact hC.2.2.2.2.2.2.2.2.1 k h1) (fun u t1 H1 locs1 ht1 hvm hw1 hB hz1 hk1 hS1 => ?_)
  rw [hs] at hw1
  cases hw1
  exact kk hB.2.2 H1 locs1 ls (by rw [← ht1]; exact hB.1) hS1 hl
theorem g_cVR (hC : Cx E F nL cc own Ts) (hO : Ro F R) {fo : Option (Nat × HS)} {r : Nat} {σ' : HS} (hM : CoR E y ws rm (.ref (E.2.2.1 t) :: As) σ fo) (hT : GoodIn Ts (wsV own index y.cls y ws)) (hw : xw R y ws ws' bytes maxL ret rm n) (hr : cr ci y.cls T N) (hk : kd t = ci) (ht : AL E t) (hn : As.length = n) (hW : (st.map fun v => v.category).sum ≤ 20) (hd : decode cc pc = .ok (.invokevirtual index, 3)) (hs : fo = some (r, σ')) (kk : AL E r → G E F (pc + 3) lv (.ref (E.2.2.1 r) :: st) σ') : G E F pc lv (As.reverse ++ .ref (E.2.2.1 t) :: st) σ := by
  intro hwf H locs ls hP hS hl
  refine va_callr (x_runV ⟨hC.1, hC.2.1, hC.2.2.1, hC.2.2.2.1, hC.2.2.2.2.1⟩ hM hT (hO ▸ hw) (g_pre hC hwf hP hr hk ht As) ⟨hC.2.2.2.2.2.2.2.2.2.1, hC.2.2.2.2.2.2.2.2.2.2⟩ hn (hl.1.trans hC.2.2.1) hW hd) hS (fun q _ h => by obtain ⟨k, h1, h2⟩ := h; rw [h2]; exact hC.2.2.2.2.2.2.2.2.1 k h1) (fun q h => by obtain ⟨k, h1, h2⟩ := h; rw [h2]; exact hC.2.2.2.2.2.2.2.2.1 k h1) (fun u ra t1 H1 locs1 ht1 hvm hw1 hB hz1 hk1 hS1 => ?_)
  rw [hs] at hw1
  cases hw1
  rw [hB.1]
  exact kk hB.2.1 hB.2.2.2.2 H1 locs1 ls (by rw [← ht1]; exact hB.2.2.1) hS1 hl
theorem g_preS (hC : Cx E F nL cc own Ts) {H : Heap} (hwf : wf E σ) (hP : va_P E.2.1 vwCl (wl E σ) H) : PreS F.1.2.2.2.1 H (va_Pc As (Wd E σ)) As :=
  ⟨co_blind E _ σ, fun U hU hW => ⟨rfl, by rw [hU]; exact hP, va_K.moved hW.alike hC.2.2.2.2.2.1, hwf⟩⟩
theorem g_cSI (hC : Cx E F nL cc own Ts) (hO : Ro F R) {fo : Option (Int32 × HS)} {r : Int32} {σ' : HS} (hM : CoI E y ws rm As σ fo) (hT : GoodIn Ts (va_wsS own index y ws)) (hw : xw R y ws ws' bytes maxL ret rm n) (hn : As.length = n) (hW : (st.map fun v => v.category).sum ≤ 20) (hd : decode cc pc = .ok (.invokestatic index, 3)) (hs : fo = some (r, σ')) (kk : G E F (pc + 3) lv (.int r :: st) σ') : G E F pc lv (As.reverse ++ st) σ := by
  intro hwf H locs ls hP hS hl
  refine va_calli (x_runS ⟨hC.1, hC.2.1, hC.2.2.1, hC.2.2.2.1, hC.2.2.2.2.1⟩ hM hT (hO ▸ hw) (g_preS hC hwf hP) ⟨hC.2.2.2.2.2.2.2.2.2.1, hC.2.2.2.2.2.2.2.2.2.2⟩ hn (hl.1.trans hC.2.2.1) hW hd) hS (fun q _ h => by obtain ⟨k, h1, h2⟩ := h; rw [h2]; exact hC.2.2.2.2.2.2.2.2.1 k h1) (fun q h => by obtain ⟨k, h1, h2⟩ := h; rw [h2]; exact hC.2.2.2.2.2.2.2.2.1 k h1) (fun r1 u t1 H1 locs1 ht1 hvm hw1 hB hz1 hk1 hS1 => ?_)
  rw [hs] at hw1
  cases hw1
  exact kk hB.2.2 H1 locs1 ls (by rw [← ht1]; exact hB.1) hS1 hl
theorem g_cSJ (hC : Cx E F nL cc own Ts) (hO : Ro F R) {fo : Option (Int64 × HS)} {r : Int64} {σ' : HS} (hM : CoJ E y ws rm As σ fo) (hT : GoodIn Ts (va_wsS own index y ws)) (hw : xw R y ws ws' bytes maxL ret rm n) (hn : As.length = n) (hW : (st.map fun v => v.category).sum ≤ 20) (hd : decode cc pc = .ok (.invokestatic index, 3)) (hs : fo = some (r, σ')) (kk : G E F (pc + 3) lv (.long r :: st) σ') : G E F pc lv (As.reverse ++ st) σ := by
  intro hwf H locs ls hP hS hl
  refine va_calll (x_runS ⟨hC.1, hC.2.1, hC.2.2.1, hC.2.2.2.1, hC.2.2.2.2.1⟩ hM hT (hO ▸ hw) (g_preS hC hwf hP) ⟨hC.2.2.2.2.2.2.2.2.2.1, hC.2.2.2.2.2.2.2.2.2.2⟩ hn (hl.1.trans hC.2.2.1) hW hd) hS (fun q _ h => by obtain ⟨k, h1, h2⟩ := h; rw [h2]; exact hC.2.2.2.2.2.2.2.2.1 k h1) (fun q h => by obtain ⟨k, h1, h2⟩ := h; rw [h2]; exact hC.2.2.2.2.2.2.2.2.1 k h1) (fun r1 u t1 H1 locs1 ht1 hvm hw1 hB hz1 hk1 hS1 => ?_)
  rw [hs] at hw1
  cases hw1
  exact kk hB.2.2 H1 locs1 ls (by rw [← ht1]; exact hB.1) hS1 hl
end GC
section CO
variable {E : ET} {y : MethodName} {ws ws' : List Cond} {rm : Room} {av : List Value} {σ : HS} {cc : ByteArray} {maxL : Nat} {lv : List (Nat × Value)}
theorem co_entry {Ts : List Cond} {Qc : Array Value → State → Outcome → State → Prop} {ret : Option FieldType} (hE : EO E) (hy : plainFor y = true) (hw : ws = Cond.code y cc maxL ret :: Ts) (hl : (lg_sl av).length ≤ maxL) (hlv : lv_args 0 av = lv)
    (body : ∀ F : FT, Cx E F maxL cc y.cls Ts → Ro F rm → F.2.2.2.1.sig.returnType = ret → F.2.2.2.2.2 = MQ F.2.2.1 Qc F.2.1 F.1.2.2.2.1 0 0 (aS E) → F.1.2.2.2.2.2 = (aS E, 0, 0) → G E F 0 lv [] σ) : Met E.1 y ws rm (va_Pc av (Wd E σ)) Qc 0 0 (aS E) := by
  refine va_MetF (cc := cc) (maxL := maxL) (ret := ret) hy hw ?_
  intro p e s m args below meth c s₁ B hml hv
  obtain ⟨rfl, hP, hK, hwf⟩ := hv
  have hts0 := atoms_spec (ws := ws) B.pre
  have hts : ∀ w ∈ Ts, w.before av.toArray s = true := fun w h => hts0 w (by rw [hw]; exact List.mem_cons_of_mem _ h)
  have hown : s.vm.findClass y.cls = some m.cls := findClass_of_methodNamed B.named
  have hent := lv_entry av (n := maxL) hl
  rw [lg_entry_eq]
  exact body ((p, e, (headSpec ws rm).room, s, m, aS E, 0, 0), (av.toArray, below, meth, c, MQ below Qc av.toArray s 0 0 (aS E))) ⟨B.exec, B.bytes, hml, hown, hts, hK, hE, B.notSynchronized, fun k h => ⟨k, h, rfl⟩, Nat.zero_le _, Nat.zero_le _⟩ rfl B.returns rfl rfl hwf s.heap [] _ hP va_S.rf (by rw [hml, ← hlv]; exact hent)
theorem CoI.of {Ts : List Cond} {ty : FieldType} {fo : Option (Int32 × HS)} (hE : EO E) (hy : plainFor y = true) (hw : ws = Cond.code y cc maxL (some ty) :: Ts) (hl : (lg_sl av).length ≤ maxL) (hlv : lv_args 0 av = lv) (body : ∀ F : FT, Cx E F maxL cc y.cls Ts → Ro F rm → RI E F ty fo → G E F 0 lv [] σ) : CoI E y ws rm av σ fo := co_entry hE hy hw hl hlv (fun F h1 h2 h3 h4 h5 => body F h1 h2 ⟨h3, by rw [h4, h5]⟩)
theorem CoJ.of {Ts : List Cond} {fo : Option (Int64 × HS)} (hE : EO E) (hy : plainFor y = true) (hw : ws = Cond.code y cc maxL (some .long) :: Ts) (hl : (lg_sl av).length ≤ maxL) (hlv : lv_args 0 av = lv) (body : ∀ F : FT, Cx E F maxL cc y.cls Ts → Ro F rm → RJ E F fo → G E F 0 lv [] σ) : CoJ E y ws rm av σ fo := co_entry hE hy hw hl hlv (fun F h1 h2 h3 h4 h5 => body F h1 h2 ⟨h3, by rw [h4, h5]⟩)
theorem CoV.of {Ts : List Cond} {fo : Option HS} (hE : EO E) (hy : plainFor y = true) (hw : ws = Cond.code y cc maxL none :: Ts) (hl : (lg_sl av).length ≤ maxL) (hlv : lv_args 0 av = lv) (body : ∀ F : FT, Cx E F maxL cc y.cls Ts → Ro F rm → RV E F fo → G E F 0 lv [] σ) : CoV E y ws rm av σ fo := co_entry hE hy hw hl hlv (fun F h1 h2 h3 h4 h5 => body F h1 h2 ⟨h3, by rw [h4, h5]⟩)
theorem CoR.of {Ts : List Cond} {rt : FieldType} (hrt : (∃ n, rt = .object n) ∨ ∃ t, rt = .array t) {fo : Option (Nat × HS)} (hE : EO E) (hy : plainFor y = true) (hw : ws = Cond.code y cc maxL (some rt) :: Ts) (hl : (lg_sl av).length ≤ maxL) (hlv : lv_args 0 av = lv) (body : ∀ F : FT, Cx E F maxL cc y.cls Ts → Ro F rm → RR E F fo → G E F 0 lv [] σ) : CoR E y ws rm av σ fo := co_entry hE hy hw hl hlv (fun F h1 h2 h3 h4 h5 => body F h1 h2 ⟨⟨rt, h3, hrt⟩, by rw [h4, h5]⟩)
end CO
