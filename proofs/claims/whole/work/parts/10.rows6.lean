/-- the array classes that the constructors ask -/
def aoI (U : State) : Prop := (Cond.arrayOver (.array .int)).before #[] U = true
theorem aoI_use {A : Array Value} {U : State} (h : aoI U) : (Cond.arrayOver (.array .int)).before A U = true := h
theorem aoI_moved {u U : State} (hvm : u.vm.Alike U.vm) (h : aoI u) : aoI U := by
  have h0 := h
  unfold aoI Cond.before at h
  simp only [Cond.holds, Cond.value, beq_iff_eq] at h
  cases hc : u.vm.findClass (FieldType.array .int).toString with
  | none => rw [hc] at h; simp at h
  | some comp =>
    rw [hc] at h
    simp only [Option.bind_some, Option.bind_eq_some_iff, Option.map_eq_some_iff] at h
    obtain ⟨c, h2, k, h3, hb⟩ := h
    obtain ⟨k', hk', he⟩ := hvm.2.2 _ _ h3
    have hi : (U.vm.classes.findIdx? fun (x : Class) => match x.kind with | .array component _ => component == comp | _ => false) = some c := by
      refine (va_idx_bare U.vm comp).symm.trans ?_
      first | rw [hvm.bare_eq] | rw [← hvm.bare_eq]
      exact (va_idx_bare u.vm comp).trans h2
    have hkind : k'.kind = k.kind := by rw [he]
    have f1 : U.vm.findClass (FieldType.array .int).toString = some comp := by rw [hvm.findClass]; exact hc
    unfold aoI Cond.before
    simp only [Cond.holds, Cond.value, beq_iff_eq]
    rw [f1, Option.bind_some]
    refine Option.bind_eq_some_iff.mpr ⟨c, hi, ?_⟩
    rw [hk', Option.map_some, hkind, hvm.findClass]
    exact congrArg some hb
/-- calls of a nest mate's private constructor -/
def nestL : List (String × Nat × MethodName) := [(RX11, 9, yX8_init), (RX11, 27, yX9_init), (RX10, 18, yX1_init), (RX11, 68, yX7_init), (RX11, 75, yX3_init), (RX11, 95, yX0_init)]
def AOK (U : State) : Prop := va_AO "EveryMeasure$Cone" U ∧ aoI U ∧ ∀ q ∈ nestL, va_Nw (.methodLinkNest q.1 q.2.1 q.2.2 "EveryMeasure") U
theorem AOK.warm {s U : State} (hW : s.WarmedH U.vm) (h : AOK s) : AOK U := ⟨va_AO.moved hW.alike h.1, aoI_moved hW.alike h.2.1, fun q hq => va_Nw.warmM hW (h.2.2 q hq)⟩
theorem AOK.same {u U : State} (e : u.vm = U.vm) (h : AOK u) : AOK U := ⟨va_AO.moved (by rw [e]; exact Vm.Alike.refl _) h.1, aoI_moved (by rw [e]; exact Vm.Alike.refl _) h.2.1, fun q hq => va_Nw.same rfl e (h.2.2 q hq)⟩
/-- what a constructor may change -/
def aN (E : ET) (n : Nat) : Nat → Prop := fun q => aS E q ∨ E.2.2.1 n ≤ q
/-- the contract of a constructor that makes the mc cells n, n + 1 .. of ms slots -/
def CoN (E : ET) (n mc ms : Nat) (y : MethodName) (ws : List Cond) (rm : Room) (av : List Value) (σ : HS) (fo : Option HS) : Prop := Met E.1 y ws rm (va_Pc av (fun U => U.heap.size = E.2.2.1 n ∧ AOK U ∧ Wd E σ U)) (va_Qv (fun u => fo = some u) (Wd (eR E n mc)) (aN E n)) mc ms (aN E n)
/-- the end that it wants -/
def RN (E : ET) (n mc ms : Nat) (F : FT) (fo : Option HS) : Prop := F.2.2.2.1.sig.returnType = none ∧ F.2.2.2.2.2 = MQ F.2.2.1 (va_Qv (fun u => fo = some u) (Wd (eR E n mc)) (aN E n)) F.2.1 F.1.2.2.2.1 mc ms (aN E n) ∧ F.1.2.2.2.2.2.1 = aN E n
section CN
variable {E : ET} {F : FT} {nL : Nat} {cc : ByteArray} {own : String} {Ts : List Cond} {pc n b k s : Nat} {lv : List (Nat × Value)} {st As : List Value} {σ : HS}
theorem CoN.of {y : MethodName} {ws : List Cond} {rm : Room} {av : List Value} {fo : Option HS} {maxL mc ms : Nat} (hE : EO E) (hy : plainFor y = true) (hyn : y.name = "<init>") (hw : ws = Cond.code y cc maxL none :: Ts) (hl : (lg_sl av).length ≤ maxL) (hlv : lv_args 0 av = lv) (hb1 : ∀ j, n ≤ j → j < b → ¬ AL E j) (hb2 : ∀ j, n ≤ j → j < b → E.2.2.1 j + n = E.2.2.1 n + j) (hb3 : ∀ i j, E.2.2.1 i = E.2.2.1 j → i = j)
    (body : ∀ F : FT, Cx E F maxL cc y.cls Ts → BB E F n b → Ro F rm → RN E n mc ms F fo → F.2.2.2.1.name = "<init>" → AOK F.1.2.2.2.1 → G (eR E n 0) (fA F 0 0) 0 lv [] σ) : CoN E n mc ms y ws rm av σ fo := by
  refine va_MetF (cc := cc) (maxL := maxL) (ret := none) hy hw ?_
  intro p e s m args below meth c s₁ B hml hv
  obtain ⟨rfl, hsz, hao, hP, hK, hwf⟩ := hv
  have hts0 := atoms_spec (ws := ws) B.pre
  have hts : ∀ w ∈ Ts, w.before av.toArray s = true := fun w h => hts0 w (by rw [hw]; exact List.mem_cons_of_mem _ h)
  have hown : s.vm.findClass y.cls = some m.cls := findClass_of_methodNamed B.named
  have hin : meth.name = "<init>" := (name_of_methodNamed B.named B.method).1.trans hyn
  have hent := lv_entry av (n := maxL) hl
  rw [lg_entry_eq]
  have K := body ((p, e, (headSpec ws rm).room, s, m, aN E n, 0, 0), (av.toArray, below, meth, c, MQ below (va_Qv (fun u => fo = some u) (Wd (eR E n mc)) (aN E n)) av.toArray s mc ms (aN E n))) ⟨B.exec, B.bytes, hml, hown, hts, hK, hE, B.notSynchronized, fun k h => Or.inl ⟨k, h, rfl⟩, Nat.zero_le _, Nat.zero_le _⟩ ⟨hb1, hb2, hb3, hsz, rfl, rfl, fun q h => Or.inr h⟩ rfl ⟨B.returns, rfl, rfl⟩ hin hao
  rw [eR_0] at K
  exact K hwf s.heap [] _ hP va_S.rf (by show lv_has _ c.maxLocals lv; rw [hml, ← hlv]; exact hent)
theorem r_vret {mc ms : Nat} (hC : Cx E F nL cc own Ts) (hB : BB E F n b) {R : Room} (hO : Ro F R) {fo : Option HS} (hR : RN E n mc ms F fo) (hb : n + mc ≤ b) (h1 : mc ≤ R.cells) (h2 : ms ≤ R.slots) (hd : decode cc pc = .ok (.return_, 1)) (h : some σ = fo) : G (eR E n mc) (fA F mc ms) pc lv [] σ := by
  have hO1 : F.1.2.2.1 = R := hO
  have hC2 := cx_R (k := mc) (s := ms) hC hB hb (by rw [hO1]; exact h1) (by rw [hO1]; exact h2)
  intro hwf H locs ls hP hS hl
  have hq : (fA F mc ms).2.2.2.2.2 = MQ (fA F mc ms).2.2.1 (va_Qv (fun u => fo = some u) (Wd (eR E n mc)) (aN E n)) (fA F mc ms).2.1 (fA F mc ms).1.2.2.2.1 (fA F mc ms).1.2.2.2.2.2.2.1 (fA F mc ms).1.2.2.2.2.2.2.2 (aN E n) := by
    show F.2.2.2.2.2 = MQ F.2.2.1 _ F.2.1 F.1.2.2.2.1 (F.1.2.2.2.2.2.2.1 + mc) (F.1.2.2.2.2.2.2.2 + ms) (aN E n)
    rw [hB.2.2.2.2.1, hB.2.2.2.2.2.1, Nat.zero_add, Nat.zero_add]
    exact hR.2.1
  rw [hq]
  have hS2 : va_S (aN E n) F.1.2.2.2.1.heap H locs := by rw [← hR.2.2]; exact hS
  exact W.vret hC2.1 hC2.2.1 hR.1 (fun t ht hW => ⟨⟨σ, rfl, h.symm, by rw [ht]; exact hP, va_K.moved hW.alike hC2.2.2.2.2.2.1, hwf⟩, hS2.F ht⟩) hS2.2.2 hd hC2.2.2.2.2.2.2.2.1
theorem cn_blind (E : ET) (n : Nat) (av : List Value) (σ : HS) : FrameBlind (va_Pc av (fun U => U.heap.size = E.2.2.1 n ∧ AOK U ∧ Wd E σ U)) := fun a U g mk q => ⟨q.1, q.2.1, AOK.same (u := U) (U := U.calling g mk a) rfl q.2.2.1, q.2.2.2.1, va_K.moved (u := U) (U := U.calling g mk a) (Vm.Alike.refl U.vm) q.2.2.2.2.1, q.2.2.2.2.2⟩
/-- a constructor calls a constructor -/
theorem r_cN (hC : Cx E F nL cc own Ts) (hB : BB E F n b) {R : Room} (hO : Ro F R) (hao : AOK F.1.2.2.2.1) {y : MethodName} {ws : List Cond} {bytes : ByteArray} {maxL na index t n1 mc ms : Nat} {rm : Room} {fo : Option HS} {σ' : HS} (k' s' : Nat) (hn1 : n + k = n1) (hk' : k + mc = k') (hs' : s + ms = s') (hM : CoN (eR E n k) n1 mc ms y ws rm (.ref (E.2.2.1 t) :: As) σ fo) (hws : ws = Cond.code y bytes maxL none :: Ts) (hG : GoodIn Ts ws) (hini : Cond.initialized y.cls ∈ Ts) (hml : Cond.methodLink own index y ∈ Ts) (him : Cond.instanceMethod y ∈ Ts) (hyn : y.name = "<init>") (hpd : y.cls ≠ "java/lang/invoke/MethodHandle" ∧ y.cls ≠ "java/lang/invoke/VarHandle" ∧ (parseMethodDescriptor y.desc).map (fun d => d.parameters.length) = some na) (hrc : rm.cells = mc) (hrs : rm.slots = ms) (hrf : rm.frames + 1 ≤ R.frames) (hrl : 8 + (maxL + 11) + rm.locals ≤ R.locals) (h1 : k' ≤ R.cells) (h2 : s' ≤ R.slots) (hb : n1 + mc ≤ b) (hn : As.length = na) (hW : (st.map fun v => v.category).sum ≤ 8) (hd : decode cc pc = .ok (.invokespecial index, 3)) (hs : fo = some σ') (hnb : n1 < b) (kk : G (eR E n k') (fA F k' s') (pc + 3) lv st σ') : G (eR E n k) (fA F k s) pc lv (As.reverse ++ .ref (E.2.2.1 t) :: st) σ := by
  subst hn1; subst hk'; subst hs'
  have hO1 : F.1.2.2.1 = R := hO
  have hC2 := cx_R (k := k) (s := s) hC hB (by omega) (by rw [hO1]; omega) (by rw [hO1]; omega)
  intro hwf H locs ls hP hS hl
  refine W_sz (fun Tt hT X => ?_)
  have hsz := sz_of (sz_R (s := s) hB hnb) hP hS hT X
  have hts := hC2.2.2.2.2.1
  have hcr : (fA F k s).1.2.2.1 = R := hO1
  have cw := cwI (R := (fA F k s).1.2.2.1) (args := (fA F k s).2.1) (s := (fA F k s).1.2.2.2.1) (rm := rm) (mc := mc) (ms := ms) (own := own) (index := index) (y := y) (bytes := bytes) (maxL := maxL) na hts hG hws hrc hrs (hts _ hini) (hts _ hml) (hts _ him) hyn hpd (by rw [hcr]; exact ⟨hrf, hrl⟩)
  have hsub : ∀ q, aN (eR E n k) (n + k) q → (fA F k s).1.2.2.2.2.2.1 q := fun q h => by
    rcases h with ⟨j, h1, h2⟩ | h
    · rw [h2]; exact hC2.2.2.2.2.2.2.2.2.1 j h1
    · refine hB.2.2.2.2.2.2 q ?_
      have h : E.2.2.1 (n + k) ≤ q := h
      have := hB.2.1 (n + k) (by omega) hnb
      omega
  refine va_callv (va_runI (As := As) (rest := st) ⟨hC2.1, hC2.2.1, hC2.2.2.1, hC2.2.2.2.1, hC2.2.2.2.2.1⟩ hM cw ⟨cn_blind (eR E n k) (n + k) _ σ, fun U hU hW => ⟨rfl, by rw [hU]; exact hsz, AOK.warm hW hao, by rw [hU]; exact hP, va_K.moved hW.alike hC2.2.2.2.2.2.1, hwf⟩⟩ rfl hn (hl.1.trans hC2.2.2.1) rfl (lv_room hW) hd (by
      rw [hcr]
      show F.1.2.2.2.2.2.2.1 + k + mc ≤ R.cells ∧ F.1.2.2.2.2.2.2.2 + s + ms ≤ R.slots
      rw [hB.2.2.2.2.1, hB.2.2.2.2.2.1]
      omega)) hS (fun q _ h => hsub q h) hsub (fun u t1 H1 locs1 ht1 hvm hw1 hBB hz1 hk1 hS1 => ?_)
  rw [hs] at hw1
  cases hw1
  have e1 : eR (eR E n k) (n + k) mc = eR E n (k + mc) := eR_a E n k mc
  rw [e1] at hBB
  have kk2 := kk hBB.2.2 H1 locs1 ls (by rw [← ht1]; exact hBB.1) hS1 hl
  have e2 : fA F (k + mc) (s + ms) = fA (fA F k s) mc ms := (fA_a F k s mc ms).symm
  rw [e2] at kk2
  exact kk2
/-- a nest mate's -/
theorem r_cM (hC : Cx E F nL cc own Ts) (hB : BB E F n b) {R : Room} (hO : Ro F R) (hao : AOK F.1.2.2.2.1) {y : MethodName} {ws : List Cond} {bytes : ByteArray} {maxL na index t n1 mc ms : Nat} {rm : Room} {fo : Option HS} {σ' : HS} (k' s' : Nat) (hn1 : n + k = n1) (hk' : k + mc = k') (hs' : s + ms = s') (hM : CoN (eR E n k) n1 mc ms y ws rm (.ref (E.2.2.1 t) :: As) σ fo) (hws : ws = Cond.code y bytes maxL none :: Ts) (hG : GoodIn Ts ws) (hini : Cond.initialized y.cls ∈ Ts) (hml : va_Nw (.methodLinkNest own index y "EveryMeasure") F.1.2.2.2.1) (him : Cond.instanceMethod y ∈ Ts) (hyn : y.name = "<init>") (hpd : y.cls ≠ "java/lang/invoke/MethodHandle" ∧ y.cls ≠ "java/lang/invoke/VarHandle" ∧ (parseMethodDescriptor y.desc).map (fun d => d.parameters.length) = some na) (hrc : rm.cells = mc) (hrs : rm.slots = ms) (hrf : rm.frames + 1 ≤ R.frames) (hrl : 8 + (maxL + 11) + rm.locals ≤ R.locals) (h1 : k' ≤ R.cells) (h2 : s' ≤ R.slots) (hb : n1 + mc ≤ b) (hn : As.length = na) (hW : (st.map fun v => v.category).sum ≤ 8) (hd : decode cc pc = .ok (.invokespecial index, 3)) (hs : fo = some σ') (hnb : n1 < b) (kk : G (eR E n k') (fA F k' s') (pc + 3) lv st σ') : G (eR E n k) (fA F k s) pc lv (As.reverse ++ .ref (E.2.2.1 t) :: st) σ := by
  subst hn1; subst hk'; subst hs'
  have hO1 : F.1.2.2.1 = R := hO
  have hC2 := cx_R (k := k) (s := s) hC hB (by omega) (by rw [hO1]; omega) (by rw [hO1]; omega)
  intro hwf H locs ls hP hS hl
  refine W_sz (fun Tt hT X => ?_)
  have hsz := sz_of (sz_R (s := s) hB hnb) hP hS hT X
  have hts := hC2.2.2.2.2.1
  have hcr : (fA F k s).1.2.2.1 = R := hO1
  have cw := va_cnB (host := "EveryMeasure") (ret := none) (R := (fA F k s).1.2.2.1) (args := (fA F k s).2.1) (s := (fA F k s).1.2.2.2.1) (rm := rm) (mc := mc) (ms := ms) (own := own) (index := index) (y := y) (bytes := bytes) (maxL := maxL) na hts hG hws hrc hrs hml (hts _ hini) hpd (by rw [hcr]; exact ⟨hrf, hrl⟩)
  have hsub : ∀ q, aN (eR E n k) (n + k) q → (fA F k s).1.2.2.2.2.2.1 q := fun q h => by
    rcases h with ⟨j, h1, h2⟩ | h
    · rw [h2]; exact hC2.2.2.2.2.2.2.2.2.1 j h1
    · refine hB.2.2.2.2.2.2 q ?_
      have h : E.2.2.1 (n + k) ≤ q := h
      have := hB.2.1 (n + k) (by omega) hnb
      omega
  refine va_callv (va_runIN (As := As) (rest := st) ⟨hC2.1, hC2.2.1, hC2.2.2.1, hC2.2.2.2.1, hC2.2.2.2.2.1⟩ hM ⟨cw, hyn, hts _ him⟩ ⟨cn_blind (eR E n k) (n + k) _ σ, fun U hU hW => ⟨rfl, by rw [hU]; exact hsz, AOK.warm hW hao, by rw [hU]; exact hP, va_K.moved hW.alike hC2.2.2.2.2.2.1, hwf⟩⟩ rfl hn (hl.1.trans hC2.2.2.1) rfl (lv_room hW) hd (by
      rw [hcr]
      show F.1.2.2.2.2.2.2.1 + k + mc ≤ R.cells ∧ F.1.2.2.2.2.2.2.2 + s + ms ≤ R.slots
      rw [hB.2.2.2.2.1, hB.2.2.2.2.2.1]
      omega)) hS (fun q _ h => hsub q h) hsub (fun u t1 H1 locs1 ht1 hvm hw1 hBB hz1 hk1 hS1 => ?_)
  rw [hs] at hw1
  cases hw1
  have e1 : eR (eR E n k) (n + k) mc = eR E n (k + mc) := eR_a E n k mc
  rw [e1] at hBB
  have kk2 := kk hBB.2.2 H1 locs1 ls (by rw [← ht1]; exact hBB.1) hS1 hl
  have e2 : fA F (k + mc) (s + ms) = fA (fA F k s) mc ms := (fA_a F k s mc ms).symm
  rw [e2] at kk2
  exact kk2
end CN
