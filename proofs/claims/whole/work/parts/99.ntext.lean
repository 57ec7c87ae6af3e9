/-! the reader's constant Strings: where they lie, and what the JDK's own length and charAt answer of them -/
abbrev KT : Type := (Nat → Nat) × (Nat → Nat)
def bytS : List (List Int32) := [List.map mJ [108, 101, 115, 115], List.map mJ [99, 97, 112], List.map mJ [109, 117, 115, 116], List.map mJ [109, 111, 114, 101], List.map mJ [116, 119, 105, 99, 101], List.map mJ [98, 101, 116, 116, 101, 114], List.map mJ [115, 116, 101, 112], List.map mJ [108, 101, 97, 115, 116], List.map mJ [109, 111, 115, 116]]
def lenS : List Nat := [4, 3, 4, 4, 5, 6, 4, 5, 4]
def ixS : List Nat := [39, 48, 57, 92, 98, 100, 102, 106, 112]
def txS : List String := ["less", "cap", "must", "more", "twice", "better", "step", "least", "most"]
/-- the Strings, and two statics of the JDK's, as they are from the start on -/
def KS (K : KT) (A : Nat → Prop) (U : State) : Prop := vk_S 9 lenS bytS K.1 K.2 A U U.heap ∧ (∀ i, i < 9 → vk_R RX6 (ixS.getD i 0) (txS.getD i "") (K.1 i) U) ∧ va_Z "java/lang/String" "COMPACT_STRINGS" "Z" (.int 1) A U U.heap ∧ va_Zq "jdk/internal/util/Preconditions" "SIOOBE_FORMATTER" "Ljava/util/function/BiFunction;" A U U.heap
theorem ks_mv {K : KT} {A B : Nat → Prop} {U V : State} (h : KS K A U) (hAB : ∀ q, B q → A q) (hW : U.WarmedH V.vm) (hq : ∀ a : Nat, a < U.heap.size → ¬ A a → V.heap[a]? = U.heap[a]?) : KS K B V :=
  ⟨((vk_S.moved hW.alike h.1).kept hq).narrow hAB, fun i hi => vk_R.warm hW (h.2.1 i hi), ((va_Z.moved hW.alike h.2.2.1).kept hq).narrow hAB, ((va_Zq.moved hW.alike h.2.2.2).kept hq).narrow hAB⟩
theorem ks_call {K : KT} {A : Nat → Prop} {U V : State} (h : KS K A U) (h1 : V.vm = U.vm) (h2 : V.heap = U.heap) : KS K A V := by
  obtain ⟨a1, a2, a3, a4⟩ := h
  have hA : U.vm.Alike V.vm := by rw [h1]; exact Vm.Alike.refl U.vm
  refine ⟨?_, fun i hi => vk_R.same h1 (a2 i hi), ?_, ?_⟩
  · rw [h2]; exact vk_S.moved hA a1
  · rw [h2]; exact va_Z.moved hA a3
  · rw [h2]; exact va_Zq.moved hA a4
def WS (E : ET) (K : KT) (σ : HS) (U : State) : Prop := Wd E σ U ∧ KS K (aS E) U
def CsI (E : ET) (K : KT) (y : MethodName) (ws : List Cond) (rm : Room) (av : List Value) (σ : HS) (fo : Option (Int32 × HS)) : Prop := Met E.1 y ws rm (va_Pc av (WS E K σ)) (va_Qi (fun r u => fo = some (r, u)) (Wd E) (aS E)) 0 0 (aS E)
def CsV (E : ET) (K : KT) (y : MethodName) (ws : List Cond) (rm : Room) (av : List Value) (σ : HS) (fo : Option HS) : Prop := Met E.1 y ws rm (va_Pc av (WS E K σ)) (va_Qv (fun u => fo = some u) (Wd E) (aS E)) 0 0 (aS E)
theorem cs_blind (E : ET) (K : KT) (av : List Value) (σ : HS) : FrameBlind (va_Pc av (WS E K σ)) := fun a U g mk q => ⟨q.1, ⟨q.2.1.1, va_K.moved (u := U) (U := U.calling g mk a) (Vm.Alike.refl U.vm) q.2.1.2.1, q.2.1.2.2⟩, ks_call q.2.2 rfl rfl⟩
section CSO
variable {E : ET} {K : KT} {y : MethodName} {ws ws' : List Cond} {rm : Room} {av : List Value} {σ : HS} {cc : ByteArray} {maxL : Nat} {lv : List (Nat × Value)}
theorem cs_entry {Ts : List Cond} {Qc : Array Value → State → Outcome → State → Prop} {ret : Option FieldType} (hE : EO E) (hy : plainFor y = true) (hw : ws = Cond.code y cc maxL ret :: Ts) (hl : (lg_sl av).length ≤ maxL) (hlv : lv_args 0 av = lv)
    (body : ∀ F : FT, Cx E F maxL cc y.cls Ts → Ro F rm → F.2.2.2.1.sig.returnType = ret → F.2.2.2.2.2 = MQ F.2.2.1 Qc F.2.1 F.1.2.2.2.1 0 0 (aS E) → F.1.2.2.2.2.2 = (aS E, 0, 0) → KS K F.1.2.2.2.2.2.1 F.1.2.2.2.1 → G E F 0 lv [] σ) : Met E.1 y ws rm (va_Pc av (WS E K σ)) Qc 0 0 (aS E) := by
  refine va_MetF (cc := cc) (maxL := maxL) (ret := ret) hy hw ?_
  intro p e s m args below meth c s₁ B hml hv
  obtain ⟨rfl, ⟨hP, hK, hwf⟩, hX⟩ := hv
  have hts0 := atoms_spec (ws := ws) B.pre
  have hts : ∀ w ∈ Ts, w.before av.toArray s = true := fun w h => hts0 w (by rw [hw]; exact List.mem_cons_of_mem _ h)
  have hown : s.vm.findClass y.cls = some m.cls := findClass_of_methodNamed B.named
  have hent := lv_entry av (n := maxL) hl
  rw [lg_entry_eq]
  exact body ((p, e, (headSpec ws rm).room, s, m, aS E, 0, 0), (av.toArray, below, meth, c, MQ below Qc av.toArray s 0 0 (aS E))) ⟨B.exec, B.bytes, hml, hown, hts, hK, hE, B.notSynchronized, fun k h => ⟨k, h, rfl⟩, Nat.zero_le _, Nat.zero_le _⟩ rfl B.returns rfl rfl hX hwf s.heap [] _ hP va_S.rf (by rw [hml, ← hlv]; exact hent)
theorem CsI.of {Ts : List Cond} {ty : FieldType} {fo : Option (Int32 × HS)} (hE : EO E) (hy : plainFor y = true) (hw : ws = Cond.code y cc maxL (some ty) :: Ts) (hl : (lg_sl av).length ≤ maxL) (hlv : lv_args 0 av = lv) (body : ∀ F : FT, Cx E F maxL cc y.cls Ts → Ro F rm → RI E F ty fo → KS K F.1.2.2.2.2.2.1 F.1.2.2.2.1 → G E F 0 lv [] σ) : CsI E K y ws rm av σ fo := cs_entry hE hy hw hl hlv (fun F h1 h2 h3 h4 h5 h6 => body F h1 h2 ⟨h3, by rw [h4, h5]⟩ h6)
theorem CsV.of {Ts : List Cond} {fo : Option HS} (hE : EO E) (hy : plainFor y = true) (hw : ws = Cond.code y cc maxL none :: Ts) (hl : (lg_sl av).length ≤ maxL) (hlv : lv_args 0 av = lv) (body : ∀ F : FT, Cx E F maxL cc y.cls Ts → Ro F rm → RV E F fo → KS K F.1.2.2.2.2.2.1 F.1.2.2.2.1 → G E F 0 lv [] σ) : CsV E K y ws rm av σ fo := cs_entry hE hy hw hl hlv (fun F h1 h2 h3 h4 h5 h6 => body F h1 h2 ⟨h3, by rw [h4, h5]⟩ h6)
end CSO
section GSX
variable {E : ET} {F : FT} {K : KT} {nL : Nat} {cc : ByteArray} {own : String} {Ts : List Cond} {pc : Nat} {lv : List (Nat × Value)} {st As : List Value} {σ : HS} {R : Room}
variable {y : MethodName} {bytes : ByteArray} {maxL n index t ci N b : Nat} {T : u_T} {ret : Option FieldType} {ws ws' : List Cond} {rm : Room}
/-- a receiver -/
def RB (E : ET) (F : FT) (σ : HS) (C : String) (b : Nat) : Prop := ∀ (H : Heap) (locs : List Loc), va_P E.2.1 vwCl (wl E σ) H → va_S F.1.2.2.2.2.2.1 F.1.2.2.2.1.heap H locs → ∃ cell : Cell, H[b]? = some cell ∧ cell.vm.isStatics = false ∧ F.1.2.2.2.1.vm.findClass C = some cell.cls
theorem rb_al (hC : Cx E F nL cc own Ts) {C : String} (hr : cr ci C T N) (hk : kd t = ci) (ht : AL E t) : RB E F σ C (E.2.2.1 t) := fun H locs hP hS => va_recv hC.2.2.2.2.2.1 hP (ci := ci) (q0 := (al_at ht).choose) hr.1 (by rw [wl_at σ (al_at ht).choose_spec, ce_o hk hr.2.2])
theorem rb_st (hX : KS K F.1.2.2.2.2.2.1 F.1.2.2.2.1) {i : Nat} (hi : i < 9) : RB E F σ RJ0 (K.1 i) := fun H locs hP hS => vk_recv hX.1 hi hS
theorem ks_at (hC : Cx E F nL cc own Ts) (hX : KS K F.1.2.2.2.2.2.1 F.1.2.2.2.1) {H : Heap} {locs : List Loc} (hS : va_S F.1.2.2.2.2.2.1 F.1.2.2.2.1.heap H locs) {U : State} (hU : U.heap = H) (hW : F.1.2.2.2.1.WarmedH U.vm) : KS K (aS E) U :=
  ks_mv hX (fun q h => by obtain ⟨k, h1, h2⟩ := h; rw [h2]; exact hC.2.2.2.2.2.2.2.2.1 k h1) hW (fun a h1 h2 => by rw [hU]; exact hS.2.1 a h1 h2)
theorem x_preV (hC : Cx E F nL cc own Ts) (hX : KS K F.1.2.2.2.2.2.1 F.1.2.2.2.1) {H : Heap} {locs : List Loc} {C : String} (hwf : wf E σ) (hP : va_P E.2.1 vwCl (wl E σ) H) (hS : va_S F.1.2.2.2.2.2.1 F.1.2.2.2.1.heap H locs) (hb : RB E F σ C b) : PreV F.1.2.2.2.1 H C b (va_Pc (.ref b :: As) (WS E K σ)) As :=
  ⟨cs_blind E K _ σ, hb H locs hP hS, fun U hU hW => ⟨rfl, ⟨by rw [hU]; exact hP, va_K.moved hW.alike hC.2.2.2.2.2.1, hwf⟩, ks_at hC hX hS hU hW⟩⟩
theorem x_preS (hC : Cx E F nL cc own Ts) (hX : KS K F.1.2.2.2.2.2.1 F.1.2.2.2.1) {H : Heap} {locs : List Loc} (hwf : wf E σ) (hP : va_P E.2.1 vwCl (wl E σ) H) (hS : va_S F.1.2.2.2.2.2.1 F.1.2.2.2.1.heap H locs) : PreS F.1.2.2.2.1 H (va_Pc As (WS E K σ)) As :=
  ⟨cs_blind E K _ σ, fun U hU hW => ⟨rfl, ⟨by rw [hU]; exact hP, va_K.moved hW.alike hC.2.2.2.2.2.1, hwf⟩, ks_at hC hX hS hU hW⟩⟩
theorem g_xVI (hC : Cx E F nL cc own Ts) (hO : Ro F R) (hX : KS K F.1.2.2.2.2.2.1 F.1.2.2.2.1) {fo : Option (Int32 × HS)} {r : Int32} {σ' : HS} (hM : CsI E K y ws rm (.ref b :: As) σ fo) (hT : GoodIn Ts (wsV own index y.cls y ws)) (hw : xw R y ws ws' bytes maxL ret rm n) (hb : RB E F σ y.cls b) (hn : As.length = n) (hW : (st.map fun v => v.category).sum ≤ 20) (hd : decode cc pc = .ok (.invokevirtual index, 3)) (hs : fo = some (r, σ')) (kk : G E F (pc + 3) lv (.int r :: st) σ') : G E F pc lv (As.reverse ++ .ref b :: st) σ := by
  intro hwf H locs ls hP hS hl
  refine va_calli (x_runV ⟨hC.1, hC.2.1, hC.2.2.1, hC.2.2.2.1, hC.2.2.2.2.1⟩ hM hT (hO ▸ hw) (x_preV hC hX hwf hP hS hb) ⟨hC.2.2.2.2.2.2.2.2.2.1, hC.2.2.2.2.2.2.2.2.2.2⟩ hn (hl.1.trans hC.2.2.1) hW hd) hS (fun q _ h => by obtain ⟨k, h1, h2⟩ := h; rw [h2]; exact hC.2.2.2.2.2.2.2.2.1 k h1) (fun q h => by obtain ⟨k, h1, h2⟩ := h; rw [h2]; exact hC.2.2.2.2.2.2.2.2.1 k h1) (fun r1 u t1 H1 locs1 ht1 hvm hw1 hB hz1 hk1 hS1 => ?_)
  rw [hs] at hw1
  cases hw1
  exact kk hB.2.2 H1 locs1 ls (by rw [← ht1]; exact hB.1) hS1 hl
theorem g_xVV (hC : Cx E F nL cc own Ts) (hO : Ro F R) (hX : KS K F.1.2.2.2.2.2.1 F.1.2.2.2.1) {fo : Option HS} {σ' : HS} (hM : CsV E K y ws rm (.ref b :: As) σ fo) (hT : GoodIn Ts (wsV own index y.cls y ws)) (hw : xw R y ws ws' bytes maxL ret rm n) (hb : RB E F σ y.cls b) (hn : As.length = n) (hW : (st.map fun v => v.category).sum ≤ 20) (hd : decode cc pc = .ok (.invokevirtual index, 3)) (hs : fo = some σ') (kk : G E F (pc + 3) lv st σ') : G E F pc lv (As.reverse ++ .ref b :: st) σ := by
  intro hwf H locs ls hP hS hl
  refine va_callv (x_runV ⟨hC.1, hC.2.1, hC.2.2.1, hC.2.2.2.1, hC.2.2.2.2.1⟩ hM hT (hO ▸ hw) (x_preV hC hX hwf hP hS hb) ⟨hC.2.2.2.2.2.2.2.2.2.1, hC.2.2.2.2.2.2.2.2.2.2⟩ hn (hl.1.trans hC.2.2.1) hW hd) hS (fun q _ h => by obtain ⟨k, h1, h2⟩ := h; rw [h2]; exact hC.2.2.2.2.2.2.2.2.1 k h1) (fun q h => by obtain ⟨k, h1, h2⟩ := h; rw [h2]; exact hC.2.2.2.2.2.2.2.2.1 k h1) (fun u t1 H1 locs1 ht1 hvm hw1 hB hz1 hk1 hS1 => ?_)
  rw [hs] at hw1
  cases hw1
  exact kk hB.2.2 H1 locs1 ls (by rw [← ht1]; exact hB.1) hS1 hl
theorem g_xSI (hC : Cx E F nL cc own Ts) (hO : Ro F R) (hX : KS K F.1.2.2.2.2.2.1 F.1.2.2.2.1) {fo : Option (Int32 × HS)} {r : Int32} {σ' : HS} (hM : CsI E K y ws rm As σ fo) (hT : GoodIn Ts (va_wsS own index y ws)) (hw : xw R y ws ws' bytes maxL ret rm n) (hn : As.length = n) (hW : (st.map fun v => v.category).sum ≤ 20) (hd : decode cc pc = .ok (.invokestatic index, 3)) (hs : fo = some (r, σ')) (kk : G E F (pc + 3) lv (.int r :: st) σ') : G E F pc lv (As.reverse ++ st) σ := by
  intro hwf H locs ls hP hS hl
  refine va_calli (x_runS ⟨hC.1, hC.2.1, hC.2.2.1, hC.2.2.2.1, hC.2.2.2.2.1⟩ hM hT (hO ▸ hw) (x_preS hC hX hwf hP hS) ⟨hC.2.2.2.2.2.2.2.2.2.1, hC.2.2.2.2.2.2.2.2.2.2⟩ hn (hl.1.trans hC.2.2.1) hW hd) hS (fun q _ h => by obtain ⟨k, h1, h2⟩ := h; rw [h2]; exact hC.2.2.2.2.2.2.2.2.1 k h1) (fun q h => by obtain ⟨k, h1, h2⟩ := h; rw [h2]; exact hC.2.2.2.2.2.2.2.2.1 k h1) (fun r1 u t1 H1 locs1 ht1 hvm hw1 hB hz1 hk1 hS1 => ?_)
  rw [hs] at hw1
  cases hw1
  exact kk hB.2.2 H1 locs1 ls (by rw [← ht1]; exact hB.1) hS1 hl
theorem g_xSV (hC : Cx E F nL cc own Ts) (hO : Ro F R) (hX : KS K F.1.2.2.2.2.2.1 F.1.2.2.2.1) {fo : Option HS} {σ' : HS} (hM : CsV E K y ws rm As σ fo) (hT : GoodIn Ts (va_wsS own index y ws)) (hw : xw R y ws ws' bytes maxL ret rm n) (hn : As.length = n) (hW : (st.map fun v => v.category).sum ≤ 20) (hd : decode cc pc = .ok (.invokestatic index, 3)) (hs : fo = some σ') (kk : G E F (pc + 3) lv st σ') : G E F pc lv (As.reverse ++ st) σ := by
  intro hwf H locs ls hP hS hl
  refine va_callv (x_runS ⟨hC.1, hC.2.1, hC.2.2.1, hC.2.2.2.1, hC.2.2.2.2.1⟩ hM hT (hO ▸ hw) (x_preS hC hX hwf hP hS) ⟨hC.2.2.2.2.2.2.2.2.2.1, hC.2.2.2.2.2.2.2.2.2.2⟩ hn (hl.1.trans hC.2.2.1) hW hd) hS (fun q _ h => by obtain ⟨k, h1, h2⟩ := h; rw [h2]; exact hC.2.2.2.2.2.2.2.2.1 k h1) (fun q h => by obtain ⟨k, h1, h2⟩ := h; rw [h2]; exact hC.2.2.2.2.2.2.2.2.1 k h1) (fun u t1 H1 locs1 ht1 hvm hw1 hB hz1 hk1 hS1 => ?_)
  rw [hs] at hw1
  cases hw1
  exact kk hB.2.2 H1 locs1 ls (by rw [← ht1]; exact hB.1) hS1 hl
theorem g_cSV (hC : Cx E F nL cc own Ts) (hO : Ro F R) {fo : Option HS} {σ' : HS} (hM : CoV E y ws rm As σ fo) (hT : GoodIn Ts (va_wsS own index y ws)) (hw : xw R y ws ws' bytes maxL ret rm n) (hn : As.length = n) (hW : (st.map fun v => v.category).sum ≤ 20) (hd : decode cc pc = .ok (.invokestatic index, 3)) (hs : fo = some σ') (kk : G E F (pc + 3) lv st σ') : G E F pc lv (As.reverse ++ st) σ := by
  intro hwf H locs ls hP hS hl
  refine va_callv (x_runS ⟨hC.1, hC.2.1, hC.2.2.1, hC.2.2.2.1, hC.2.2.2.2.1⟩ hM hT (hO ▸ hw) (g_preS hC hwf hP) ⟨hC.2.2.2.2.2.2.2.2.2.1, hC.2.2.2.2.2.2.2.2.2.2⟩ hn (hl.1.trans hC.2.2.1) hW hd) hS (fun q _ h => by obtain ⟨k, h1, h2⟩ := h; rw [h2]; exact hC.2.2.2.2.2.2.2.2.1 k h1) (fun q h => by obtain ⟨k, h1, h2⟩ := h; rw [h2]; exact hC.2.2.2.2.2.2.2.2.1 k h1) (fun u t1 H1 locs1 ht1 hvm hw1 hB hz1 hk1 hS1 => ?_)
  rw [hs] at hw1
  cases hw1
  exact kk hB.2.2 H1 locs1 ls (by rw [← ht1]; exact hB.1) hS1 hl
theorem g_ldcS (hC : Cx E F nL cc RX6 Ts) (hX : KS K F.1.2.2.2.2.2.1 F.1.2.2.2.1) {i : Nat} (hi : i < 9) (hd : decode cc pc = .ok (.ldc (ixS.getD i 0), 2)) (kk : G E F (pc + 2) lv (.ref (K.1 i) :: st) σ) : G E F pc lv st σ := fun hwf H locs ls hP hS hl => va_ldcS hC.1 hC.2.1 hC.2.2.2.1 (hX.2.1 i hi) hd (kk hwf H locs ls hP hS hl)
theorem g_getZ (hC : Cx E F nL cc own Ts) {C fn fd ref : String} {v : Value} (hZ : va_Z C fn fd v F.1.2.2.2.2.2.1 F.1.2.2.2.1 F.1.2.2.2.1.heap) (hw : Cond.fieldLink own index ref fn fd ∈ Ts) (hr : ref = C) (hd : decode cc pc = .ok (.getstatic index, 3)) (kk : G E F (pc + 3) lv (v :: st) σ) : G E F pc lv st σ := fun hwf H locs ls hP hS hl => va_gets hC.1 hC.2.1 hZ hS hC.2.2.2.1 (hC.2.2.2.2.1 _ hw) (by rw [hr]; exact fun _ h => h) hd (kk hwf H locs ls hP hS hl)
theorem g_getT (hC : Cx E F nL cc own Ts) {C fn fd ref : String} {v : Value} {q : Nat} (hT : va_OF C fn fd v q F.1.2.2.2.2.2.1 F.1.2.2.2.1 F.1.2.2.2.1.heap) (hw : Cond.fieldLink own index ref fn fd ∈ Ts) (hr : ref = C) (hd : decode cc pc = .ok (.getfield index, 3)) (kk : G E F (pc + 3) lv (v :: st) σ) : G E F pc lv (.ref q :: st) σ := fun hwf H locs ls hP hS hl => vk_getf hC.1 hC.2.1 hT hS hC.2.2.2.1 (hC.2.2.2.2.1 _ hw) (by rw [hr]; exact fun _ h => h) hd (kk hwf H locs ls hP hS hl)
theorem g_tlen (hC : Cx E F nL cc own Ts) {ty : FieldType} {q M : Nat} {f : Nat → Value} (hT : va_T ty q M f F.1.2.2.2.2.2.1 F.1.2.2.2.1 F.1.2.2.2.1.heap) (hd : decode cc pc = .ok (.arraylength, 1)) (kk : G E F (pc + 1) lv (.int (Int32.ofNat M) :: st) σ) : G E F pc lv (.ref q :: st) σ := fun hwf H locs ls hP hS hl => va_tlen hC.1 hC.2.1 hT hS rfl hd (kk hwf H locs ls hP hS hl)
theorem g_tb (hC : Cx E F nL cc own Ts) {q M : Nat} {f : Nat → Value} {i : Int32} {v : Value} (hT : va_T .byte q M f F.1.2.2.2.2.2.1 F.1.2.2.2.1 F.1.2.2.2.1.heap) (hin : vp_in i M) (hv : f i.toNatClampNeg = v) (hd : decode cc pc = .ok (.baload, 1)) (kk : G E F (pc + 1) lv (v :: st) σ) : G E F pc lv (.int i :: .ref q :: st) σ := fun hwf H locs ls hP hS hl => va_tb hC.1 hC.2.1 hT hS hin hv hd (kk hwf H locs ls hP hS hl)
theorem g_i2c (hC : Cx E F nL cc own Ts) {x : Int32} (hd : decode cc pc = .ok (.i2c, 1)) (kk : G E F (pc + 1) lv (.int ((x.toUInt32 % 65536).toInt32) :: st) σ) : G E F pc lv (.int x :: st) σ := fun hwf H locs ls hP hS hl => lv_i2c hC.1 hC.2.1 hd rfl (kk hwf H locs ls hP hS hl)
end GSX
def w_J3_checkIndex_8e157 : List Cond := Cond.code yJ3_checkIndex_8e157 cJ3_checkIndex_8e157 3 (some .int) :: GT
def rm_J3_checkIndex_8e157 : Room := { frames := 0, cells := 0, slots := 0, locals := 0 }
theorem xk_J3_checkIndex_8e157 (R : Room) (h1 : 0 + 1 ≤ R.frames) (h2 : 34 ≤ R.locals) : xw R yJ3_checkIndex_8e157 w_J3_checkIndex_8e157 GT cJ3_checkIndex_8e157 3 (some .int) rm_J3_checkIndex_8e157 3 := ⟨rfl, rfl, rfl, h1, h2, ⟨by decide, by decide⟩, by decide +kernel⟩
theorem wc_J3_checkIndex_8e157 : Cond.code yJ3_checkIndex_8e157 cJ3_checkIndex_8e157 3 (some .int) ∈ GT := gtr_16 _ (List.mem_of_getElem? (i := 6) rfl)
def w_J0_checkIndex_df160 : List Cond := Cond.code yJ0_checkIndex_df160 cJ0_checkIndex_df160 2 none :: GT
def rm_J0_checkIndex_df160 : Room := { frames := 1, cells := 0, slots := 0, locals := 34 }
theorem xk_J0_checkIndex_df160 (R : Room) (h1 : 1 + 1 ≤ R.frames) (h2 : 67 ≤ R.locals) : xw R yJ0_checkIndex_df160 w_J0_checkIndex_df160 GT cJ0_checkIndex_df160 2 none rm_J0_checkIndex_df160 2 := ⟨rfl, rfl, rfl, h1, h2, ⟨by decide, by decide⟩, by decide +kernel⟩
theorem wc_J0_checkIndex_df160 : Cond.code yJ0_checkIndex_df160 cJ0_checkIndex_df160 2 none ∈ GT := gtr_16 _ (List.mem_of_getElem? (i := 1) rfl)
def w_J1_charAt_3b067 : List Cond := Cond.code yJ1_charAt_3b067 cJ1_charAt_3b067 2 (some .char) :: GT
def rm_J1_charAt_3b067 : Room := { frames := 2, cells := 0, slots := 0, locals := 67 }
theorem xk_J1_charAt_3b067 (R : Room) (h1 : 2 + 1 ≤ R.frames) (h2 : 100 ≤ R.locals) : xw R yJ1_charAt_3b067 w_J1_charAt_3b067 GT cJ1_charAt_3b067 2 (some .char) rm_J1_charAt_3b067 2 := ⟨rfl, rfl, rfl, h1, h2, ⟨by decide, by decide⟩, by decide +kernel⟩
theorem wc_J1_charAt_3b067 : Cond.code yJ1_charAt_3b067 cJ1_charAt_3b067 2 (some .char) ∈ GT := gtr_15 _ (List.mem_of_getElem? (i := 22) rfl)
def w_J0_coder_7d493 : List Cond := Cond.code yJ0_coder_7d493 cJ0_coder_7d493 1 (some .byte) :: GT
def rm_J0_coder_7d493 : Room := { frames := 0, cells := 0, slots := 0, locals := 0 }
theorem xk_J0_coder_7d493 (R : Room) (h1 : 0 + 1 ≤ R.frames) (h2 : 32 ≤ R.locals) : xw R yJ0_coder_7d493 w_J0_coder_7d493 GT cJ0_coder_7d493 1 (some .byte) rm_J0_coder_7d493 0 := ⟨rfl, rfl, rfl, h1, h2, ⟨by decide, by decide⟩, by decide +kernel⟩
theorem wc_J0_coder_7d493 : Cond.code yJ0_coder_7d493 cJ0_coder_7d493 1 (some .byte) ∈ GT := gtr_15 _ (List.mem_of_getElem? (i := 8) rfl)
def w_J0_isLatin1_aae02 : List Cond := Cond.code yJ0_isLatin1_aae02 cJ0_isLatin1_aae02 1 (some .boolean) :: GT
def rm_J0_isLatin1_aae02 : Room := { frames := 0, cells := 0, slots := 0, locals := 0 }
theorem xk_J0_isLatin1_aae02 (R : Room) (h1 : 0 + 1 ≤ R.frames) (h2 : 32 ≤ R.locals) : xw R yJ0_isLatin1_aae02 w_J0_isLatin1_aae02 GT cJ0_isLatin1_aae02 1 (some .boolean) rm_J0_isLatin1_aae02 0 := ⟨rfl, rfl, rfl, h1, h2, ⟨by decide, by decide⟩, by decide +kernel⟩
theorem wc_J0_isLatin1_aae02 : Cond.code yJ0_isLatin1_aae02 cJ0_isLatin1_aae02 1 (some .boolean) ∈ GT := gtr_15 _ (List.mem_of_getElem? (i := 18) rfl)
def w_J0_length_8abf5 : List Cond := Cond.code yJ0_length_8abf5 cJ0_length_8abf5 1 (some .int) :: GT
def rm_J0_length_8abf5 : Room := { frames := 1, cells := 0, slots := 0, locals := 32 }
theorem xk_J0_length_8abf5 (R : Room) (h1 : 1 + 1 ≤ R.frames) (h2 : 64 ≤ R.locals) : xw R yJ0_length_8abf5 w_J0_length_8abf5 GT cJ0_length_8abf5 1 (some .int) rm_J0_length_8abf5 0 := ⟨rfl, rfl, rfl, h1, h2, ⟨by decide, by decide⟩, by decide +kernel⟩
theorem wc_J0_length_8abf5 : Cond.code yJ0_length_8abf5 cJ0_length_8abf5 1 (some .int) ∈ GT := gtr_15 _ (List.mem_of_getElem? (i := 3) rfl)
def w_J0_charAt_5068e : List Cond := Cond.code yJ0_charAt_5068e cJ0_charAt_5068e 2 (some .char) :: GT
def rm_J0_charAt_5068e : Room := { frames := 3, cells := 0, slots := 0, locals := 100 }
theorem xk_J0_charAt_5068e (R : Room) (h1 : 3 + 1 ≤ R.frames) (h2 : 133 ≤ R.locals) : xw R yJ0_charAt_5068e w_J0_charAt_5068e GT cJ0_charAt_5068e 2 (some .char) rm_J0_charAt_5068e 1 := ⟨rfl, rfl, rfl, h1, h2, ⟨by decide, by decide⟩, by decide +kernel⟩
theorem wc_J0_charAt_5068e : Cond.code yJ0_charAt_5068e cJ0_charAt_5068e 2 (some .char) ∈ GT := gtr_15 _ (List.mem_of_getElem? (i := 14) rfl)
def w_X8_says : List Cond := Cond.code yX8_says cX8_says 3 (some .boolean) :: GT
def rm_X8_says : Room := { frames := 4, cells := 0, slots := 0, locals := 133 }
theorem xk_X8_says (R : Room) (h1 : 4 + 1 ≤ R.frames) (h2 : 167 ≤ R.locals) : xw R yX8_says w_X8_says GT cX8_says 3 (some .boolean) rm_X8_says 1 := ⟨rfl, rfl, rfl, h1, h2, ⟨by decide, by decide⟩, by decide +kernel⟩
theorem wc_X8_says : Cond.code yX8_says cX8_says 3 (some .boolean) ∈ GT := gtr_14 _ (List.mem_of_getElem? (i := 22) rfl)
theorem gc_J0_1059 : GoodIn GT (va_wsS RJ0 1059 yJ3_checkIndex_8e157 w_J3_checkIndex_8e157) := gi_S (gtr_16 _ (List.mem_of_getElem? (i := 3) rfl)) (gtr_16 _ (List.mem_of_getElem? (i := 4) rfl)) (gtr_16 _ (List.mem_of_getElem? (i := 5) rfl)) wc_J3_checkIndex_8e157
theorem gc_J1_9 : GoodIn GT (va_wsS RJ1 9 yJ0_checkIndex_df160 w_J0_checkIndex_df160) := gi_S (gtr_15 _ (List.mem_of_getElem? (i := 23) rfl)) (gtr_16 _ (List.mem_of_getElem? (i := 0) rfl)) (gtr_15 _ (List.mem_of_getElem? (i := 2) rfl)) wc_J0_checkIndex_df160
theorem gc_J0_335 : GoodIn GT (wsV RJ0 335 RJ0 yJ0_coder_7d493 w_J0_coder_7d493) := gi_V (gtr_15 _ (List.mem_of_getElem? (i := 5) rfl)) (gtr_15 _ (List.mem_of_getElem? (i := 6) rfl)) (gtr_15 _ (List.mem_of_getElem? (i := 7) rfl)) (gtr_15 _ (List.mem_of_getElem? (i := 2) rfl)) wc_J0_coder_7d493
theorem gc_J0_492 : GoodIn GT (wsV RJ0 492 RJ0 yJ0_isLatin1_aae02 w_J0_isLatin1_aae02) := gi_V (gtr_15 _ (List.mem_of_getElem? (i := 15) rfl)) (gtr_15 _ (List.mem_of_getElem? (i := 16) rfl)) (gtr_15 _ (List.mem_of_getElem? (i := 17) rfl)) (gtr_15 _ (List.mem_of_getElem? (i := 2) rfl)) wc_J0_isLatin1_aae02
theorem gc_J0_495 : GoodIn GT (va_wsS RJ0 495 yJ1_charAt_3b067 w_J1_charAt_3b067) := gi_S (gtr_15 _ (List.mem_of_getElem? (i := 19) rfl)) (gtr_15 _ (List.mem_of_getElem? (i := 20) rfl)) (gtr_15 _ (List.mem_of_getElem? (i := 21) rfl)) wc_J1_charAt_3b067
theorem gc_X8_41 : GoodIn GT (wsV RX8 41 RJ0 yJ0_length_8abf5 w_J0_length_8abf5) := gi_V (gtr_14 _ (List.mem_of_getElem? (i := 23) rfl)) (gtr_15 _ (List.mem_of_getElem? (i := 0) rfl)) (gtr_15 _ (List.mem_of_getElem? (i := 1) rfl)) (gtr_15 _ (List.mem_of_getElem? (i := 2) rfl)) wc_J0_length_8abf5
theorem gc_X8_46 : GoodIn GT (wsV RX8 46 RJ0 yJ0_charAt_5068e w_J0_charAt_5068e) := gi_V (gtr_15 _ (List.mem_of_getElem? (i := 11) rfl)) (gtr_15 _ (List.mem_of_getElem? (i := 12) rfl)) (gtr_15 _ (List.mem_of_getElem? (i := 13) rfl)) (gtr_15 _ (List.mem_of_getElem? (i := 2) rfl)) wc_J0_charAt_5068e
theorem fl_J0_38 : Cond.fieldLink RJ0 38 "java/lang/String" "COMPACT_STRINGS" "Z" ∈ GT := gtr_15 _ (List.mem_of_getElem? (i := 9) rfl)
theorem fl_J0_15 : Cond.fieldLink RJ0 15 "java/lang/String" "coder" "B" ∈ GT := gtr_15 _ (List.mem_of_getElem? (i := 10) rfl)
theorem fl_J0_9 : Cond.fieldLink RJ0 9 "java/lang/String" "value" "[B" ∈ GT := gtr_15 _ (List.mem_of_getElem? (i := 4) rfl)
theorem fl_J0_1053 : Cond.fieldLink RJ0 1053 "jdk/internal/util/Preconditions" "SIOOBE_FORMATTER" "Ljava/util/function/BiFunction;" ∈ GT := gtr_16 _ (List.mem_of_getElem? (i := 2) rfl)
set_option maxHeartbeats 4000000 in
set_option maxRecDepth 100000 in
theorem c_J3_checkIndex_8e157 (E : ET) (hE : EO E) (i n : Int32) (v : Value) (hv : v = .null ∨ ∃ t, v = .ref t) (h0 : ¬ i < 0) (h1 : i < n) (σ : HS) : CoI E yJ3_checkIndex_8e157 w_J3_checkIndex_8e157 rm_J3_checkIndex_8e157 [.int i, .int n, v] σ (some (i, σ)) := by
  rcases hv with rfl | ⟨t, rfl⟩
  · refine CoI.of (lv := [(0, .int i), (1, .int n), (2, .null)]) hE (by decide +kernel) rfl (Nat.le_of_ble_eq_true rfl) rfl (fun F hC hO hR => ?_)
    refine g_iload_n hC dJ3_checkIndex_8e157_0 rfl 0 rfl ?_
    refine g_if_lt (tgt := 9) (a := none) (b := some ()) (fo := some ()) hC dJ3_checkIndex_8e157_1 (by decide) (if_neg h0) (fun c _ => absurd c h0) (fun _ _ => ?_)
    refine g_iload_n hC dJ3_checkIndex_8e157_4 rfl 0 rfl ?_
    refine g_iload_n hC dJ3_checkIndex_8e157_5 rfl 1 rfl ?_
    refine g_icmp_lt (tgt := 16) (a := some ()) (b := none) (fo := some ()) hC dJ3_checkIndex_8e157_6 (by decide) (if_pos h1) (fun _ _ => ?_) (fun c _ => absurd h1 c)
    refine g_iload_n hC dJ3_checkIndex_8e157_16 rfl 0 rfl ?_
    exact g_iret hC hR dJ3_checkIndex_8e157_17 rfl rfl
  · refine CoI.of (lv := [(0, .int i), (1, .int n), (2, .ref t)]) hE (by decide +kernel) rfl (Nat.le_of_ble_eq_true rfl) rfl (fun F hC hO hR => ?_)
    refine g_iload_n hC dJ3_checkIndex_8e157_0 rfl 0 rfl ?_
    refine g_if_lt (tgt := 9) (a := none) (b := some ()) (fo := some ()) hC dJ3_checkIndex_8e157_1 (by decide) (if_neg h0) (fun c _ => absurd c h0) (fun _ _ => ?_)
    refine g_iload_n hC dJ3_checkIndex_8e157_4 rfl 0 rfl ?_
    refine g_iload_n hC dJ3_checkIndex_8e157_5 rfl 1 rfl ?_
    refine g_icmp_lt (tgt := 16) (a := some ()) (b := none) (fo := some ()) hC dJ3_checkIndex_8e157_6 (by decide) (if_pos h1) (fun _ _ => ?_) (fun c _ => absurd h1 c)
    refine g_iload_n hC dJ3_checkIndex_8e157_16 rfl 0 rfl ?_
    exact g_iret hC hR dJ3_checkIndex_8e157_17 rfl rfl
set_option maxHeartbeats 4000000 in
set_option maxRecDepth 100000 in
theorem c_J0_checkIndex_df160 (E : ET) (hE : EO E) (K : KT) (i n : Int32) (h0 : ¬ i < 0) (h1 : i < n) (σ : HS) : CsV E K yJ0_checkIndex_df160 w_J0_checkIndex_df160 rm_J0_checkIndex_df160 [.int i, .int n] σ (some σ) := by
  refine CsV.of (lv := [(0, .int i), (1, .int n)]) hE (by decide +kernel) rfl (Nat.le_of_ble_eq_true rfl) rfl (fun F hC hO hR hX => ?_)
  rcases hX.2.2.2 with hZ | ⟨t, hZ⟩
  · refine g_iload_n hC dJ0_checkIndex_df160_0 rfl 0 rfl ?_
    refine g_iload_n hC dJ0_checkIndex_df160_1 rfl 1 rfl ?_
    refine g_getZ hC hZ fl_J0_1053 rfl dJ0_checkIndex_df160_2 ?_
    refine g_cSI (As := [.int i, .int n, .null]) (r := i) (σ' := σ) hC hO (c_J3_checkIndex_8e157 _ hC.2.2.2.2.2.2.1 i n (.null) (Or.inl rfl) h0 h1 σ) gc_J0_1059 (xk_J3_checkIndex_8e157 _ (Nat.le_of_ble_eq_true rfl) (Nat.le_of_ble_eq_true rfl)) rfl (Nat.le_of_ble_eq_true rfl) dJ0_checkIndex_df160_5 rfl ?_
    refine g_pop hC dJ0_checkIndex_df160_8 rfl ?_
    exact g_vret hC hR dJ0_checkIndex_df160_9 rfl
  · refine g_iload_n hC dJ0_checkIndex_df160_0 rfl 0 rfl ?_
    refine g_iload_n hC dJ0_checkIndex_df160_1 rfl 1 rfl ?_
    refine g_getZ hC hZ fl_J0_1053 rfl dJ0_checkIndex_df160_2 ?_
    refine g_cSI (As := [.int i, .int n, .ref t]) (r := i) (σ' := σ) hC hO (c_J3_checkIndex_8e157 _ hC.2.2.2.2.2.2.1 i n (.ref t) (Or.inr ⟨t, rfl⟩) h0 h1 σ) gc_J0_1059 (xk_J3_checkIndex_8e157 _ (Nat.le_of_ble_eq_true rfl) (Nat.le_of_ble_eq_true rfl)) rfl (Nat.le_of_ble_eq_true rfl) dJ0_checkIndex_df160_5 rfl ?_
    refine g_pop hC dJ0_checkIndex_df160_8 rfl ?_
    exact g_vret hC hR dJ0_checkIndex_df160_9 rfl
/-- the letters are signs within a byte -/
theorem sx_all : ∀ i, i < 9 → (lenS.getD i 0 = (bytS.getD i []).length ∧ lenS.getD i 0 < 100 ∧ ∀ b ∈ bytS.getD i [], b &&& 255 = b ∧ ((b &&& 255).toUInt32 % 65536).toInt32 = b &&& 255) := by decide +kernel
theorem sx_ch {i k : Nat} (hi : i < 9) (hk : k < lenS.getD i 0) : ((((bytS.getD i []).getD k 0) &&& 255).toUInt32 % 65536).toInt32 = (bytS.getD i []).getD k 0 ∧ ((bytS.getD i []).getD k 0) &&& 255 = (bytS.getD i []).getD k 0 := by
  obtain ⟨h1, -, h3⟩ := sx_all i hi
  have hm : (bytS.getD i []).getD k 0 ∈ bytS.getD i [] := by
    have hk2 : k < (bytS.getD i []).length := by omega
    generalize bytS.getD i [] = l at hk2 ⊢
    rw [List.getD_eq_getElem?_getD, List.getElem?_eq_getElem hk2]
    exact List.getElem_mem _
  have := h3 _ hm
  exact ⟨this.2.trans this.1, this.1⟩
theorem nI_nn {k : Nat} (h : k < 2 ^ 31) : ¬ nI k < 0 := nI_pos h
set_option maxHeartbeats 4000000 in
set_option maxRecDepth 100000 in
theorem c_J1_charAt_3b067 (E : ET) (hE : EO E) (K : KT) (i k : Nat) (hi : i < 9) (hk : k < lenS.getD i 0) (σ : HS) : CsI E K yJ1_charAt_3b067 w_J1_charAt_3b067 rm_J1_charAt_3b067 [.ref (K.2 i), .int (nI k)] σ (some ((bytS.getD i []).getD k 0, σ)) := by
  have hl := (sx_all i hi).2.1
  refine CsI.of (lv := [(0, .ref (K.2 i)), (1, .int (nI k))]) hE (by decide +kernel) rfl (Nat.le_of_ble_eq_true rfl) rfl (fun F hC hO hR hX => ?_)
  have hT := (hX.1.1 i hi).2.2.2
  refine g_iload_n hC dJ1_charAt_3b067_0 rfl 1 rfl ?_
  refine g_aload_n hC dJ1_charAt_3b067_1 rfl 0 rfl ?_
  refine g_tlen hC hT dJ1_charAt_3b067_2 ?_
  refine g_xSV (As := [.int (nI k), .int (Int32.ofNat (lenS.getD i 0))]) (σ' := σ) hC hO hX (c_J0_checkIndex_df160 _ hC.2.2.2.2.2.2.1 K (nI k) (Int32.ofNat (lenS.getD i 0)) (nI_nn (by omega)) (nI_lt hk (by omega)) σ) gc_J1_9 (xk_J0_checkIndex_df160 _ (Nat.le_of_ble_eq_true rfl) (Nat.le_of_ble_eq_true rfl)) rfl (Nat.le_of_ble_eq_true rfl) dJ1_charAt_3b067_3 rfl ?_
  refine g_aload_n hC dJ1_charAt_3b067_6 rfl 0 rfl ?_
  refine g_iload_n hC dJ1_charAt_3b067_7 rfl 1 rfl ?_
  refine g_tb (v := .int ((bytS.getD i []).getD k 0)) hC hT (vp_in_nI hk (by omega)) (by rw [nI_clamp (by omega)]) dJ1_charAt_3b067_8 ?_
  refine g_sipush (v := 255) hC dJ1_charAt_3b067_9 (by decide) ?_
  refine g_iand hC dJ1_charAt_3b067_12 ?_
  refine g_i2c hC dJ1_charAt_3b067_13 ?_
  rw [(sx_ch hi hk).1]
  exact g_iret hC hR dJ1_charAt_3b067_14 (by have := sc_nar ((bytS.getD i []).getD k 0); rw [(sx_ch hi hk).2] at this; exact this) rfl
set_option maxHeartbeats 4000000 in
set_option maxRecDepth 100000 in
theorem c_J0_coder_7d493 (E : ET) (hE : EO E) (K : KT) (i : Nat) (hi : i < 9) (σ : HS) : CsI E K yJ0_coder_7d493 w_J0_coder_7d493 rm_J0_coder_7d493 [.ref (K.1 i)] σ (some (0, σ)) := by
  refine CsI.of (lv := [(0, .ref (K.1 i))]) hE (by decide +kernel) rfl (Nat.le_of_ble_eq_true rfl) rfl (fun F hC hO hR hX => ?_)
  refine g_getZ hC hX.2.2.1 fl_J0_38 rfl dJ0_coder_7d493_0 ?_
  refine g_if_eq (tgt := 13) (a := none) (b := some ()) (fo := some ()) hC dJ0_coder_7d493_3 (by decide) (if_neg (by decide)) (fun c _ => absurd c (by decide)) (fun _ _ => ?_)
  refine g_aload_n hC dJ0_coder_7d493_6 rfl 0 rfl ?_
  refine g_getT hC (hX.1.1 i hi).2.1 fl_J0_15 rfl dJ0_coder_7d493_7 ?_
  refine g_goto (tgt := 14) hC dJ0_coder_7d493_10 (by decide) ?_
  exact g_iret hC hR dJ0_coder_7d493_14 rfl rfl
set_option maxHeartbeats 4000000 in
set_option maxRecDepth 100000 in
theorem c_J0_isLatin1_aae02 (E : ET) (hE : EO E) (K : KT) (i : Nat) (hi : i < 9) (σ : HS) : CsI E K yJ0_isLatin1_aae02 w_J0_isLatin1_aae02 rm_J0_isLatin1_aae02 [.ref (K.1 i)] σ (some (1, σ)) := by
  refine CsI.of (lv := [(0, .ref (K.1 i))]) hE (by decide +kernel) rfl (Nat.le_of_ble_eq_true rfl) rfl (fun F hC hO hR hX => ?_)
  refine g_getZ hC hX.2.2.1 fl_J0_38 rfl dJ0_isLatin1_aae02_0 ?_
  refine g_if_eq (tgt := 17) (a := none) (b := some ()) (fo := some ()) hC dJ0_isLatin1_aae02_3 (by decide) (if_neg (by decide)) (fun c _ => absurd c (by decide)) (fun _ _ => ?_)
  refine g_aload_n hC dJ0_isLatin1_aae02_6 rfl 0 rfl ?_
  refine g_getT hC (hX.1.1 i hi).2.1 fl_J0_15 rfl dJ0_isLatin1_aae02_7 ?_
  refine g_if_ne (tgt := 17) (a := none) (b := some ()) (fo := some ()) hC dJ0_isLatin1_aae02_10 (by decide) (if_pos rfl) (fun c _ => absurd rfl c) (fun _ _ => ?_)
  refine g_iconst (v := 1) hC dJ0_isLatin1_aae02_13 (by decide) ?_
  refine g_goto (tgt := 18) hC dJ0_isLatin1_aae02_14 (by decide) ?_
  exact g_iret hC hR dJ0_isLatin1_aae02_18 rfl rfl
set_option maxHeartbeats 4000000 in
set_option maxRecDepth 100000 in
theorem c_J0_length_8abf5 (E : ET) (hE : EO E) (K : KT) (i : Nat) (hi : i < 9) (σ : HS) : CsI E K yJ0_length_8abf5 w_J0_length_8abf5 rm_J0_length_8abf5 [.ref (K.1 i)] σ (some (Int32.ofNat (lenS.getD i 0), σ)) := by
  have hl := (sx_all i hi).2.1
  refine CsI.of (lv := [(0, .ref (K.1 i))]) hE (by decide +kernel) rfl (Nat.le_of_ble_eq_true rfl) rfl (fun F hC hO hR hX => ?_)
  refine g_aload_n hC dJ0_length_8abf5_0 rfl 0 rfl ?_
  refine g_getT hC (hX.1.1 i hi).2.2.1 fl_J0_9 rfl dJ0_length_8abf5_1 ?_
  refine g_tlen hC (hX.1.1 i hi).2.2.2 dJ0_length_8abf5_4 ?_
  refine g_aload_n hC dJ0_length_8abf5_5 rfl 0 rfl ?_
  refine g_xVI (As := []) (r := 0) (σ' := σ) hC hO hX (c_J0_coder_7d493 _ hC.2.2.2.2.2.2.1 K i hi σ) gc_J0_335 (xk_J0_coder_7d493 _ (Nat.le_of_ble_eq_true rfl) (Nat.le_of_ble_eq_true rfl)) (rb_st hX hi) rfl (Nat.le_of_ble_eq_true rfl) dJ0_length_8abf5_6 rfl ?_
  refine g_ishr hC dJ0_length_8abf5_9 ?_
  have e : Int32.ofNat (lenS.getD i 0) >>> ((0 : Int32) &&& 31) = Int32.ofNat (lenS.getD i 0) := sc_shr0 (by omega)
  rw [e]
  exact g_iret hC hR dJ0_length_8abf5_10 rfl rfl
set_option maxHeartbeats 4000000 in
set_option maxRecDepth 100000 in
theorem c_J0_charAt_5068e (E : ET) (hE : EO E) (K : KT) (i k : Nat) (hi : i < 9) (hk : k < lenS.getD i 0) (σ : HS) : CsI E K yJ0_charAt_5068e w_J0_charAt_5068e rm_J0_charAt_5068e [.ref (K.1 i), .int (nI k)] σ (some ((bytS.getD i []).getD k 0, σ)) := by
  refine CsI.of (lv := [(0, .ref (K.1 i)), (1, .int (nI k))]) hE (by decide +kernel) rfl (Nat.le_of_ble_eq_true rfl) rfl (fun F hC hO hR hX => ?_)
  refine g_aload_n hC dJ0_charAt_5068e_0 rfl 0 rfl ?_
  refine g_xVI (As := []) (r := 1) (σ' := σ) hC hO hX (c_J0_isLatin1_aae02 _ hC.2.2.2.2.2.2.1 K i hi σ) gc_J0_492 (xk_J0_isLatin1_aae02 _ (Nat.le_of_ble_eq_true rfl) (Nat.le_of_ble_eq_true rfl)) (rb_st hX hi) rfl (Nat.le_of_ble_eq_true rfl) dJ0_charAt_5068e_1 rfl ?_
  refine g_if_eq (tgt := 16) (a := none) (b := some ()) (fo := some ()) hC dJ0_charAt_5068e_4 (by decide) (if_neg (by decide)) (fun c _ => absurd c (by decide)) (fun _ _ => ?_)
  refine g_aload_n hC dJ0_charAt_5068e_7 rfl 0 rfl ?_
  refine g_getT hC (hX.1.1 i hi).2.2.1 fl_J0_9 rfl dJ0_charAt_5068e_8 ?_
  refine g_iload_n hC dJ0_charAt_5068e_11 rfl 1 rfl ?_
  refine g_xSI (As := [.ref (K.2 i), .int (nI k)]) (r := (bytS.getD i []).getD k 0) (σ' := σ) hC hO hX (c_J1_charAt_3b067 _ hC.2.2.2.2.2.2.1 K i k hi hk σ) gc_J0_495 (xk_J1_charAt_3b067 _ (Nat.le_of_ble_eq_true rfl) (Nat.le_of_ble_eq_true rfl)) rfl (Nat.le_of_ble_eq_true rfl) dJ0_charAt_5068e_12 rfl ?_
  exact g_iret hC hR dJ0_charAt_5068e_15 (by have := sc_nar ((bytS.getD i []).getD k 0); rw [(sx_ch hi hk).2] at this; exact this) rfl
set_option maxHeartbeats 4000000 in
set_option maxRecDepth 100000 in
/-- the loop over the word's letters, from place k on -/
theorem k_X8_sayl {E : ET} {F : FT} {K : KT} {fo : Option (Int32 × HS)} (hC : Cx E F 3 cX8_says RX8 GT) (hO : Ro F rm_X8_says) (hR : RI E F .boolean fo) (hf : fo ≠ none) (hX : KS K F.1.2.2.2.2.2.1 F.1.2.2.2.1) (t : Nat) (ht1 : kd t = 8) (ht2 : AL E t) (i : Nat) (hi : i < 9) (σ : HS) : ∀ (w : List Int32) (k : Nat), k ≤ lenS.getD i 0 → (bytS.getD i []).drop k = w → f_X8_sayl t σ (nI k) w = fo → G E F 28 [(2, .int (nI k)), (0, .ref (E.2.2.1 t)), (1, .ref (K.1 i))] [] σ := by
  obtain ⟨hl1, hl2, -⟩ := sx_all i hi
  intro w
  induction w with
  | nil =>
    intro k hk e h
    have hq : (bytS.getD i []).length ≤ k := List.drop_eq_nil_iff.mp e
    refine g_iload_n hC dX8_says_28 rfl 0 rfl ?_
    refine g_aload_n hC dX8_says_29 rfl 2 rfl ?_
    refine g_xVI (As := []) (r := Int32.ofNat (lenS.getD i 0)) (σ' := σ) hC hO hX (c_J0_length_8abf5 _ hC.2.2.2.2.2.2.1 K i hi σ) gc_X8_41 (xk_J0_length_8abf5 _ (Nat.le_of_ble_eq_true rfl) (Nat.le_of_ble_eq_true rfl)) (rb_st hX hi) rfl (Nat.le_of_ble_eq_true rfl) dX8_says_30 rfl ?_
    refine gb_icmp_ge_t (tgt := 63) hC dX8_says_33 (by decide) (nI_le (a := lenS.getD i 0) (b := k) (by omega) (by omega)) ?_
    refine g_iconst (v := 1) hC dX8_says_63 (by decide) ?_
    exact g_iret hC hR dX8_says_64 rfl h
  | cons c w ih =>
    intro k hk e h
    have hkl : k < lenS.getD i 0 := by
      rcases Nat.lt_or_ge k (lenS.getD i 0) with q | q
      · exact q
      · rw [List.drop_eq_nil_iff.mpr (by omega)] at e; cases e
    obtain ⟨g1, g2, g3, -⟩ := sc_dropC e
    unfold f_X8_sayl at h
    refine g_iload_n hC dX8_says_28 rfl 0 rfl ?_
    refine g_aload_n hC dX8_says_29 rfl 2 rfl ?_
    refine g_xVI (As := []) (r := Int32.ofNat (lenS.getD i 0)) (σ' := σ) hC hO hX (c_J0_length_8abf5 _ hC.2.2.2.2.2.2.1 K i hi σ) gc_X8_41 (xk_J0_length_8abf5 _ (Nat.le_of_ble_eq_true rfl) (Nat.le_of_ble_eq_true rfl)) (rb_st hX hi) rfl (Nat.le_of_ble_eq_true rfl) dX8_says_30 rfl ?_
    refine gb_icmp_ge_f (tgt := 63) hC dX8_says_33 (by decide) (nI_ge (a := k) (b := lenS.getD i 0) (by omega) (by omega)) ?_
    refine g_aload_n hC dX8_says_36 rfl 1 rfl ?_
    refine g_getR (cj := 13) (k := 0) hC cr8 ui_8 ht1 ht2 (by decide) fl_X8_9 rfl rfl dX8_says_37 h hf (fun a1 ea1 ka1 na1 h => ?_)
    refine g_aload_n hC dX8_says_40 rfl 1 rfl ?_
    refine g_getI (k := 3) hC cr8 ui_8 ht1 ht2 (by decide) fl_X8_22 rfl rfl dX8_says_41 ?_
    refine g_iload_n hC dX8_says_44 rfl 0 rfl ?_
    refine g_iadd hC dX8_says_45 ?_
    refine g_bald hC ka1 na1 dX8_says_46 h hf (fun h => ?_)
    refine g_aload_n hC dX8_says_47 rfl 2 rfl ?_
    refine g_iload_n hC dX8_says_48 rfl 0 rfl ?_
    refine g_xVI (As := [.int (nI k)]) (r := (bytS.getD i []).getD k 0) (σ' := σ) hC hO hX (c_J0_charAt_5068e _ hC.2.2.2.2.2.2.1 K i k hi hkl σ) gc_X8_46 (xk_J0_charAt_5068e _ (Nat.le_of_ble_eq_true rfl) (Nat.le_of_ble_eq_true rfl)) (rb_st hX hi) rfl (Nat.le_of_ble_eq_true rfl) dX8_says_49 rfl ?_
    rw [g2]
    refine g_icmp_eq (tgt := 57) hC dX8_says_52 (by decide) h (fun c1 h => ?_) (fun c1 h => ?_)
    · refine g_iinc (v := nI k + 1) (lv' := [(2, .int (nI k + 1)), (0, .ref (E.2.2.1 t)), (1, .ref (K.1 i))]) hC dX8_says_57 0 rfl rfl (by decide) rfl ?_
      refine g_goto (tgt := 28) hC dX8_says_60 (by decide) ?_
      rw [← nI_succ] at h ⊢
      exact ih (k + 1) (by omega) g3 h
    · refine g_iconst (v := 0) hC dX8_says_55 (by decide) ?_
      exact g_iret hC hR dX8_says_56 rfl h
set_option maxHeartbeats 4000000 in
set_option maxRecDepth 100000 in
theorem c_X8_says (E : ET) (hE : EO E) (K : KT) (i : Nat) (hi : i < 9) (t : Nat) (ht1 : kd t = 8) (ht2 : AL E t) (σ : HS) (hn : f_X8_says (bytS.getD i []) t σ ≠ none) : CsI E K yX8_says w_X8_says rm_X8_says [.ref (E.2.2.1 t), .ref (K.1 i)] σ (f_X8_says (bytS.getD i []) t σ) := by
  obtain ⟨hl1, hl2, -⟩ := sx_all i hi
  refine CsI.of (lv := [(0, .ref (E.2.2.1 t)), (1, .ref (K.1 i))]) hE (plainFor_of_name (by decide)) rfl (Nat.le_of_ble_eq_true rfl) rfl (fun F hC hO hR hX => ?_)
  have h : f_X8_says (bytS.getD i []) t σ = f_X8_says (bytS.getD i []) t σ := rfl
  generalize hfo : f_X8_says (bytS.getD i []) t σ = fo at hn hR
  unfold f_X8_says at hfo
  have h := hfo
  refine g_aload_n hC dX8_says_0 rfl 0 rfl ?_
  refine g_getI (k := 2) hC cr8 ui_8 ht1 ht2 (by decide) fl_X8_19 rfl rfl dX8_says_1 ?_
  refine g_iconst (v := 1) hC dX8_says_4 (by decide) ?_
  refine g_icmp_ne (tgt := 24) hC dX8_says_5 (by decide) h (fun c1 h => ?_) (fun c1 h => ?_)
  · refine g_iconst (v := 0) hC dX8_says_24 (by decide) ?_
    exact g_iret hC hR dX8_says_25 rfl h
  · refine g_aload_n hC dX8_says_8 rfl 0 rfl ?_
    refine g_getI (k := 4) hC cr8 ui_8 ht1 ht2 (by decide) fl_X8_25 rfl rfl dX8_says_9 ?_
    refine g_aload_n hC dX8_says_12 rfl 0 rfl ?_
    refine g_getI (k := 3) hC cr8 ui_8 ht1 ht2 (by decide) fl_X8_22 rfl rfl dX8_says_13 ?_
    refine g_isub hC dX8_says_16 ?_
    refine g_aload_n hC dX8_says_17 rfl 1 rfl ?_
    refine g_xVI (As := []) (r := Int32.ofNat (lenS.getD i 0)) (σ' := σ) hC hO hX (c_J0_length_8abf5 _ hC.2.2.2.2.2.2.1 K i hi σ) gc_X8_41 (xk_J0_length_8abf5 _ (Nat.le_of_ble_eq_true rfl) (Nat.le_of_ble_eq_true rfl)) (rb_st hX hi) rfl (Nat.le_of_ble_eq_true rfl) dX8_says_18 rfl ?_
    rw [hl1]
    refine g_icmp_eq (tgt := 26) hC dX8_says_21 (by decide) h (fun c2 h => ?_) (fun c2 h => ?_)
    · refine g_iconst (v := 0) hC dX8_says_26 (by decide) ?_
      refine g_istore_n (lv' := [(2, .int (nI 0)), (0, .ref (E.2.2.1 t)), (1, .ref (K.1 i))]) hC dX8_says_27 rfl (by decide) rfl ?_
      exact k_X8_sayl hC hO hR hn hX t ht1 ht2 i hi σ _ 0 (Nat.zero_le _) rfl h
    · refine g_iconst (v := 0) hC dX8_says_24 (by decide) ?_
      exact g_iret hC hR dX8_says_25 rfl h
