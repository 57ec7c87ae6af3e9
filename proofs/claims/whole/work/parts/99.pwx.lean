/-! throw new X("text") where X's constructor calls its super's by any place of its pool: own rows over the short library's words -/
/-- what is asked of X itself -/
def xe_own (own : String) (ic : Nat) (X : String) : List Cond := [.castable X X, .instantiable X 6, .methodLink own ic (Bundle.initS X), .selects X Bundle.tFill Bundle.tFill, .selects X Bundle.tFill0 Bundle.tFill0]
/-- Throwable's fields that lie in an X -/
def xe_fld : List (String × String) := [("detailMessage", "Ljava/lang/String;"), ("cause", "Ljava/lang/Throwable;"), ("stackTrace", Bundle.steD), ("suppressedExceptions", Bundle.listD), ("backtrace", "Ljava/lang/Object;")]
/-- what is asked of Throwable beside the library's two lists -/
def xe_thr : List Cond := [.fieldLink Bundle.tN 198 Bundle.tN "backtrace" "Ljava/lang/Object;", .lays Bundle.tN Bundle.tN "backtrace" "Ljava/lang/Object;", .isRef (.static Bundle.tN "UNASSIGNED_STACK" Bundle.steD), .isRef (.static Bundle.tN "SUPPRESSED_SENTINEL" Bundle.listD)]
/-- all words: X, its super V, the classes r above V up to Throwable -/
def xe_at (own : String) (ic : Nat) (X : String) (ix : Nat) (rx : ByteArray) (V : String) (r : List String) : List Cond :=
  xe_own own ic X ++ (xe_fld.map (fun q => Cond.lays X Bundle.tN q.1 q.2) ++ (xe_thr ++ (Bundle.passSAtoms X V ix rx ++ (Bundle.chainSAtoms V r ++ (Bundle.throwableSAtoms ++ Bundle.throwableAtoms)))))
section PWX
variable {own X V : String} {ic ix : Nat} {rx : ByteArray} {r : List String} {w : Cond}
theorem xe_1 (h : w ∈ xe_own own ic X) : w ∈ xe_at own ic X ix rx V r := List.mem_append_left _ h
theorem xe_2 {q : String × String} (h : q ∈ xe_fld) : Cond.lays X Bundle.tN q.1 q.2 ∈ xe_at own ic X ix rx V r := List.mem_append_right _ (List.mem_append_left _ (List.mem_map.mpr ⟨q, h, rfl⟩))
theorem xe_3 (h : w ∈ xe_thr) : w ∈ xe_at own ic X ix rx V r := List.mem_append_right _ (List.mem_append_right _ (List.mem_append_left _ h))
theorem xe_4 (h : w ∈ Bundle.passSAtoms X V ix rx) : w ∈ xe_at own ic X ix rx V r := List.mem_append_right _ (List.mem_append_right _ (List.mem_append_right _ (List.mem_append_left _ h)))
theorem xe_5 (h : w ∈ Bundle.chainSAtoms V r) : w ∈ xe_at own ic X ix rx V r := List.mem_append_right _ (List.mem_append_right _ (List.mem_append_right _ (List.mem_append_right _ (List.mem_append_left _ h))))
theorem xe_6 (h : w ∈ Bundle.throwableSAtoms) : w ∈ xe_at own ic X ix rx V r := List.mem_append_right _ (List.mem_append_right _ (List.mem_append_right _ (List.mem_append_right _ (List.mem_append_right _ (List.mem_append_left _ h)))))
theorem xe_7 (h : w ∈ Bundle.throwableAtoms) : w ∈ xe_at own ic X ix rx V r := List.mem_append_right _ (List.mem_append_right _ (List.mem_append_right _ (List.mem_append_right _ (List.mem_append_right _ (List.mem_append_right _ h)))))
end PWX
section PWZ
variable {p : Program} {l : Launch} {e : Env} {R : Room} {s : State} {m : MethodId} {args : Array Value} {below : List Frame} {meth : Method} {c : Code} {T : State} {cells slots : Nat}
/-- an inherited method that X does not change -/
theorem xe_sel {X : String} {y : MethodName} {cX : ClassId} {f : MethodId} (ha : l.admits e) (hX : s.vm.findClass X = some cX) (hf : s.methodNamed? y = some f) (hff : s.methodFound? y.cls y.name y.desc = some f) (h : (Cond.selects X y y).before args s = true) : selectMethod e.platform s.vm cX f = .method f := by
  obtain ⟨c1, f1, f2, h1, h2, h3, h4, -⟩ := Cond.selects_spec h
  cases Option.some.inj (h1.symm.trans hX)
  cases Option.some.inj (h2.symm.trans hff)
  cases Option.some.inj (h3.symm.trans hf)
  rw [Launch.admits_selectMethod ha]
  exact h4
/-- backtrace is null in an X that is new but for the fields that Throwable's constructor has set -/
theorem xe_skip {C : ThrowableC} {Z : Init0T} {pl : Platform} {X : String} {cX : ClassId} {kX : Class} {a : Addr} {u0 sen : RefV} {th : Nat} (hpl : pl.magicAccessors = ({} : Platform).magicAccessors) (L : C.Links pl s) (Y : Bundle.Ties C Z s) (hX : s.vm.findClass X = some cX) (hk : s.vm.classes[cX]? = some kX)
    (h : ∀ w ∈ xe_thr, w.before args s = true) (hf : ∀ q ∈ xe_fld, (Cond.lays X Bundle.tN q.1 q.2).before args s = true) : SkipFacts C pl s (fun u => u) u0 ((preparedCellV C.toThrowableT (freshCell cX kX) a u0 sen).withEntry th) := by
  obtain ⟨ci, i, fB, b1, b2, b3, b4, -, bn, bt, bf⟩ := Cond.ownField (t := .object "java/lang/Object") Y.found L.cls (by decide +kernel) (h _ List.mem_cons_self) (h _ (List.mem_cons_of_mem _ List.mem_cons_self)) pl hpl
  obtain ⟨tB, dB, xB, yB⟩ := Cond.laysAt hX hk bf (hf ("backtrace", "Ljava/lang/Object;") (by simp [xe_fld]))
  have far : ∀ {f : Field} {n d : String} {k : Nat}, s.fieldFound? Bundle.tN n d = some (C.cT, C.kT, k, f) → (n, d) ∈ xe_fld → f.name = n → n ≠ "backtrace" → fB.slot ≠ f.slot := fun ff hm hn hne => by
    obtain ⟨-, d1, x1, y1⟩ := Cond.laysAt hX hk ff (hf _ hm)
    exact Cond.laysApart xB x1 yB y1 (by rw [bn, hn]; exact fun e => hne e.symm)
  have e1 := far Y.cause (by simp [xe_fld]) Y.causeName (by decide)
  have e2 := far Y.stack (by simp [xe_fld]) Y.stackName (by decide)
  have e3 := far Y.supp (by simp [xe_fld]) Y.suppName (by decide)
  refine ⟨{ ci198 := ci, i198 := i, fBack := fB }, ⟨b1, b2, b3, b4⟩, ?_, fun _ _ => rfl⟩
  have h0 : (freshCell cX kX).slots[fB.slot]? = some .null := by rw [fresh_default (c := cX) tB, bt]; rfl
  simpa [preparedCellV, Cell.setSlot, Cell.withEntry, Array.getElem?_setIfInBounds, e1, e2, e3, e1.symm, e2.symm, e3.symm] using h0
set_option maxHeartbeats 2000000 in
/-- the constructor called and the new X thrown, no handler of the method's own about it -/
theorem xe_go (S : Stand p l e R s m args below meth c T [] cells slots) (hexec : p.tables.exec = Jvm.exec) (htr : e.platform.stackTraces = false) {own X V : String} {ic ix : Nat} {rx : ByteArray} {r : List String}
    (x0 : decode rx 0 = .ok (.aload_n 0, 1)) (x1 : decode rx 1 = .ok (.aload_n 1, 1)) (x2 : decode rx 2 = .ok (.invokespecial ix, 3)) (x5 : decode rx 5 = .ok (.return_, 1))
    (hown : s.vm.findClass own = some m.cls) (hX : Bundle.fit X = true) (hV : Bundle.fit V = true) (hr : ∀ n ∈ r, Bundle.fit n = true) (h : ∀ w ∈ xe_at own ic X ix rx V r, w.before args s = true)
    {a : Addr} {cX : ClassId} {kX : Class} (fX : s.vm.findClass X = some cX) (kk : s.vm.classes[cX]? = some kX) (hcell : T.heap[a]? = some (freshCell cX kX)) (hnew : s.heap.size ≤ a) {msg : Value} (hmsg : msg.isRef = true)
    {g : JFrame} (hg : g.method = m) (hsz : g.locals.size = c.maxLocals) (hlk : g.locked = none) (hen : g.entered = []) {rest : List Value} (hst : g.stack = msg :: .ref a :: .ref a :: rest)
    (d6 : decode c.code g.pc = .ok (.invokespecial ic, 3)) (d9 : decode c.code (g.pc + 3) = .ok (.athrow, 1)) (hout : ∀ x ∈ c.exceptionTable.toList, covers x (g.pc + 3) = false)
    (hfr : r.length + 4 < R.frames) (hlo : 2 * g.monitorRoom + ((Value.ref a :: rest).map fun v => v.category).sum + (13 * (r.length + 2) + 42) ≤ R.locals) (hlocks : meth.locks = false) :
    ∃ U : State, Steps p.tables e below (T.setTop g) U ∧ U.status = .running ∧ Ended U below (.threw a) ∧ s.WarmedH U.vm ∧ s.sameButNew ({ U with vm := s.vm } : State) [] cells slots ∧ ∃ ce, U.heap[a]? = some ce ∧ ce.cls = cX ∧ ce.vm = .none := by
  have hpl : e.platform.magicAccessors = ({} : Platform).magicAccessors := by rw [S.admits.platform]
  have hf : ∀ q ∈ xe_fld, (Cond.lays X Bundle.tN q.1 q.2).before args s = true := fun q hq => h _ (xe_2 hq)
  obtain ⟨C, Z0, L, -, Y⟩ := ThrowableC.of_atoms (args := args) (pl := e.platform) (by rw [S.admits.platform]) (by rw [S.admits.platform]) hpl (fun w hw => h w (xe_7 hw))
  obtain ⟨Z, M, LZ, LM, hZ⟩ := Init0T.ofS_atoms (args := args) hpl L Y (fun w hw => h w (xe_6 hw))
  obtain ⟨P, Ps, hlen, LP, LPs, hPm, hPs, hon⟩ := Bundle.chainS (args := args) hpl hZ r V hV hr (fun w hw => h w (xe_5 hw))
  obtain ⟨P0, L0, h0m, h0s⟩ := PassC.ofS_atoms (args := args) (s := s) hpl (X := X) (Y := V) (Bundle.fit_spec hX).1 (Bundle.fit_spec hV).2 x0 x1 x2 x5 (fun w hw => h w (xe_4 hw))
  have e0 : P0.sup = P.m := Option.some.inj (h0s.symm.trans hPm)
  have hall : ∀ Q, Q ∈ P0 :: P :: Ps → Q.LinksS e.platform s := fun Q hQ => by
    rcases List.mem_cons.mp hQ with rfl | hQ
    · exact L0
    · rcases List.mem_cons.mp hQ with rfl | hQ
      · exact LP
      · exact LPs Q hQ
  obtain ⟨c1, k1, q1, q2, hord, -, -, -⟩ := Cond.instantiable_spec (h (.instantiable X 6) (xe_1 (by simp [xe_own])))
  cases Option.some.inj (q1.symm.trans fX)
  cases Option.some.inj (q2.symm.trans kk)
  have s0 := xe_sel S.admits fX Y.fill0 (State.methodFound?_of_named Y.fill0 (by decide)) (h _ (xe_1 (by simp [xe_own])))
  have s1 := xe_sel S.admits fX Y.fill (State.methodFound?_of_named Y.fill (by decide)) (h _ (xe_1 (by simp [xe_own])))
  obtain ⟨cS, hS, hiss⟩ := Y.statics
  obtain ⟨u0, hu⟩ := Cond.staticRefV Y.unassigned L.unassignedStatic L.statics hS hiss (h (.isRef (.static Bundle.tN "UNASSIGNED_STACK" Bundle.steD)) (xe_3 (by simp [xe_thr])))
  obtain ⟨sen, hse⟩ := Cond.staticRefV Y.sentinel L.sentinelStatic L.statics hS hiss (h (.isRef (.static Bundle.tN "SUPPRESSED_SENTINEL" Bundle.listD)) (xe_3 (by simp [xe_thr])))
  have hlt : C.aS < s.heap.size := (Array.getElem?_eq_some_iff.mp hS).1
  have hST : T.heap[C.aS]? = some cS := ((vx_frame (U := T) S.same).2 _ hlt (fun z hz => nomatch hz)).trans hS
  obtain ⟨iM, hM⟩ := Y.msg
  have ty : ∀ {f : Field} {n d : String} {k : Nat}, s.fieldFound? Bundle.tN n d = some (C.cT, C.kT, k, f) → (n, d) ∈ xe_fld → kX.instanceTypes[f.slot]? = some f.type := fun ff hm => (Cond.laysAt fX kk ff (hf _ hm)).1
  obtain ⟨tm, me1, cd1, k2, v1, n1, -, -, -, -, -, -, -, hW1, st1⟩ := Steps.initColdS (tb := p.tables) (e := e) (below := below) (s := s) (U := T) S.here hexec S.warmed hpl hown (t := Bundle.initS X) rfl rfl (Bundle.fit_spec hX).2
    (h _ (xe_1 (by simp [xe_own]))) (h _ (xe_4 (by simp [Bundle.passSAtoms]))) (bytes := rx) (maxL := 2) (h (.code (Bundle.initS X) rx 2 none) (xe_4 (by simp [Bundle.passSAtoms]))) (f := g) hg (a := a) (msg := msg) (rest := .ref a :: rest) hst d6
  cases Option.some.inj (n1.symm.trans h0m)
  obtain ⟨v2, S2, st2⟩ := (S.noted hW1).ctorMessageOffV hexec (g := { g with stack := .ref a :: rest }) hg hsz C L Z LZ M LM (P0 :: P :: Ps) hall ⟨e0, hPs, hon⟩ (u0 := u0) (sen := sen) (self := a) hmsg (cell := freshCell cX kX) (cellS := cS)
    hcell (fun _ => by simp) (by simp) rfl rfl s0 s1 hST (Nat.ne_of_lt (Nat.lt_of_lt_of_le hlt hnew)) (fun hu => by rw [hu] at hiss; cases hiss) hu hse
    (Takes.of_laid kk hord (ty Y.cause (by simp [xe_fld])) (by rw [Y.causeType]; rfl)) (Takes.of_laid kk hord (ty Y.stack (by simp [xe_fld])) (by rw [Y.stackType]; exact fits_refV_array _ u0)) (Takes.of_laid kk hord (ty Y.supp (by simp [xe_fld])) (by rw [Y.suppType]; exact fits_refV_object _ sen))
    (Takes.of_laid kk hord (ty hM (by simp [xe_fld])) (by rw [Y.msgType]; exact fits_refV_object _ ⟨msg, hmsg⟩)) Y.objLocals (xe_skip hpl L Y fX kk (fun w hw => h w (xe_3 hw)) hf) htr [] d6
    (by simp only [List.length_cons, hlen]; omega) (by simp only [List.length_cons, hlen]; exact hlo)
  obtain ⟨go, hrun, hend, hWU, hsame⟩ := S2.athrowLeaves hexec (g := { g with stack := .ref a :: rest, pc := g.pc + 3 }) hg hlk hen hout (a := a) (rest := rest) rfl d9 hlocks
  refine ⟨_, st1 _ (fun acts => ?_), hrun, hend, hWU, hsame.weaken (fun z hz hz2 => ?_) (Nat.le_refl _) (Nat.le_refl _), _, heapAt_setCell_self (s := (T.setVm v1).setVm v2) _ (Array.getElem?_eq_some_iff.mp hcell).1, rfl, rfl⟩
  · rw [doInvoke_state]
    exact st2 _ go
  · have hb : z.base = a := by
      simp only [List.nil_append, List.mem_cons, List.not_mem_nil, or_false] at hz
      rcases hz with rfl | rfl | rfl | rfl | rfl <;> rfl
    rw [hb] at hz2
    exact absurd hz2 (Nat.not_lt.mpr hnew)
end PWZ
section PWC
variable {p : Program} {l : Launch} {e : Env} {R : Room} {s : State} {m : MethodId} {args : Array Value} {below : List Frame} {meth : Method} {c : Code} {H : Heap} {locs : List Loc} {cells slots : Nat} {Q : State → Prop} {pc : Nat} {ls : Array Slot} {rest : List Value}
/-- the search in a table of one row that takes it; the row's class may be resolved here -/
theorem xc_find {U : State} {f : JFrame} {q : Addr} {cd : Code} {x : ExceptionTableEntry} {cT : ClassId} {ce : Cell} {v : Vm} (hm : U.vm.method? f.method = some meth) (hc : meth.code = some cd) (ht : cd.exceptionTable.toList = [x]) (hx : covers x f.pc = true) (h0 : x.catchType ≠ 0)
    (hg : (resolveClass f.method.cls x.catchType).Gives e.toSetting U.vm (.ok cT) v) (hvv : U.vm.noted f.method.cls x.catchType (.cls cT) = v) (hce : U.heap[q]? = some ce) (hv : ce.vm = .none) (k1 : ∃ k, v.classes[ce.cls]? = some k) (k2 : ∃ k, v.classes[cT]? = some k) (hf : v.assignable ce.cls cT = true) {B : Handler → Pre} {E : CtlPost} {d : Bool} {acts : List Action} :
    wp (findHandler f q) B E e d acts U ↔ B (.found x.handlerPc) d acts (U.setVm v) := by
  subst hvv
  obtain ⟨o1, o2⟩ := hg.op (op := VmOp.resolveClass f.method.cls x.catchType) rfl
  have hx' : (decide (x.startPc ≤ f.pc) && decide (f.pc < x.endPc)) = true := hx
  have hno : ∀ k, ce.vm ≠ .statics k := fun k => by rw [hv]; intro h; cases h
  rw [Jvm.W.findHandler_eq hm hc, ht]
  simp [findHandler.go, hx', h0, o1, o2, hce, hno, k1, k2, hf, VmOp.dirties, VmOp.acts]
/-- caught by the method's one row -/
theorem xc_catch {own name E : String} {ce : Cell} {q : Addr} {x : ExceptionTableEntry} (hown : s.vm.findClass own = some m.cls) (ht : c.exceptionTable.toList = [x]) (hx : covers x pc = true) (h0 : x.catchType ≠ 0) (hl : (Cond.classLink own x.catchType name).before args s = true) (hca : (Cond.castable E name).before args s = true)
    (hce : H[q]? = some ce) (hv : ce.vm = .none) (hE : s.vm.findClass E = some ce.cls) (kk : W p l e R s m args below meth c H locs cells slots Q (F0 m x.handlerPc ls [.ref q])) : vx_W p l e R s m args below meth c H locs cells slots Q (F0 m pc ls rest) q := by
  intro T hT S
  have hpl : e.platform.magicAccessors = ({} : Platform).magicAccessors := by rw [S.admits.platform]
  obtain ⟨a1, cT, f1, f2, hf⟩ := Cond.castable_spec hca
  cases Option.some.inj (f1.symm.trans hE)
  obtain ⟨a2, f3, hlk⟩ := Cond.classLink_spec hown hl e.platform hpl
  cases Option.some.inj (f3.symm.trans f2)
  obtain ⟨gv, hw, -⟩ := State.classEntry (e := e) S.warmed hlk
  generalize hvv : T.vm.noted m.cls x.catchType (.cls cT) = v at gv hw
  obtain ⟨kE, hkE, -⟩ := Vm.findClass_spec hE
  obtain ⟨kT, hkT, -⟩ := Vm.findClass_spec f2
  obtain ⟨kE1, hkE1, -⟩ := hw.alike.2.2 _ _ hkE
  obtain ⟨kT1, hkT1, -⟩ := hw.alike.2.2 _ _ hkT
  obtain ⟨t, b1, b2⟩ := kk (T.setVm v) hT (S.noted hw)
  obtain ⟨go, win⟩ := At.throwing (g := F0 m pc ls rest) S.here q
  refine ⟨t, Steps.head go win ?_, b2⟩
  have key : (stepThrowing e ((T.setTop (F0 m pc ls rest)).pushFrame (.throwing q)) q (.java (F0 m pc ls rest) :: T.frames.tail)).Is ((((T.setTop (F0 m pc ls rest)).pushFrame (.throwing q)).setVm v).setFrames (.java { F0 m pc ls rest with pc := x.handlerPc, stack := [.ref q] } :: T.frames.tail)) [] := by
    simp only [stepThrowing, searchFrame, vmDo]
    generalize hr : Sem.go _ e false [] _ = res
    obtain ⟨as, rfl, ha⟩ := Sem.eq_ok_of hr (a := Handler.found x.handlerPc) (s' := ((T.setTop (F0 m pc ls rest)).pushFrame (.throwing q)).setVm v) (acts' := []) (by
      simp [xc_find (meth := meth) (cd := c) (U := (T.setTop (F0 m pc ls rest)).pushFrame (.throwing q)) (f := F0 m pc ls rest) (q := q) S.method' S.code ht hx h0 gv hvv (by rw [Stand.throwing_heap, hT]; exact hce) hv ⟨kE1, hkE1⟩ ⟨kT1, hkT1⟩ (by rw [hw.alike.assignable]; exact hf)])
    exact ⟨rfl, ha⟩
  rw [stepThread_throwing (frames_entered S.here.top _), key.1]
  obtain ⟨g0, hg0⟩ := Option.isSome_iff_exists.mp S.here.top
  obtain ⟨r, hr⟩ := State.topJava?_eq_some.mp hg0
  have hr1 : (T.setVm v).frames = .java g0 :: r := hr
  rw [State.setTop_of_frames _ hr1] at b1
  rw [hr, List.tail_cons]
  have e1 : (((T.setTop (F0 m pc ls rest)).pushFrame (.throwing q)).setVm v).setFrames (.java { F0 m pc ls rest with pc := x.handlerPc, stack := [.ref q] } :: r) = (T.setVm v).setFrames (.java (F0 m x.handlerPc ls [.ref q]) :: r) := by
    rw [State.pushFrame, State.setTop_of_frames _ hr]
    show ((((T.setVm v).setFrames _).setFrames _).setFrames _) = _
    rw [State.setFrames_setFrames, State.setFrames_setFrames]
  rw [e1]
  exact b1
end PWC
