/-! new int[N][M]: the machine's one step, walked here over the short library's words alone -/
/-- the outer array at h: its first j places hold the cells behind it -/
def mo (cA : ClassId) (N h j : Nat) : Cell := arrV cA N (fun i => va_rf (if i < j then some (h + 1 + i) else none))
/-- a row of M ints -/
def mi (cI : ClassId) (M : Nat) : Cell := arrV cI M (fun _ => .int 0)
/-- the state when j rows are made -/
def mt (T : State) (cA cI : ClassId) (N M : Nat) : Nat → State
  | 0 => T.pushCell (mo cA N T.heap.size 0)
  | j + 1 => ((mt T cA cI N M j).pushCell (mi cI M)).setCell T.heap.size (mo cA N T.heap.size (j + 1))
theorem mo_new (cA : ClassId) (N h : Nat) : ({ cls := cA, slots := Array.replicate N .null, vm := .none } : Cell) = mo cA N h 0 :=
  (arrV_new cA N .null).trans (congrArg (arrV cA N) (funext fun i => by rw [if_neg (Nat.not_lt_zero i)]; rfl))
theorem mo_set (cA : ClassId) (N h j : Nat) : (mo cA N h j).setSlot j (.ref (h + 1 + j)) = mo cA N h (j + 1) := by
  unfold mo
  rw [arrV_store]
  refine congrArg (arrV cA N) (funext fun i => ?_)
  unfold updV
  by_cases e : i = j
  · rw [if_pos e, e, if_pos (Nat.lt_succ_self j)]; rfl
  · rw [if_neg e]
    by_cases h : i < j
    · show va_rf (if i < j then _ else _) = _
      rw [if_pos h, if_pos (Nat.lt_succ_of_lt h)]
    · show va_rf (if i < j then _ else _) = _
      rw [if_neg h, if_neg (by omega)]
theorem mi_size (cI : ClassId) (M : Nat) : (mi cI M).slots.size = M := arrV_size _ _ _
theorem mo_size (cA : ClassId) (N h j : Nat) : (mo cA N h j).slots.size = N := arrV_size _ _ _
theorem mt_f (T : State) (cA cI : ClassId) (N M : Nat) : ∀ j, (mt T cA cI N M j).heap.size = T.heap.size + 1 + j ∧ (mt T cA cI N M j).heap[T.heap.size]? = some (mo cA N T.heap.size j) ∧ (mt T cA cI N M j).vm = T.vm ∧ (mt T cA cI N M j).slotsUsed = T.slotsUsed + N + j * M ∧
    (∀ a : Nat, a < T.heap.size → (mt T cA cI N M j).heap[a]? = T.heap[a]?) ∧ ∀ i : Nat, i < j → (mt T cA cI N M j).heap[T.heap.size + 1 + i]? = some (mi cI M)
  | 0 => by
    refine ⟨by simp [mt], State.heap_pushCell_size _ _, rfl, ?_, fun a h => State.heap_pushCell_of_lt _ _ h, fun i h => absurd h (Nat.not_lt_zero i)⟩
    simp [mt, mo_size]
  | j + 1 => by
    obtain ⟨z, o, v, u, lo, hi⟩ := mt_f T cA cI N M j
    have l0 : T.heap.size < (mt T cA cI N M j).heap.size := by omega
    have o1 : ((mt T cA cI N M j).pushCell (mi cI M)).heap[T.heap.size]? = some (mo cA N T.heap.size j) := (State.heap_pushCell_of_lt _ _ l0).trans o
    refine ⟨?_, State.heap_setCell_self o1, ?_, ?_, fun a h => ?_, fun i h => ?_⟩
    · simp [mt, State.setCell, z]; omega
    · simp [mt, v]
    · simp [mt, u, mi_size, Nat.succ_mul]; omega
    · show (State.setCell _ T.heap.size _).heap[a]? = _
      have ha : a < (mt T cA cI N M j).heap.size := by omega
      rw [State.heap_setCell_other (Nat.ne_of_gt h), State.heap_pushCell_of_lt _ _ ha]
      exact lo a h
    · show (State.setCell _ T.heap.size _).heap[T.heap.size + 1 + i]? = _
      rw [State.heap_setCell_other (show T.heap.size ≠ T.heap.size + 1 + i by omega)]
      by_cases e : i = j
      · rw [e, ← z]
        exact State.heap_pushCell_size _ _
      · have ha : T.heap.size + 1 + i < (mt T cA cI N M j).heap.size := by omega
        rw [State.heap_pushCell_of_lt _ _ ha]
        exact hi i (by omega)
theorem mt_top (T : State) (f : JFrame) (cA cI : ClassId) (N M : Nat) : ∀ j, mt (T.setTop f) cA cI N M j = (mt T cA cI N M j).setTop f
  | 0 => by simp only [mt, State.heap_setTop, State.pushCell_setTop]
  | j + 1 => by simp only [mt, mt_top T f cA cI N M j, State.heap_setTop, State.pushCell_setTop, State.setCell_setTop]
section MNW
variable {E : CtlPost} {e : Env} {d : Bool} {acts : List Action} {s : State} {Q : Addr → Pre}
theorem wm_row {cI cc : ClassId} {k : Class} {m : Int32} (hk : s.vm.classes[cI]? = some k) (hkd : k.kind = .array cc .int) (hm : ¬ m < 0) (l1 : ¬ m.toNatClampNeg > e.platform.arrayLengthLimit) (l2 : ¬ m.toNatClampNeg * componentBytes .int > e.platform.maxHeapBytes) (r1 : s.heap.size < e.platform.maxCells) (r2 : s.slotsUsed + m.toNatClampNeg ≤ e.platform.maxSlots)
    (q : ∀ a', Q s.heap.size d a' (s.pushCell (mi cI m.toNatClampNeg))) : wp (multianewarray.make cI [m]) Q E e d acts s := by
  rw [multianewarray.make]
  simp only [wp_bind', Jvm.W.ite, hm, if_false, wp_pure', Jvm.W.theClass, hk, hkd, Option.some.injEq, exists_eq_left']
  refine Jvm.W.newArray_of hk hkd l1 l2 r1 r2 rfl (fun a' => ?_)
  have h := q a'
  unfold mi at h
  rw [← arrV_new] at h
  exact h
theorem wm_all {cA cI cc : ClassId} {kA kI : Class} {n m : Int32} (hA : s.vm.classes[cA]? = some kA) (hAk : kA.kind = .array cI (.array .int)) (hI : s.vm.classes[cI]? = some kI) (hIk : kI.kind = .array cc .int) (hn : ¬ n < 0) (hm : ¬ m < 0)
    (l1 : ¬ n.toNatClampNeg > e.platform.arrayLengthLimit) (l2 : ¬ n.toNatClampNeg * componentBytes (.array .int) > e.platform.maxHeapBytes) (l3 : ¬ m.toNatClampNeg > e.platform.arrayLengthLimit) (l4 : ¬ m.toNatClampNeg * componentBytes .int > e.platform.maxHeapBytes)
    (r1 : s.heap.size + (1 + n.toNatClampNeg) ≤ e.platform.maxCells) (r2 : s.slotsUsed + (n.toNatClampNeg + n.toNatClampNeg * m.toNatClampNeg) ≤ e.platform.maxSlots)
    (q : ∀ d' a', Q s.heap.size d' a' (mt s cA cI n.toNatClampNeg m.toNatClampNeg n.toNatClampNeg)) : wp (multianewarray.make cA [n, m]) Q E e d acts s := by
  generalize hN : n.toNatClampNeg = N at l1 l2 r1 r2 q
  generalize hM : m.toNatClampNeg = M at l3 l4 r2 q
  have hno : ([m].find? (· < 0)) = none := by simp [hm]
  rw [multianewarray.make]
  simp only [wp_bind', Jvm.W.ite, hn, if_false, wp_pure', Jvm.W.theClass, hA, hAk, Option.some.injEq, exists_eq_left', hN]
  refine Jvm.W.newArray_of hA hAk l1 l2 (by omega) (by omega) rfl (fun a' => ?_)
  simp only [hno]
  rw [ite_self, wp_bind', Std.Legacy.Range.forIn_eq_forIn_range', show ([:N] : Std.Legacy.Range).size = N by simp [Std.Legacy.Range.size]]
  refine wp_forIn_inv (fun rest t => ∃ j, j ≤ N ∧ rest = List.range' j (N - j) ∧ t = mt s cA cI N M j) _ _ ⟨0, Nat.zero_le N, rfl, by rw [mt, ← mo_new]⟩ ?_ ?_
  · rintro x rest t d1 a1 Q1 ⟨j, -, hr, rfl⟩ go
    have hj : j < N := by
      refine Nat.lt_of_not_le (fun c => ?_)
      rw [Nat.sub_eq_zero_of_le c] at hr
      cases hr
    rw [show N - j = N - (j + 1) + 1 by omega, List.range'_succ] at hr
    obtain ⟨e1, e2⟩ := List.cons.inj hr
    subst e1
    obtain ⟨z, o, v, u, -, -⟩ := mt_f s cA cI N M x
    have hmul : x * M + M ≤ N * M := by rw [← Nat.succ_mul]; exact Nat.mul_le_mul_right M hj
    simp only [wp_bind']
    refine wm_row (by rw [v]; exact hI) hIk hm (by rw [hM]; exact l3) (by rw [hM]; exact l4) (by omega) (by rw [hM]; omega) (fun a2 => ?_)
    simp only [wp_bind', Jvm.W.writeLoc, wp_pure']
    have hx : s.heap.size < (mt s cA cI N M x).heap.size := by omega
    refine ⟨mo cA N s.heap.size x, (State.heap_pushCell_of_lt _ _ hx).trans o, by simp [mo, arrV], by rw [mo_size]; exact hj, ?_, go _ _ _ ⟨x + 1, hj, e2, ?_⟩⟩
    · simp [mo, arrV, State.fitsSlot, State.slotType?, v, hA, hAk, fits]
    · rw [z, hM, mo_set]
      rfl
  · rintro t d1 a1 ⟨j, hle, hr, rfl⟩
    have hj : ¬ j < N := fun c => by
      rw [show N - j = N - (j + 1) + 1 by omega, List.range'_succ] at hr
      cases hr
    have hjN : j = N := by omega
    subst hjN
    exact q _ _
end MNW
section MNS
variable {p : Program} {l : Launch} {e : Env} {R : Room} {s : State} {m : MethodId} {args : Array Value} {below : List Frame} {meth : Method} {c : Code} {T : State} {locs : List Loc} {cells slots : Nat}
theorem mt_X (X : Stand p l e R s m args below meth c T locs cells slots) (cA cI : ClassId) (N M : Nat) : ∀ j, Stand p l e R s m args below meth c (mt T cA cI N M j) (locs ++ (List.range j).map (fun i => ⟨T.heap.size, i⟩)) (cells + (1 + j)) (slots + (N + j * M))
  | 0 => by
    have h := X.pushed (mo cA N T.heap.size 0)
    rw [mo_size] at h
    rw [Nat.zero_mul, List.range_zero, List.map_nil, List.append_nil]
    exact h
  | j + 1 => by
    have hx : T.heap.size < (mt T cA cI N M j).heap.size := by rw [(mt_f T cA cI N M j).1]; omega
    have h := ((mt_X X cA cI N M j).pushed (mi cI M)).stored ((State.heap_pushCell_of_lt _ _ hx).trans (mt_f T cA cI N M j).2.1) j (.ref (T.heap.size + 1 + j))
    rw [mo_set, mi_size, List.append_assoc] at h
    rw [List.range_succ, List.map_append, show cells + (1 + (j + 1)) = cells + (1 + j) + 1 by omega, show slots + (N + (j + 1) * M) = slots + (N + j * M) + M by rw [Nat.succ_mul]; omega]
    exact h
/-- what the word 'arrays of int[]' says -/
theorem ao_int {A : Array Value} {U : State} (h : (Cond.arrayOver (.array .int)).before A U = true) : ∃ (cA cI : ClassId) (k : Class), U.vm.findClass "[[I" = some cA ∧ U.vm.findClass "[I" = some cI ∧ U.vm.classes[cA]? = some k ∧ k.kind = .array cI (.array .int) := by
  unfold Cond.before at h
  simp only [Cond.holds, Cond.value, beq_iff_eq] at h
  cases hd : U.vm.findClass (FieldType.array .int).toString with
  | none => rw [hd] at h; simp at h
  | some cI =>
    rw [hd] at h
    simp only [Option.bind_some, Option.bind_eq_some_iff, Option.map_eq_some_iff] at h
    obtain ⟨cA, hi, k, hk, hb⟩ := h
    obtain ⟨hlt, hp, -⟩ := Array.findIdx?_eq_some_iff_getElem.mp hi
    rw [(Array.getElem?_eq_some_iff.mp hk).2] at hp
    cases hkd : k.kind with
    | array cc ty =>
      rw [hkd] at hb hp
      simp at hb hp
      exact ⟨cA, cI, k, hb.2, hd, hk, by rw [hkd, hp, hb.1]⟩
    | _ => rw [hkd] at hb; simp at hb
theorem x_mna (X : Stand p l e R s m args below meth c T locs cells slots) (hexec : p.tables.exec = Jvm.exec) {own : String} {index : Nat} (hown : s.vm.findClass own = some m.cls) (hcl : (Cond.classLink own index "[[I").before args s = true) (hov : (Cond.arrayOver (.array .int)).before args s = true) (harr : (Cond.arrayClass .int).before args s = true)
    {g : JFrame} (hg : g.method = m) (hd : decode c.code g.pc = .ok (.multianewarray index 2, 4)) {n k : Int32} {rest : List Value} (hst : g.stack = .int k :: .int n :: rest) (hn : ¬ n < 0) (hk : ¬ k < 0) (b1 : n.toNatClampNeg * 4 ≤ 536870912) (b2 : k.toNatClampNeg * 4 ≤ 536870912)
    (hc : cells + (1 + n.toNatClampNeg) ≤ R.cells) (hs : slots + (n.toNatClampNeg + n.toNatClampNeg * k.toNatClampNeg) ≤ R.slots) :
    ∃ (v : Vm) (cA cI : ClassId), s.vm.findClass "[[I" = some cA ∧ s.vm.findClass "[I" = some cI ∧ Stand p l e R s m args below meth c (mt (T.setVm v) cA cI n.toNatClampNeg k.toNatClampNeg n.toNatClampNeg) (locs ++ (List.range n.toNatClampNeg).map (fun i => ⟨T.heap.size, i⟩)) (cells + (1 + n.toNatClampNeg)) (slots + (n.toNatClampNeg + n.toNatClampNeg * k.toNatClampNeg)) ∧
      ∀ t, Steps p.tables e below ((mt (T.setVm v) cA cI n.toNatClampNeg k.toNatClampNeg n.toNatClampNeg).setTop { g with pc := g.pc + 4, stack := .ref T.heap.size :: rest }) t → Steps p.tables e below (T.setTop g) t := by
  subst hg
  obtain ⟨cA, cI, kA, fA, fI, hA, hAk⟩ := ao_int hov
  obtain ⟨cI', kI, cc, fI', hI, hIk⟩ := Cond.arrayClass_spec harr
  cases Option.some.inj (fI'.symm.trans fI)
  have hpl : e.platform.magicAccessors = ({} : Platform).magicAccessors := by rw [X.admits.platform]
  obtain ⟨c0, f0, hlk⟩ := Cond.classLink_spec hown hcl e.platform hpl
  cases Option.some.inj (f0.symm.trans fA)
  obtain ⟨gv, hw, -⟩ := State.classEntry (e := e) X.warmed hlk
  generalize T.vm.noted g.method.cls index (.cls cA) = v at gv hw
  obtain ⟨kA1, hA1, eA1⟩ := hw.alike.2.2 _ _ hA
  obtain ⟨kI1, hI1, eI1⟩ := hw.alike.2.2 _ _ hI
  have Y := mt_X (X.noted hw) cA cI n.toNatClampNeg k.toNatClampNeg n.toNatClampNeg
  refine ⟨v, cA, cI, fA, fI, Y, fun t ht => ?_⟩
  obtain ⟨r1, r2⟩ := X.roomAbove hc hs
  have p1 := Launch.admits_arrayLengthLimit X.admits
  have p2 := Launch.admits_maxHeapBytes X.admits
  jvm_step X.here [hexec, hd]
  simp only [multianewarray.sem, wp_bind', Jvm.W.resolveClassAt_links (State.method?_setTop g X.here.top) gv]
  rw [Jvm.W.popN, if_neg (by decide)]
  refine ⟨g, State.topJava?_setTop' (s := T.setVm v) g X.here.top, [.int n, .int k], rest, rfl, hst, ?_⟩
  simp only [List.mapM_cons, List.mapM_nil, wp_bind', wp_pure']
  refine wm_all (kA := kA1) (kI := kI1) (cI := cI) (cc := cc) hA1 (by rw [eA1]; exact hAk) hI1 (by rw [eI1]; exact hIk) hn hk (by rw [p1]; omega) (by rw [p2]; show ¬ n.toNatClampNeg * 4 > 536870912; omega) (by rw [p1]; omega) (by rw [p2]; show ¬ k.toNatClampNeg * 4 > 536870912; omega) r1 r2 (fun d' a' => ?_)
  rw [show ((T.setTop g).setVm v).setTop { g with stack := rest } = (T.setVm v).setTop { g with stack := rest } from State.setTop_setTop (T.setVm v) g _, mt_top]
  simp only [wp_bind', Jvm.W.mark, Jvm.W.pushRef, State.topJava?_setTop' _ Y.here.top, Option.some.injEq, exists_eq_left', State.setTop_setTop, State.heap_setTop]
  intro a2
  simp [jvm, Y.here.top]
  exact ht
end MNS
