/-- more cells, more made -/
def eA (E : ET) (l : List Nat) : ET := (E.1, E.2.1, E.2.2.1, E.2.2.2.1, E.2.2.2.2 ++ l)
def fA (F : FT) (c n : Nat) : FT := ((F.1.1, F.1.2.1, F.1.2.2.1, F.1.2.2.2.1, F.1.2.2.2.2.1, F.1.2.2.2.2.2.1, F.1.2.2.2.2.2.2.1 + c, F.1.2.2.2.2.2.2.2 + n), F.2)
/-- a cell as it is when new -/
def sN (σ : HS) (id : Nat) : HS := (fun a => if a = id then (fun _ => 0) else σ.1 a, fun a => if a = id then (fun _ => 0) else σ.2.1 a, fun a => if a = id then (fun _ => none) else σ.2.2 a)
theorem sN_n {σ : HS} {id x : Nat} (h : x ≠ id) : (sN σ id).1 x = σ.1 x ∧ (sN σ id).2.1 x = σ.2.1 x ∧ (sN σ id).2.2 x = σ.2.2 x := ⟨if_neg h, if_neg h, if_neg h⟩
theorem sN_i (σ : HS) (id : Nat) : (sN σ id).1 id = (fun _ => 0) ∧ (sN σ id).2.1 id = (fun _ => 0) ∧ (sN σ id).2.2 id = (fun _ => none) := ⟨if_pos rfl, if_pos rfl, if_pos rfl⟩
theorem fv_same {E : ET} {σ σ' : HS} {a k : Nat} (h1 : σ'.1 a = σ.1 a) (h2 : σ'.2.1 a = σ.2.1 a) (h3 : σ'.2.2 a = σ.2.2 a) (ty : FieldType) : fv E σ' a k ty = fv E σ a k ty := by
  cases ty <;> simp only [fv, h1, h2, h3]
theorem ce_same {E : ET} {σ σ' : HS} {a : Nat} (h1 : σ'.1 a = σ.1 a) (h2 : σ'.2.1 a = σ.2.1 a) (h3 : σ'.2.2 a = σ.2.2 a) : ce E σ' a = ce E σ a := by
  have h4 : fl E σ' a (kd a) = fl E σ a (kd a) := List.map_congr_left (fun j _ => fv_same h1 h2 h3 _)
  unfold ce
  rw [h1, h2, h3, h4]
theorem wl_eA {E : ET} {σ : HS} {id : Nat} (hid : ¬ AL E id) : wl (eA E [id]) (sN σ id) = wl E σ ++ [(E.2.2.1 id, ce E (sN σ id) id)] := by
  show (E.2.2.2.2 ++ [id]).map (fun a => (E.2.2.1 a, ce (eA E [id]) (sN σ id) a)) = _
  rw [List.map_append]
  congr 1
  apply List.map_congr_left
  intro a ha
  have hne : a ≠ id := fun e => hid (by rw [← e]; exact ha)
  have hs := sN_n (σ := σ) hne
  show (E.2.2.1 a, ce E (sN σ id) a) = _
  rw [ce_same hs.1 hs.2.1 hs.2.2]
theorem al_eA {E : ET} {l : List Nat} {a : Nat} : AL (eA E l) a ↔ AL E a ∨ a ∈ l := List.mem_append
theorem EO_eA {E : ET} {id : Nat} (hE : EO E) (hid : ¬ AL E id) (hne : ∀ k, AL E k → E.2.2.1 k ≠ E.2.2.1 id) : EO (eA E [id]) := by
  refine ⟨?_, ?_⟩
  · show (E.2.2.2.2 ++ [id]).Nodup
    rw [List.nodup_append]
    refine ⟨hE.1, by simp, ?_⟩
    intro a ha b hb e
    rw [List.mem_singleton.mp hb] at e
    exact hid (by rw [← e]; exact ha)
  · intro i j hi hj e
    have e : E.2.2.1 i = E.2.2.1 j := e
    rcases al_eA.mp hi with h | h <;> rcases al_eA.mp hj with g | g
    · exact hE.2 i j h g e
    · rw [List.mem_singleton.mp g] at e
      exact absurd e (hne i h)
    · rw [List.mem_singleton.mp h] at e
      exact absurd e.symm (hne j g)
    · rw [List.mem_singleton.mp h, List.mem_singleton.mp g]
theorem wf_eA {E : ET} {σ : HS} {id : Nat} (hwf : wf E σ) : wf (eA E [id]) (sN σ id) := by
  intro a k b ha hb
  by_cases c : a = id
  · rw [c, (sN_i σ id).2.2] at hb; cases hb
  · rw [(sN_n (σ := σ) c).2.2] at hb
    rcases al_eA.mp ha with h | h
    · exact al_eA.mpr (Or.inl (hwf a k b h hb))
    · exact absurd (List.mem_singleton.mp h) c
/-- the next cell's address -/
def SZ (E : ET) (F : FT) (id : Nat) : Prop := E.2.2.1 id = F.1.2.2.2.1.heap.size + F.1.2.2.2.2.2.2.1 ∧ (F.1.2.2.2.2.2.2.1 = 0 ∨ ∃ j, AL E j ∧ E.2.2.1 j + 1 = F.1.2.2.2.1.heap.size + F.1.2.2.2.2.2.2.1)
theorem al_lt {E : ET} {σ : HS} {H : Heap} {k : Nat} (hP : va_P E.2.1 vwCl (wl E σ) H) (h : AL E k) : E.2.2.1 k < H.size := by
  obtain ⟨q, hq⟩ := al_at h
  exact (hP q _ (wl_at σ hq)).lt
theorem sz_of {E : ET} {F : FT} {id : Nat} {σ : HS} {H : Heap} {A : Nat → Prop} {locs : List Loc} {p : Program} {l : Launch} {e : Env} {R : Room} {m : MethodId} {args : Array Value} {below : List Frame} {meth : Method} {c : Code} {T : State} {sn : Nat} (hz : SZ E F id) (hP : va_P E.2.1 vwCl (wl E σ) H) (hS : va_S A F.1.2.2.2.1.heap H locs) (hT : T.heap = H) (X : Stand p l e R F.1.2.2.2.1 m args below meth c T locs F.1.2.2.2.2.2.2.1 sn) : H.size = E.2.2.1 id := by
  have h1 : T.heap.size ≤ F.1.2.2.2.1.heap.size + F.1.2.2.2.2.2.2.1 := X.same.2.2.1
  rw [hT] at h1
  rw [hz.1]
  rcases hz.2 with h | ⟨j, hj, h⟩
  · have := hS.1
    omega
  · have := al_lt hP hj
    omega
theorem W_sz {p : Program} {l : Launch} {e : Env} {R : Room} {s : State} {m : MethodId} {args : Array Value} {below : List Frame} {meth : Method} {c : Code} {H : Heap} {locs : List Loc} {cells slots : Nat} {Q : State → Prop} {g : JFrame} (h : ∀ T : State, T.heap = H → Stand p l e R s m args below meth c T locs cells slots → W p l e R s m args below meth c H locs cells slots Q g) : W p l e R s m args below meth c H locs cells slots Q g := fun T hT X => h T hT X T hT X
section GN
variable {E : ET} {F : FT} {nL : Nat} {cc : ByteArray} {own : String} {Ts : List Cond} {pc i j : Nat} {lv lv' : List (Nat × Value)} {st : List Value} {σ : HS}
theorem cx_eA (hC : Cx E F nL cc own Ts) {id c n : Nat} (hE : EO (eA E [id])) (hA : F.1.2.2.2.2.2.1 (E.2.2.1 id)) (h1 : F.1.2.2.2.2.2.2.1 + c ≤ F.1.2.2.1.cells) (h2 : F.1.2.2.2.2.2.2.2 + n ≤ F.1.2.2.1.slots) : Cx (eA E [id]) (fA F c n) nL cc own Ts :=
  ⟨hC.1, hC.2.1, hC.2.2.1, hC.2.2.2.1, hC.2.2.2.2.1, hC.2.2.2.2.2.1, hE, hC.2.2.2.2.2.2.2.1, fun k hk => by
    rcases al_eA.mp hk with h | h
    · exact hC.2.2.2.2.2.2.2.2.1 k h
    · rw [List.mem_singleton.mp h]; exact hA, h1, h2⟩
theorem fv_new {E : ET} {σ : HS} {id k : Nat} {ty : FieldType} (h : isI ty = true ∨ ty = .long ∨ isR ty = true) : defaultValue ty = fv E (sN σ id) id k ty := by
  have hs := sN_i σ id
  cases ty <;> first | (simp only [fv, hs.1, hs.2.1, hs.2.2]; rfl) | (simp [isI, isR] at h)
theorem g_new (hC : Cx E F nL cc own Ts) {C : String} {T : u_T} {N ci index id : Nat} (hr : cr ci C T N) (hin : ∀ w ∈ u_ws C T N, w ∈ Ts) (hty : ∀ k, k < N → parseFieldDescriptor (T k).2.2.1 = some (ft ci k)) (hok : ∀ k, k < N → isI (ft ci k) = true ∨ ft ci k = .long ∨ isR (ft ci k) = true) (hcl : Cond.classLink own index C ∈ Ts) (hinst : Cond.instantiable C N ∈ Ts) (hini : Cond.initialized C ∈ Ts) (hk : kd id = ci) (hid : ¬ AL E id) (hz : SZ E F id) (hA : ∀ q, F.1.2.2.2.1.heap.size ≤ q → F.1.2.2.2.2.2.1 q) (h1 : F.1.2.2.2.2.2.2.1 + 1 ≤ F.1.2.2.1.cells) (h2 : F.1.2.2.2.2.2.2.2 + N ≤ F.1.2.2.1.slots) (hd : decode cc pc = .ok (.new index, 3))
    (kk : Cx (eA E [id]) (fA F 1 N) nL cc own Ts → G (eA E [id]) (fA F 1 N) (pc + 3) lv (.ref (E.2.2.1 id) :: st) (sN σ id)) : G E F pc lv st σ := by
  intro hwf H locs ls hP hS hl
  refine W_sz (fun Tt hT X => ?_)
  have hsz := sz_of hz hP hS hT X
  have hKn := hC.2.2.2.2.2.1.1 ci _ hr.1
  have hne : ∀ k, AL E k → E.2.2.1 k ≠ E.2.2.1 id := fun k h e => by
    have := al_lt hP h
    omega
  have hts := hC.2.2.2.2.1
  refine W.newcK hC.1 hC.2.1 hC.2.2.2.1 (hts _ hcl) (hts _ hinst) (hts _ hini) rfl hd h1 h2 hKn.2.1 hsz (fun H1 kC hkC e1 z1 o1 => ?_)
  have hk9 : ∀ (k : Nat) (x : Nat × va_E), (wl E σ)[k]? = some x → H1[x.1]? = H[x.1]? := fun k x hx => o1 x.1 (by rw [← hsz]; exact (hP k x hx).lt)
  refine kk (cx_eA hC (EO_eA hC.2.2.2.2.2.2.1 hid hne) (hA _ (by rw [hz.1]; omega)) h1 h2) (wf_eA hwf) H1 locs ls ?_ ⟨Nat.le_trans hS.1 (by omega), fun x g1 g2 => (o1 x (by rw [← hsz]; exact Nat.lt_of_lt_of_le g1 hS.1)).trans (hS.2.1 x g1 g2), hS.2.2⟩ hl
  rw [wl_eA hid]
  refine (hP.kept hk9).app (fun k x hx => ?_)
  have hz9 : k < 1 := (List.getElem?_eq_some_iff.mp hx).1
  rw [show k = 0 by omega] at hx
  cases hx
  rw [ce_o hk hr.2.2]
  refine ⟨_, hr.1, (u_born (ft ci) hts hin hKn hkC e1 hty).to (fun j hj => ?_)⟩
  show defaultValue (ft ci j) = (fl E (sN σ id) id ci).getD j .null
  rw [List.getD_eq_getElem?_getD, fl_get E (sN σ id) id ci (by rw [hr.2.1]; exact hj)]
  exact fv_new (hok j hj)
/-- a new array of ints, longs, bytes or booleans -/
theorem g_newa (hC : Cx E F nL cc own Ts) {atype : ArrayType} {ty : FieldType} {ci t0 N id : Nat} {n : Int32} {x : Nat → vp_A} (hty : newarray.typeOf atype = ty) (hw : Cond.arrayClass ty ∈ Ts) (ht0 : (tyL E)[t0]? = some (E.2.2.2.1 ci, ty)) (hra : va_RA F.1.2.2.2.1 (E.2.2.2.1 ci) ty → F.1.2.2.2.1.vm.findClass ("[" ++ ty.toString) = some (E.2.2.2.1 ci)) (hce : ce E (sN σ id) id = .inl (E.2.2.2.1 ci, x (ln id))) (hvp : ∀ (cA : ClassId) (M : Nat), vp_cell cA (x M) = arrV cA M (fun _ => defaultValue ty)) (hn : ¬ n < 0) (hN : n.toNatClampNeg = N) (hl : ln id = N) (hbt : N * componentBytes ty ≤ 536870912) (hid : ¬ AL E id) (hz : SZ E F id) (hA : ∀ q, F.1.2.2.2.1.heap.size ≤ q → F.1.2.2.2.2.2.1 q) (h1 : F.1.2.2.2.2.2.2.1 + 1 ≤ F.1.2.2.1.cells) (h2 : F.1.2.2.2.2.2.2.2 + N ≤ F.1.2.2.1.slots) (hd : decode cc pc = .ok (.newarray atype, 2))
    (kk : Cx (eA E [id]) (fA F 1 N) nL cc own Ts → G (eA E [id]) (fA F 1 N) (pc + 2) lv (.ref (E.2.2.1 id) :: st) (sN σ id)) : G E F pc lv (.int n :: st) σ := by
  subst hty
  intro hwf H locs ls hP hS hlv
  refine W_sz (fun Tt hT X => ?_)
  have hsz := sz_of hz hP hS hT X
  have hne : ∀ k, AL E k → E.2.2.1 k ≠ E.2.2.1 id := fun k h e => by
    have := al_lt hP h
    omega
  refine va_newaK hC.1 hC.2.1 (hC.2.2.2.2.1 _ hw) rfl hd rfl hn hN hbt h1 h2 hsz (fun H1 cA e1 z1 o1 hAr hNm => ?_)
  have hcA : cA = E.2.2.2.1 ci := Option.some.inj (hNm.symm.trans (hra (hC.2.2.2.2.2.1.2 t0 _ ht0).2))
  subst hcA
  have hk9 : ∀ (k : Nat) (y : Nat × va_E), (wl E σ)[k]? = some y → H1[y.1]? = H[y.1]? := fun k y hy => o1 y.1 (by rw [← hsz]; exact (hP k y hy).lt)
  refine kk (cx_eA hC (EO_eA hC.2.2.2.2.2.2.1 hid hne) (hA _ (by rw [hz.1]; omega)) h1 h2) (wf_eA hwf) H1 locs ls ?_ ⟨Nat.le_trans hS.1 (by omega), fun y g1 g2 => (o1 y (by rw [← hsz]; exact Nat.lt_of_lt_of_le g1 hS.1)).trans (hS.2.1 y g1 g2), hS.2.2⟩ hlv
  rw [wl_eA hid]
  refine (hP.kept hk9).app (fun k y hy => ?_)
  have hz9 : k < 1 := (List.getElem?_eq_some_iff.mp hy).1
  rw [show k = 0 by omega] at hy
  cases hy
  rw [hce]
  show H1[E.2.2.1 id]? = some (vp_cell (E.2.2.2.1 ci) (x (ln id)))
  rw [hvp, e1, hl]
theorem ce_nwI {E : ET} {σ : HS} {id ci : Nat} (h : kd id = ci) (hc : ci = 13 ∨ ci = 14 ∨ ci = 16) : ce E (sN σ id) id = .inl (E.2.2.2.1 ci, ln id, .inl (fun _ => 0)) := by rw [ce_I h hc, (sN_i σ id).1]
theorem ce_nwJ {E : ET} {σ : HS} {id : Nat} (h : kd id = 15) : ce E (sN σ id) id = .inl (E.2.2.2.1 15, ln id, .inr (.inl (fun _ => 0))) := by rw [ce_J h, (sN_i σ id).2.1]
theorem g_newI (hC : Cx E F nL cc own Ts) {N id : Nat} {n : Int32} (hk : kd id = 14) (hw : Cond.arrayClass .int ∈ Ts) (hn : ¬ n < 0) (hN : n.toNatClampNeg = N) (hl : ln id = N) (hbt : N * componentBytes .int ≤ 536870912) (hid : ¬ AL E id) (hz : SZ E F id) (hA : ∀ q, F.1.2.2.2.1.heap.size ≤ q → F.1.2.2.2.2.2.1 q) (h1 : F.1.2.2.2.2.2.2.1 + 1 ≤ F.1.2.2.1.cells) (h2 : F.1.2.2.2.2.2.2.2 + N ≤ F.1.2.2.1.slots) (hd : decode cc pc = .ok (.newarray .int, 2)) (kk : Cx (eA E [id]) (fA F 1 N) nL cc own Ts → G (eA E [id]) (fA F 1 N) (pc + 2) lv (.ref (E.2.2.1 id) :: st) (sN σ id)) : G E F pc lv (.int n :: st) σ :=
  g_newa (atype := .int) (ty := .int) (ci := 14) (t0 := 1) (x := fun M => (M, .inl (fun _ => 0))) hC rfl hw rfl (fun h => h) (ce_nwI hk (by decide)) (fun _ _ => rfl) hn hN hl hbt hid hz hA h1 h2 hd kk
theorem g_newJ (hC : Cx E F nL cc own Ts) {N id : Nat} {n : Int32} (hk : kd id = 15) (hw : Cond.arrayClass .long ∈ Ts) (hn : ¬ n < 0) (hN : n.toNatClampNeg = N) (hl : ln id = N) (hbt : N * componentBytes .long ≤ 536870912) (hid : ¬ AL E id) (hz : SZ E F id) (hA : ∀ q, F.1.2.2.2.1.heap.size ≤ q → F.1.2.2.2.2.2.1 q) (h1 : F.1.2.2.2.2.2.2.1 + 1 ≤ F.1.2.2.1.cells) (h2 : F.1.2.2.2.2.2.2.2 + N ≤ F.1.2.2.1.slots) (hd : decode cc pc = .ok (.newarray .long, 2)) (kk : Cx (eA E [id]) (fA F 1 N) nL cc own Ts → G (eA E [id]) (fA F 1 N) (pc + 2) lv (.ref (E.2.2.1 id) :: st) (sN σ id)) : G E F pc lv (.int n :: st) σ :=
  g_newa (atype := .long) (ty := .long) (ci := 15) (t0 := 2) (x := fun M => (M, .inr (.inl (fun _ => 0)))) hC rfl hw rfl (fun h => h) (ce_nwJ hk) (fun _ _ => rfl) hn hN hl hbt hid hz hA h1 h2 hd kk
theorem g_newB (hC : Cx E F nL cc own Ts) {N id : Nat} {n : Int32} (hk : kd id = 13) (hw : Cond.arrayClass .byte ∈ Ts) (hn : ¬ n < 0) (hN : n.toNatClampNeg = N) (hl : ln id = N) (hbt : N * componentBytes .byte ≤ 536870912) (hid : ¬ AL E id) (hz : SZ E F id) (hA : ∀ q, F.1.2.2.2.1.heap.size ≤ q → F.1.2.2.2.2.2.1 q) (h1 : F.1.2.2.2.2.2.2.1 + 1 ≤ F.1.2.2.1.cells) (h2 : F.1.2.2.2.2.2.2.2 + N ≤ F.1.2.2.1.slots) (hd : decode cc pc = .ok (.newarray .byte, 2)) (kk : Cx (eA E [id]) (fA F 1 N) nL cc own Ts → G (eA E [id]) (fA F 1 N) (pc + 2) lv (.ref (E.2.2.1 id) :: st) (sN σ id)) : G E F pc lv (.int n :: st) σ :=
  g_newa (atype := .byte) (ty := .byte) (ci := 13) (t0 := 0) (x := fun M => (M, .inl (fun _ => 0))) hC rfl hw rfl (fun h => h) (ce_nwI hk (by decide)) (fun _ _ => rfl) hn hN hl hbt hid hz hA h1 h2 hd kk
theorem g_newZ (hC : Cx E F nL cc own Ts) {N id : Nat} {n : Int32} (hk : kd id = 16) (hw : Cond.arrayClass .boolean ∈ Ts) (hn : ¬ n < 0) (hN : n.toNatClampNeg = N) (hl : ln id = N) (hbt : N * componentBytes .boolean ≤ 536870912) (hid : ¬ AL E id) (hz : SZ E F id) (hA : ∀ q, F.1.2.2.2.1.heap.size ≤ q → F.1.2.2.2.2.2.1 q) (h1 : F.1.2.2.2.2.2.2.1 + 1 ≤ F.1.2.2.1.cells) (h2 : F.1.2.2.2.2.2.2.2 + N ≤ F.1.2.2.1.slots) (hd : decode cc pc = .ok (.newarray .boolean, 2)) (kk : Cx (eA E [id]) (fA F 1 N) nL cc own Ts → G (eA E [id]) (fA F 1 N) (pc + 2) lv (.ref (E.2.2.1 id) :: st) (sN σ id)) : G E F pc lv (.int n :: st) σ :=
  g_newa (atype := .boolean) (ty := .boolean) (ci := 16) (t0 := 3) (x := fun M => (M, .inl (fun _ => 0))) hC rfl hw rfl (fun h => h) (ce_nwI hk (by decide)) (fun _ _ => rfl) hn hN hl hbt hid hz hA h1 h2 hd kk
/-- the constructor of Object -/
theorem g_obj (hC : Cx E F nL cc own Ts) {R : Room} (hO : Ro F R) {idx a : Nat} (hw1 : Cond.methodLink own idx Lib.objectInit ∈ Ts) (hw2 : Cond.instanceMethod Lib.objectInit ∈ Ts) (hw3 : Cond.code Lib.objectInit ⟨#[0xb1]⟩ 1 none ∈ Ts) (hd : decode cc pc = .ok (.invokespecial idx, 3)) (h1 : 1 ≤ R.frames) (h2 : (st.map fun v => v.category).sum + 12 ≤ R.locals) (kk : G E F (pc + 3) lv st σ) : G E F pc lv (.ref a :: st) σ := by
  intro hwf H locs ls hP hS hl
  refine W.objInit hC.1 hC.2.1 hC.2.2.2.1 (hC.2.2.2.2.1 _ hw1) (hC.2.2.2.2.1 _ hw2) (hC.2.2.2.2.1 _ hw3) (g := F0 _ pc ls (.ref a :: st)) rfl hl.1 rfl hd (by rw [hO]; exact h1) (by rw [hO]; show 2 * 0 + _ + 12 ≤ _; omega) (kk hwf H locs ls hP hS hl)
/-- final fields, in a constructor -/
theorem g_putRF (hC : Cx E F nL cc own Ts) {C ref : String} {T : u_T} {N ci k index t v : Nat} {ty0 : Nat → FieldType} (hin2 : F.2.2.2.1.name = "<init>") (hr : cr ci C T N) (hin : ∀ w ∈ u_ws C T N, w ∈ Ts) (hty0 : ∀ k, k < N → parseFieldDescriptor (T k).2.2.1 = some (ty0 k)) (hnm : ∀ a, a < N → ∀ b, b < N → a ≠ b → (T a).2.1 ≠ (T b).2.1) (hk : kd t = ci) (ht : AL E t) (hv : AL E v) (hkn : k < N) (hw : Cond.fieldLink own index ref (T k).2.1 (T k).2.2.1 ∈ Ts) (hs : ref = (T k).1) (hfin : (T k).2.2.2 = true) (hdecl : (T k).1 = own) (hty : ft ci k = ty0 k) (ht0 : isR (ty0 k) = true) (hd : decode cc pc = .ok (.putfield index, 3)) (kk : G E F (pc + 3) lv st (sR σ t k (some v))) : G E F pc lv (.ref (E.2.2.1 v) :: .ref (E.2.2.1 t) :: st) σ := by
  have hlen : k < nf ci := by rw [hr.2.1]; exact hkn
  have hnr : narrow (ty0 k) (.ref (E.2.2.1 v)) = .ref (E.2.2.1 v) := by
    generalize ty0 k = ty at ht0
    cases ty <;> first | rfl | (simp [isR] at ht0)
  have hfi : fits (ty0 k) (.ref (E.2.2.1 v)) = true := by
    generalize ty0 k = ty at ht0
    cases ty <;> first | rfl | (simp [isR] at ht0)
  exact fun hwf H locs ls hP hS hl => va_putF (ty := ty0 k) hC.1 hC.2.1 hC.2.2.2.2.1 hin ty0 hty0 hnm hC.2.2.2.1 hC.2.2.2.2.2.1 hP (wl_DA hC σ) hS (al_at ht).choose (by rw [wl_at σ (al_at ht).choose_spec, ce_o hk hr.2.2]) hr.1 k hkn (hC.2.2.2.2.1 _ hw) (by rw [hs]; exact fun _ h => h) hfin hin2 hdecl (hty0 k hkn) hnr hfi (by rw [fl_len]; exact hlen) hd (fun H1 locs1 hP1 hD1 hS1 => kk (wf_sR hwf hv) H1 locs1 ls (by
    rw [wl_set hC.2.2.2.2.2.2.1 (σ' := sR σ t k (some v)) (al_at ht).choose_spec (by rw [ce_o hk hr.2.2, fl_set (σ' := sR σ t k (some v)) hlen (by rw [hty, fv_R ht0]; show va_rf ((u2 σ.2.2 t k (some v) t k).map E.2.2.1) = _; rw [u2_e, if_pos ⟨rfl, rfl⟩]; rfl) (fun j hj => fv_nR (Or.inr hj) _)]) (fun x hx => ce_nR x hx)] at hP1
    exact hP1) hS1 hl)
/-- a new array of cones -/
theorem g_newC (hC : Cx E F nL cc own Ts) {index id N : Nat} {n : Int32} (hk : kd id = 17) (hl : ln id = N) (hcl : Cond.classLink own index "EveryMeasure$Cone" ∈ Ts) (hov : (Cond.arrayOver (.object "EveryMeasure$Cone")).before F.2.1 F.1.2.2.2.1 = true) (hn : ¬ n < 0) (hN : n.toNatClampNeg = N) (hbt : N * 4 ≤ 536870912) (hid : ¬ AL E id) (hz : SZ E F id) (hA : ∀ q, F.1.2.2.2.1.heap.size ≤ q → F.1.2.2.2.2.2.1 q) (h1 : F.1.2.2.2.2.2.2.1 + 1 ≤ F.1.2.2.1.cells) (h2 : F.1.2.2.2.2.2.2.2 + N ≤ F.1.2.2.1.slots) (hd : decode cc pc = .ok (.anewarray index, 3)) (kk : Cx (eA E [id]) (fA F 1 N) nL cc own Ts → G (eA E [id]) (fA F 1 N) (pc + 3) lv (.ref (E.2.2.1 id) :: st) (sN σ id)) : G E F pc lv (.int n :: st) σ := by
  subst hN
  intro hwf H locs ls hP hS hlv
  refine W_sz (fun Tt hT X => ?_)
  have hsz := sz_of hz hP hS hT X
  have hne : ∀ k, AL E k → E.2.2.1 k ≠ E.2.2.1 id := fun k h e => by
    have := al_lt hP h
    omega
  refine W.anew hC.1 hC.2.1 hC.2.2.2.1 (hC.2.2.2.2.1 _ hcl) hov rfl hd rfl hn hbt h1 h2 fun cA kA comp f1 f2 f3 f4 => ?_
  obtain ⟨kB, cB, -, -, -, g4⟩ := (hC.2.2.2.2.2.1.2 4 _ rfl).2
  have hcA : cA = E.2.2.2.1 17 := Option.some.inj (f1.symm.trans g4)
  subst hcA
  generalize hH1 : H.push ({ cls := E.2.2.2.1 17, slots := Array.replicate n.toNatClampNeg .null, vm := .none } : Cell) = H1
  have z1 : H1.size = H.size + 1 := by rw [← hH1, Array.size_push]
  have e1 : H1[E.2.2.1 id]? = some (arrV (E.2.2.2.1 17) n.toNatClampNeg (fun _ => .null)) := by rw [← hH1, ← hsz, Array.getElem?_push_size, ← arrV_new]
  have o1 : ∀ q : Nat, q < H.size → H1[q]? = H[q]? := fun q hq => by rw [← hH1, Array.getElem?_push, if_neg (Nat.ne_of_lt hq)]
  have hk9 : ∀ (k : Nat) (y : Nat × va_E), (wl E σ)[k]? = some y → H1[y.1]? = H[y.1]? := fun k y hy => o1 y.1 ((hP k y hy).lt)
  have hw2 : va_P E.2.1 vwCl (wl (eA E [id]) (sN σ id)) H1 := by
    rw [wl_eA hid]
    refine (hP.kept hk9).app (fun k y hy => ?_)
    have hz9 : k < 1 := (List.getElem?_eq_some_iff.mp hy).1
    rw [show k = 0 by omega] at hy
    cases hy
    rw [ce_R hk (by decide), (sN_i σ id).2.2]
    show H1[E.2.2.1 id]? = _
    rw [e1, hl]
    rfl
  rw [hsz]
  exact kk (cx_eA hC (EO_eA hC.2.2.2.2.2.2.1 hid hne) (hA _ (by rw [hz.1]; omega)) h1 h2) (wf_eA hwf) H1 locs ls hw2 ⟨Nat.le_trans hS.1 (by omega), fun y g1 g2 => (o1 y (Nat.lt_of_lt_of_le g1 hS.1)).trans (hS.2.1 y g1 g2), hS.2.2⟩ hlv
/-- a cone into its place -/
theorem g_aastC (hC : Cx E F nL cc own Ts) {a v : Nat} {i : Int32} (hk : kd a = 17) (ha : AL E a) (hkv : kd v = 1) (hv : AL E v) (hd : decode cc pc = .ok (.aastore, 1)) {α : Type} {b fo : Option α} (h : ck i (ln a) b = fo) (hf : fo ≠ none) (kk : b = fo → G E F (pc + 1) lv st (sR σ a i.toNatClampNeg (some v))) : G E F pc lv (.ref (E.2.2.1 v) :: .int i :: .ref (E.2.2.1 a) :: st) σ := by
  obtain ⟨h1, h2⟩ := ck_of h hf
  exact fun hwf H locs ls hP hS hl => va_astq hC.1 hC.2.1 hC.2.2.2.2.2.1 hP (wl_DA hC σ) hS (al_at ha).choose 4 (al_at hv).choose 1 (by rw [wl_at σ (al_at ha).choose_spec, ce_R hk (by decide)]) (r := (RX1, TX1, 6)) rfl (by rw [wl_at σ (al_at hv).choose_spec, ce_o hkv (by decide)]) cr1.1 h1 hd (fun H1 locs1 hP1 hD1 hS1 => kk h2 (wf_sR hwf hv) H1 locs1 ls (by
    rw [wl_set hC.2.2.2.2.2.2.1 (σ' := sR σ a i.toNatClampNeg (some v)) (al_at ha).choose_spec (by
      rw [ce_R hk (by decide)]
      have e : (fun j => ((sR σ a i.toNatClampNeg (some v)).2.2 a j).map E.2.2.1) = va_up (fun j => (σ.2.2 a j).map E.2.2.1) i.toNatClampNeg (some (E.2.2.1 v)) := by
        funext j
        show (u2 σ.2.2 a i.toNatClampNeg (some v) a j).map E.2.2.1 = _
        rw [u2_e]
        by_cases c : j = i.toNatClampNeg
        · rw [if_pos ⟨rfl, c⟩, c, va_up_self]; rfl
        · rw [if_neg (fun q => c q.2), va_up_ne _ _ c]
      rw [e]) (fun y hy => ce_nR y hy)] at hP1
    exact hP1) hS1 hl)
end GN
