/-! methods that return or throw: value and gap -/
def NSE : String := "java/util/NoSuchElementException"
def NMV : String := "java/lang/RuntimeException"
def NMX : List String := ["java/lang/Exception"]
def TW : List Cond := (vx_atX RX11 154 NSE 13 prog_23_method_4_code NMV NMX).filter goodWord
theorem tw_good : ∀ w ∈ TW, goodWord w = true := fun w h => (List.mem_filter.mp h).2
def TB : List Cond := (vx_atX RX11 154 NSE 13 prog_23_method_4_code NMV NMX).filter (fun w => !goodWord w)
def isCD : Cond → Bool
  | .castable .. => true
  | .declares _ => true
  | _ => false
theorem tb_cd : ∀ w ∈ TB, isCD w = true := by decide +kernel
theorem tb_ca : Cond.castable NSE NSE ∈ TB := by decide +kernel
theorem cd_mv {w : Cond} {u U : State} {a a' : Array Value} (hvm : u.vm.Alike U.vm) (hw : isCD w = true) (h : w.before a u = true) : w.before a' U = true := by
  cases w with
  | castable C D => exact va_tabs (u := u.setVm U.vm) (A := a) rfl rfl (by rw [Cond.castable_setVm hvm]; exact h)
  | declares x => exact va_tabs (u := u.setVm U.vm) (A := a) rfl rfl (by rw [Cond.declares_setVm hvm]; exact h)
  | _ => cases hw
theorem tb_mv {u U : State} {a a' : Array Value} (hvm : u.vm.Alike U.vm) (h : ∀ w ∈ TB, w.before a u = true) : ∀ w ∈ TB, w.before a' U = true := fun w hw => cd_mv hvm (tb_cd w hw) (h w hw)
theorem tw_ot : ∀ w ∈ Cond.classLink RX11 150 NSE :: Cond.initialized NSE :: vx_atX RX11 154 NSE 13 prog_23_method_4_code NMV NMX, vx_ot w = true := by decide +kernel
def GX : List Cond := GT ++ TW
theorem gx_ok : ∀ w ∈ GX, ((w.onTables && w.keeps) = true ∨ ∃ ty, w = .arrayClass ty) := fun w h => by
  rcases List.mem_append.mp h with h | h
  · exact gt_ok w h
  · exact good_of_word (tw_good w h)
theorem gx_in {ws : List Cond} (h : GoodIn GT ws) : GoodIn GX ws := fun w hw => ⟨List.mem_append_left _ (h w hw).1, (h w hw).2⟩
theorem gx_of {ws : List Cond} (h : ∀ w ∈ ws, w ∈ GX) : GoodIn GX ws := fun w hw => ⟨h w hw, gx_ok w (h w hw)⟩
theorem gx_V {own C : String} {idx : Nat} {y : MethodName} {c : Cond} (h1 : Cond.methodLink own idx y ∈ GT) (h2 : Cond.instanceMethod y ∈ GT) (h3 : Cond.selects C y y ∈ GT) (h4 : Cond.initialized C ∈ GT) (h5 : c ∈ GT) : GoodIn GX (wsV own idx C y (c :: GX)) := by
  refine gx_of (fun w hw => ?_)
  rcases List.mem_append.mp hw with h | h
  · refine List.mem_append_left _ ?_
    rcases List.mem_cons.mp h with rfl | h
    · exact h1
    · rcases List.mem_cons.mp h with rfl | h
      · exact h2
      · rcases List.mem_cons.mp h with rfl | h
        · exact h3
        · rw [List.mem_singleton.mp h]; exact h4
  · rcases List.mem_cons.mp h with rfl | h
    · exact List.mem_append_left _ h5
    · exact h
theorem gx_S {own : String} {idx : Nat} {y : MethodName} {c : Cond} (h1 : Cond.methodLink own idx y ∈ GT) (h2 : Cond.static y ∈ GT) (h4 : Cond.initialized y.cls ∈ GT) (h5 : c ∈ GT) : GoodIn GX (va_wsS own idx y (c :: GX)) := by
  refine gx_of (fun w hw => ?_)
  rcases List.mem_append.mp hw with h | h
  · refine List.mem_append_left _ ?_
    rcases List.mem_cons.mp h with rfl | h
    · exact h1
    · rcases List.mem_cons.mp h with rfl | h
      · exact h2
      · rw [List.mem_singleton.mp h]; exact h4
  · rcases List.mem_cons.mp h with rfl | h
    · exact List.mem_append_left _ h5
    · exact h
/-- what a throw reads of the machine -/
def TS (A : Nat → Prop) (U : State) : Prop := (∃ sa, vk_R RX11 152 "no such value" sa U) ∧ (∃ sa, vk_R RX11 234 "no such gap" sa U) ∧ vx_Zq Bundle.tN "UNASSIGNED_STACK" Bundle.steD A U U.heap ∧ vx_Zq Bundle.tN "SUPPRESSED_SENTINEL" Bundle.listD A U U.heap ∧ ∀ w ∈ TB, w.before #[] U = true
theorem ts_mv {A B : Nat → Prop} {U V : State} (h : TS A U) (hAB : ∀ q, B q → A q) (hW : U.WarmedH V.vm) (hq : ∀ a : Nat, a < U.heap.size → ¬ A a → V.heap[a]? = U.heap[a]?) : TS B V :=
  ⟨h.1.imp fun _ q => vk_R.warm hW q, h.2.1.imp fun _ q => vk_R.warm hW q, ((vx_Zq.moved hW.alike h.2.2.1).kept hq).narrow hAB, ((vx_Zq.moved hW.alike h.2.2.2.1).kept hq).narrow hAB, tb_mv hW.alike h.2.2.2.2⟩
theorem ts_call {A : Nat → Prop} {U V : State} (h : TS A U) (h1 : V.vm = U.vm) (h2 : V.heap = U.heap) : TS A V := by
  obtain ⟨a1, a2, a3, a4, a5⟩ := h
  have hA : U.vm.Alike V.vm := by rw [h1]; exact Vm.Alike.refl U.vm
  refine ⟨a1.imp fun _ q => vk_R.same h1 q, a2.imp fun _ q => vk_R.same h1 q, ?_, ?_, tb_mv hA a5⟩
  · rw [h2]; exact vx_Zq.moved hA a3
  · rw [h2]; exact vx_Zq.moved hA a4
def WX (E : ET) (σ : HS) (U : State) : Prop := Wd E σ U ∧ TS (aS E) U
theorem ct_blind (E : ET) (av : List Value) (σ : HS) : FrameBlind (va_Pc av (WX E σ)) := fun a U g mk q => ⟨q.1, ⟨q.2.1.1, va_K.moved (u := U) (U := U.calling g mk a) (Vm.Alike.refl U.vm) q.2.1.2.1, q.2.1.2.2⟩, ts_call q.2.2 rfl rfl⟩
def XO (E : ET) (A : Nat → Prop) (px : HS → Prop) : String → State → State → Prop := vx_X px (fun C u t => C = NSE ∧ Wd E u t) A
def CtI (E : ET) (y : MethodName) (ws : List Cond) (rm : Room) (av : List Value) (σ : HS) (fo : Option (Option Int32 × HS)) : Prop := vx_Met E.1 y ws rm (va_Pc av (WX E σ)) (va_Qi (fun r u => fo = some (some r, u)) (Wd E) (aS E)) (XO E (aS E) (fun u => fo = some (none, u))) 1 6 (aS E)
def CtJ (E : ET) (y : MethodName) (ws : List Cond) (rm : Room) (av : List Value) (σ : HS) (fo : Option (Option Int64 × HS)) : Prop := vx_Met E.1 y ws rm (va_Pc av (WX E σ)) (va_Ql (fun r u => fo = some (some r, u)) (Wd E) (aS E)) (XO E (aS E) (fun u => fo = some (none, u))) 1 6 (aS E)
/-- what a body that may throw stands on -/
def RX (E : ET) (F : FT) : Prop := F.1.2.2.2.2.2.2.1 = 0 ∧ F.1.2.2.2.2.2.2.2 = 0 ∧ 1 ≤ F.1.2.2.1.cells ∧ 6 ≤ F.1.2.2.1.slots ∧ (∀ x ∈ F.2.2.2.2.1.exceptionTable.toList, False) ∧ TS F.1.2.2.2.2.2.1 F.1.2.2.2.1 ∧ (∀ w ∈ TW, w.before F.2.1 F.1.2.2.2.1 = true) ∧ E.1.stackTraces = false ∧ 5 < F.1.2.2.1.frames ∧ 82 ≤ F.1.2.2.1.locals
def ROI (E : ET) (F : FT) (fo : Option (Option Int32 × HS)) : Prop := F.2.2.2.1.sig.returnType = some .int ∧ F.2.2.2.2.2 = vx_MQ F.2.2.1 (va_Qi (fun r u => fo = some (some r, u)) (Wd E) F.1.2.2.2.2.2.1) (XO E F.1.2.2.2.2.2.1 (fun u => fo = some (none, u))) F.2.1 F.1.2.2.2.1 1 6 F.1.2.2.2.2.2.1 ∧ RX E F
def ROJ (E : ET) (F : FT) (fo : Option (Option Int64 × HS)) : Prop := F.2.2.2.1.sig.returnType = some .long ∧ F.2.2.2.2.2 = vx_MQ F.2.2.1 (va_Ql (fun r u => fo = some (some r, u)) (Wd E) F.1.2.2.2.2.2.1) (XO E F.1.2.2.2.2.2.1 (fun u => fo = some (none, u))) F.2.1 F.1.2.2.2.1 1 6 F.1.2.2.2.2.2.1 ∧ RX E F
section CTO
variable {E : ET} {y : MethodName} {ws ws' : List Cond} {rm : Room} {av : List Value} {σ : HS} {cc : ByteArray} {maxL : Nat} {lv : List (Nat × Value)}
theorem ct_entry {Qc : Array Value → State → Outcome → State → Prop} {XC : String → State → State → Prop} {ret : Option FieldType} (hE : EO E) (hy : plainName y.cls = true) (hw : ws = Cond.code y cc maxL ret :: GX) (hl : (lg_sl av).length ≤ maxL) (hlv : lv_args 0 av = lv) (hrm : rm.cells = 1 ∧ rm.slots = 6 ∧ 5 < rm.frames ∧ 82 ≤ rm.locals) (htr : E.1.stackTraces = false)
    (body : ∀ F : FT, Cx E F maxL cc y.cls GT → Ro F rm → F.2.2.2.1.sig.returnType = ret → F.2.2.2.2.2 = vx_MQ F.2.2.1 Qc XC F.2.1 F.1.2.2.2.1 1 6 (aS E) → F.1.2.2.2.2.2.1 = aS E → RX E F → G E F 0 lv [] σ) : vx_Met E.1 y ws rm (va_Pc av (WX E σ)) Qc XC 1 6 (aS E) := by
  refine vx_ofW (cc := cc) (maxL := maxL) (ret := ret) hy hw ?_
  intro p e s m args below meth c s₁ B hml htab hv
  obtain ⟨rfl, ⟨hP, hK, hwf⟩, hX⟩ := hv
  have hts0 := atoms_spec (ws := ws) B.pre
  have hts : ∀ w ∈ GX, w.before av.toArray s = true := fun w h => hts0 w (by rw [hw]; exact List.mem_cons_of_mem _ h)
  have hown : s.vm.findClass y.cls = some m.cls := findClass_of_methodNamed B.named
  have hent := lv_entry av (n := maxL) hl
  rw [lg_entry_eq]
  exact body ((p, e, (headSpec ws rm).room, s, m, aS E, 0, 0), (av.toArray, below, meth, c, vx_MQ below Qc XC av.toArray s 1 6 (aS E))) ⟨B.exec, B.bytes, hml, hown, fun w h => hts w (List.mem_append_left _ h), hK, hE, B.notSynchronized, fun k h => ⟨k, h, rfl⟩, Nat.zero_le _, Nat.zero_le _⟩ rfl B.returns rfl rfl ⟨rfl, rfl, Nat.le_of_eq hrm.1.symm, Nat.le_of_eq hrm.2.1.symm, htab, hX, fun w h => hts w (List.mem_append_right _ h), htr, hrm.2.2.1, hrm.2.2.2⟩ hwf s.heap [] _ hP va_S.rf (by rw [hml, ← hlv]; exact hent)
theorem CtI.of {fo : Option (Option Int32 × HS)} (hE : EO E) (hy : plainName y.cls = true) (hw : ws = Cond.code y cc maxL (some .int) :: GX) (hl : (lg_sl av).length ≤ maxL) (hlv : lv_args 0 av = lv) (hrm : rm.cells = 1 ∧ rm.slots = 6 ∧ 5 < rm.frames ∧ 82 ≤ rm.locals) (htr : E.1.stackTraces = false) (body : ∀ F : FT, Cx E F maxL cc y.cls GT → Ro F rm → ROI E F fo → G E F 0 lv [] σ) : CtI E y ws rm av σ fo := ct_entry hE hy hw hl hlv hrm htr (fun F h1 h2 h3 h4 h5 h6 => body F h1 h2 ⟨h3, by rw [h4, h5], h6⟩)
theorem CtJ.of {fo : Option (Option Int64 × HS)} (hE : EO E) (hy : plainName y.cls = true) (hw : ws = Cond.code y cc maxL (some .long) :: GX) (hl : (lg_sl av).length ≤ maxL) (hlv : lv_args 0 av = lv) (hrm : rm.cells = 1 ∧ rm.slots = 6 ∧ 5 < rm.frames ∧ 82 ≤ rm.locals) (htr : E.1.stackTraces = false) (body : ∀ F : FT, Cx E F maxL cc y.cls GT → Ro F rm → ROJ E F fo → G E F 0 lv [] σ) : CtJ E y ws rm av σ fo := ct_entry hE hy hw hl hlv hrm htr (fun F h1 h2 h3 h4 h5 h6 => body F h1 h2 ⟨h3, by rw [h4, h5], h6⟩)
end CTO
theorem wx_link : Cond.classLink RX11 150 NSE ∈ GT := gtr_22 _ (List.mem_of_getElem? (i := 18) rfl)
theorem wx_ini : Cond.initialized NSE ∈ GT := gtr_22 _ (List.mem_of_getElem? (i := 19) rfl)
section GTH
variable {E : ET} {F : FT} {nL : Nat} {cc : ByteArray} {own : String} {Ts : List Cond} {pc : Nat} {lv : List (Nat × Value)} {st As : List Value} {σ : HS} {R : Room}
theorem g_oretI (hC : Cx E F nL cc own Ts) {fo : Option (Option Int32 × HS)} {x : Int32} (hR : ROI E F fo) (hd : decode cc pc = .ok (.ireturn, 1)) (h : some (some x, σ) = fo) : G E F pc lv [.int x] σ := by
  intro hwf H locs ls hP hS hl
  rw [hR.2.1]
  refine vx_ret (W.widen (k := 1) (n := 6) (by rw [hR.2.2.1]; exact Nat.zero_le _) (by rw [hR.2.2.2.1]; exact Nat.zero_le _) ?_)
  exact W.zret hC.1 hC.2.1 hR.1 rfl (fun t ht hW => ⟨⟨x, σ, rfl, h.symm, by rw [ht]; exact hP, va_K.moved hW.alike hC.2.2.2.2.2.1, hwf⟩, hS.F ht⟩) hS.2.2 hd hC.2.2.2.2.2.2.2.1
theorem g_oretJ (hC : Cx E F nL cc own Ts) {fo : Option (Option Int64 × HS)} {x : Int64} (hR : ROJ E F fo) (hd : decode cc pc = .ok (.lreturn, 1)) (h : some (some x, σ) = fo) : G E F pc lv [.long x] σ := by
  intro hwf H locs ls hP hS hl
  rw [hR.2.1]
  refine vx_ret (W.widen (k := 1) (n := 6) (by rw [hR.2.2.1]; exact Nat.zero_le _) (by rw [hR.2.2.2.1]; exact Nat.zero_le _) ?_)
  exact W.lret hC.1 hC.2.1 hR.1 (fun t ht hW => ⟨⟨x, σ, rfl, h.symm, by rw [ht]; exact hP, va_K.moved hW.alike hC.2.2.2.2.2.1, hwf⟩, hS.F ht⟩) hS.2.2 hd hC.2.2.2.2.2.2.2.1
theorem g_throw (hC : Cx E F nL cc RX11 GT) {Qc : Array Value → State → Outcome → State → Prop} {px : HS → Prop} (hQ : F.2.2.2.2.2 = vx_MQ F.2.2.1 Qc (XO E F.1.2.2.2.2.2.1 px) F.2.1 F.1.2.2.2.1 1 6 F.1.2.2.2.2.2.1) (hX : RX E F) {is : Nat} {tx : String} (hs : ∃ sa, vk_R RX11 is tx sa F.1.2.2.2.1) (d0 : decode cc pc = .ok (.new 150, 3)) (d3 : decode cc (pc + 3) = .ok (.dup, 1)) (d4 : decode cc (pc + 4) = .ok (.ldc is, 2)) (d6 : decode cc (pc + 6) = .ok (.invokespecial 154, 3)) (d9 : decode cc (pc + 9) = .ok (.athrow, 1)) (h : px σ) : G E F pc lv [] σ := by
  intro hwf H locs ls hP hS hl
  obtain ⟨sa, hsa⟩ := hs
  rw [hQ]
  obtain ⟨e1, e2, hc, hsl, hout, hts, htw, htr, hfr, hlo⟩ := hX
  exact vx_throwX (ix := 13) (rx := prog_23_method_4_code) (V := NMV) (r := NMX) (own := RX11) (cls := NSE) (ik := 150) (is := is) (ic := 154) (sa := sa) (text := tx) (A := F.1.2.2.2.2.2.1) hC.1 hC.2.1 htr (by decide +kernel) (by decide +kernel) (by decide +kernel) (by decide +kernel) hC.2.2.2.1 (by decide) (by decide) (by decide) (hC.2.2.2.2.1 _ wx_link) (hC.2.2.2.2.1 _ wx_ini) hsa (vx_hat (B := TB) htw (fun w h => h) (tb_mv (Vm.Alike.refl _) hts.2.2.2.2)) tw_ot hts.2.2.1 hts.2.2.2.1 hS hl.1 d0 d3 d4 d6 d9 (fun x hx => (hout x hx).elim) hfr (by show 0 + (13 * (1 + 2) + 43) ≤ _; omega) (by rw [e1]; omega) (by rw [e2]; omega) hC.2.2.2.2.2.2.2.1
    (fun t hvm hz hk => ⟨σ, h, ⟨rfl, hP.kept (fun k q hq => hk _ (vx_lt hP hq)), va_K.moved hvm hC.2.2.2.2.2.1, hwf⟩, ⟨Nat.le_trans hS.1 hz, fun q h1 h2 => by rw [hk q (Nat.lt_of_lt_of_le h1 hS.1)]; exact hS.2.1 q h1 h2⟩⟩) hS.2.2 (by rw [e1]; exact Nat.le_refl _) (by rw [e2]; exact Nat.le_refl _)
end GTH
def w_X11_value : List Cond := Cond.code yX11_value cX11_value 3 (some .int) :: GX
def rm_X11_value : Room := { frames := 6, cells := 1, slots := 6, locals := 230 }
set_option maxHeartbeats 4000000 in
set_option maxRecDepth 100000 in
theorem k_X11_value_23 {E : ET} {F : FT} {fo : Option (Option Int32 × HS)} (hC : Cx E F 3 cX11_value RX11 GT) (hO : Ro F rm_X11_value) (hR : ROI E F fo) (hf : fo ≠ none) (σ : HS) (h : f_X11_value_23 σ = fo) : G E F 23 [] [] σ := by
    exact g_throw (is := 152) hC hR.2.1 hR.2.2 hR.2.2.2.2.2.2.2.1.1 dX11_value_23 dX11_value_26 dX11_value_27 dX11_value_29 dX11_value_32 h.symm
set_option maxHeartbeats 4000000 in
set_option maxRecDepth 100000 in
theorem k_X11_value_0 {E : ET} {F : FT} {fo : Option (Option Int32 × HS)} (hC : Cx E F 3 cX11_value RX11 GT) (hO : Ro F rm_X11_value) (hR : ROI E F fo) (hf : fo ≠ none) (t : Nat) (ht1 : kd t = 11) (ht2 : AL E t) (x1 : Int32) (x2 : Int32) (σ : HS) (h : f_X11_value t x1 x2 σ = fo) : G E F 0 [(0, .ref (E.2.2.1 t)), (1, .int x1), (2, .int x2)] [] σ := by
    refine g_aload_n hC dX11_value_0 rfl 0 rfl ?_
    obtain ⟨q1, hq1, h⟩ := bd_of h hf
    refine g_cVV (As := []) hC hO (c_X11_freshen _ hC.2.2.2.2.2.2.1 t ht1 ht2 σ (nn_of hq1)) gc_X11_144 (xk_X11_freshen _ (Nat.le_of_ble_eq_true rfl) (Nat.le_of_ble_eq_true rfl)) cr11 ht1 ht2 rfl (Nat.le_of_ble_eq_true rfl) dX11_value_1 hq1 ?_
    refine g_aload_n hC dX11_value_4 rfl 0 rfl ?_
    refine g_getR (cj := 9) (k := 2) hC cr11 ui_11 ht1 ht2 (by decide) fl_X11_28 rfl rfl dX11_value_5 h hf (fun a2 ea2 ka2 na2 h => ?_)
    refine g_iload_n hC dX11_value_8 rfl 1 rfl ?_
    obtain ⟨q3, hq3, h⟩ := bd_of h hf
    refine g_cVI (As := [.int x1]) hC hO (c_X9_isTold _ hC.2.2.2.2.2.2.1 a2 ka2 na2 x1 q1 (nn_of hq3)) gc_X11_119 (xk_X9_isTold _ (Nat.le_of_ble_eq_true rfl) (Nat.le_of_ble_eq_true rfl)) cr9 ka2 na2 rfl (Nat.le_of_ble_eq_true rfl) dX11_value_9 hq3 ?_
    refine g_if_eq (tgt := 23) hC dX11_value_12 (by decide) h (fun c12 h => ?_) (fun c12 h => ?_)
    · exact g_sub [] rfl (k_X11_value_23 hC hO hR hf q3.2 h)
    · refine g_aload_n hC dX11_value_15 rfl 0 rfl ?_
      refine g_iload_n hC dX11_value_16 rfl 2 rfl ?_
      obtain ⟨q4, hq4, h⟩ := bd_of h hf
      refine g_cVI (As := [.int x2]) hC hO (c_X11_hasMeasure _ hC.2.2.2.2.2.2.1 t ht1 ht2 x2 q3.2 (nn_of hq4)) gc_X11_147 (xk_X11_hasMeasure _ (Nat.le_of_ble_eq_true rfl) (Nat.le_of_ble_eq_true rfl)) cr11 ht1 ht2 rfl (Nat.le_of_ble_eq_true rfl) dX11_value_17 hq4 ?_
      refine g_if_ne (tgt := 33) hC dX11_value_20 (by decide) h (fun c20 h => ?_) (fun c20 h => ?_)
      · refine g_aload_n hC dX11_value_33 rfl 0 rfl ?_
        refine g_getR (cj := 9) (k := 2) hC cr11 ui_11 ht1 ht2 (by decide) fl_X11_28 rfl rfl dX11_value_34 h hf (fun a5 ea5 ka5 na5 h => ?_)
        refine g_getR (cj := 18) (k := 1) hC cr9 ui_9 ka5 na5 (by decide) fl_X11_157 rfl rfl dX11_value_37 h hf (fun a6 ea6 ka6 na6 h => ?_)
        refine g_iload_n hC dX11_value_40 rfl 1 rfl ?_
        refine g_aaldI (cj := 14) hC ka6 na6 dX11_value_41 h hf (fun a7 ea7 ka7 na7 h => ?_)
        refine g_iload_n hC dX11_value_42 rfl 2 rfl ?_
        refine g_iald hC ka7 na7 dX11_value_43 h hf (fun h => ?_)
        exact g_oretI hC hR dX11_value_44 h
      · exact g_sub [] rfl (k_X11_value_23 hC hO hR hf q4.2 h)
theorem c_X11_value (E : ET) (hE : EO E) (htr : E.1.stackTraces = false) (t : Nat) (ht1 : kd t = 11) (ht2 : AL E t) (x1 : Int32) (x2 : Int32) (σ : HS) (hn : f_X11_value t x1 x2 σ ≠ none) : CtI E yX11_value w_X11_value rm_X11_value [.ref (E.2.2.1 t), .int x1, .int x2] σ (f_X11_value t x1 x2 σ) := CtI.of (lv := [(0, .ref (E.2.2.1 t)), (1, .int x1), (2, .int x2)]) hE (by decide) rfl (Nat.le_of_ble_eq_true rfl) rfl ⟨rfl, rfl, Nat.le_of_ble_eq_true rfl, Nat.le_of_ble_eq_true rfl⟩ htr (fun F hC hO hR => k_X11_value_0 hC hO hR hn t ht1 ht2 x1 x2 σ rfl)
def w_X11_gap : List Cond := Cond.code yX11_gap cX11_gap 4 (some .long) :: GX
def rm_X11_gap : Room := { frames := 6, cells := 1, slots := 6, locals := 230 }
theorem wc_X4_fillGap : Cond.code yX4_fillGap cX4_fillGap 5 none ∈ GT := gtr_38 _ (List.mem_of_getElem? (i := 20) rfl)
theorem gc_X11_236 : GoodIn GT (wsV RX11 236 RX4 yX4_fillGap w_X4_fillGap) := gi_V (gtr_38 _ (List.mem_of_getElem? (i := 17) rfl)) (gtr_38 _ (List.mem_of_getElem? (i := 18) rfl)) (gtr_38 _ (List.mem_of_getElem? (i := 19) rfl)) (gtr_2 _ (List.mem_of_getElem? (i := 8) rfl)) wc_X4_fillGap
set_option maxHeartbeats 4000000 in
set_option maxRecDepth 100000 in
theorem k_X11_gap_31 {E : ET} {F : FT} {fo : Option (Option Int64 × HS)} (hC : Cx E F 4 cX11_gap RX11 GT) (hO : Ro F rm_X11_gap) (hR : ROJ E F fo) (hf : fo ≠ none) (σ : HS) (h : f_X11_gap_31 σ = fo) : G E F 31 [] [] σ := by
    exact g_throw (is := 234) hC hR.2.1 hR.2.2 hR.2.2.2.2.2.2.2.1.2.1 dX11_gap_31 dX11_gap_34 dX11_gap_35 dX11_gap_37 dX11_gap_40 h.symm
set_option maxHeartbeats 4000000 in
set_option maxRecDepth 100000 in
theorem k_X11_gap_0 {E : ET} {F : FT} {fo : Option (Option Int64 × HS)} (hC : Cx E F 4 cX11_gap RX11 GT) (hO : Ro F rm_X11_gap) (hR : ROJ E F fo) (hf : fo ≠ none) (t : Nat) (ht1 : kd t = 11) (ht2 : AL E t) (x1 : Int32) (x2 : Int32) (x3 : Int32) (σ : HS) (h : f_X11_gap t x1 x2 x3 σ = fo) : G E F 0 [(0, .ref (E.2.2.1 t)), (1, .int x1), (2, .int x2), (3, .int x3)] [] σ := by
    refine g_aload_n hC dX11_gap_0 rfl 0 rfl ?_
    obtain ⟨q1, hq1, h⟩ := bd_of h hf
    refine g_cVV (As := []) hC hO (c_X11_freshen _ hC.2.2.2.2.2.2.1 t ht1 ht2 σ (nn_of hq1)) gc_X11_144 (xk_X11_freshen _ (Nat.le_of_ble_eq_true rfl) (Nat.le_of_ble_eq_true rfl)) cr11 ht1 ht2 rfl (Nat.le_of_ble_eq_true rfl) dX11_gap_1 hq1 ?_
    refine g_iload_n hC dX11_gap_4 rfl 3 rfl ?_
    obtain ⟨q2, hq2, h⟩ := bd_of h hf
    refine g_cSI (As := [.int x3]) hC hO (c_X11_isPart _ hC.2.2.2.2.2.2.1 x3 q1 (nn_of hq2)) gc_X11_168 (xk_X11_isPart _ (Nat.le_of_ble_eq_true rfl) (Nat.le_of_ble_eq_true rfl)) rfl (Nat.le_of_ble_eq_true rfl) dX11_gap_5 hq2 ?_
    refine g_if_eq (tgt := 31) hC dX11_gap_8 (by decide) h (fun c8 h => ?_) (fun c8 h => ?_)
    · exact g_sub [] rfl (k_X11_gap_31 hC hO hR hf q2.2 h)
    · refine g_aload_n hC dX11_gap_11 rfl 0 rfl ?_
      refine g_getR (cj := 4) (k := 4) hC cr11 ui_11 ht1 ht2 (by decide) fl_X11_44 rfl rfl dX11_gap_12 h hf (fun a3 ea3 ka3 na3 h => ?_)
      refine g_aload_n hC dX11_gap_15 rfl 0 rfl ?_
      refine g_getR (cj := 10) (k := 3) hC cr11 ui_11 ht1 ht2 (by decide) fl_X11_35 rfl rfl dX11_gap_16 h hf (fun a4 ea4 ka4 na4 h => ?_)
      refine g_getR (cj := 1) (k := 2) hC cr10 ui_10 ka4 na4 (by decide) fl_X11_196 rfl rfl dX11_gap_19 h hf (fun a5 ea5 ka5 na5 h => ?_)
      refine g_iload_n hC dX11_gap_22 rfl 1 rfl ?_
      refine g_iload_n hC dX11_gap_23 rfl 2 rfl ?_
      obtain ⟨q6, hq6, h⟩ := bd_of h hf
      refine g_cVI (As := [.ref (E.2.2.1 a5), .int x1, .int x2]) hC hO (c_X4_compare _ hC.2.2.2.2.2.2.1 a3 ka3 na3 a5 ka5 na5 x1 x2 q2.2 (nn_of hq6)) gc_X11_230 (xk_X4_compare _ (Nat.le_of_ble_eq_true rfl) (Nat.le_of_ble_eq_true rfl)) cr4 ka3 na3 rfl (Nat.le_of_ble_eq_true rfl) dX11_gap_24 hq6 ?_
      refine g_iconst (v := (-1)) hC dX11_gap_27 (by decide) ?_
      refine g_icmp_ne (tgt := 41) hC dX11_gap_28 (by decide) h (fun c28 h => ?_) (fun c28 h => ?_)
      · refine g_aload_n hC dX11_gap_41 rfl 0 rfl ?_
        refine g_getR (cj := 4) (k := 4) hC cr11 ui_11 ht1 ht2 (by decide) fl_X11_44 rfl rfl dX11_gap_42 h hf (fun a7 ea7 ka7 na7 h => ?_)
        refine g_iload_n hC dX11_gap_45 rfl 1 rfl ?_
        refine g_iload_n hC dX11_gap_46 rfl 2 rfl ?_
        refine g_aload_n hC dX11_gap_47 rfl 0 rfl ?_
        refine g_getR (cj := 3) (k := 8) hC cr11 ui_11 ht1 ht2 (by decide) fl_X11_76 rfl rfl dX11_gap_48 h hf (fun a8 ea8 ka8 na8 h => ?_)
        obtain ⟨q9, hq9, h⟩ := bd_of h hf
        refine g_cVV (As := [.int x1, .int x2, .ref (E.2.2.1 a8)]) hC hO (c_X4_fillGap _ hC.2.2.2.2.2.2.1 a7 ka7 na7 x1 x2 a8 ka8 na8 q6.2 (nn_of hq9)) gc_X11_236 (xk_X4_fillGap _ (Nat.le_of_ble_eq_true rfl) (Nat.le_of_ble_eq_true rfl)) cr4 ka7 na7 rfl (Nat.le_of_ble_eq_true rfl) dX11_gap_51 hq9 ?_
        refine g_aload_n hC dX11_gap_54 rfl 0 rfl ?_
        refine g_getR (cj := 3) (k := 8) hC cr11 ui_11 ht1 ht2 (by decide) fl_X11_76 rfl rfl dX11_gap_55 h hf (fun a10 ea10 ka10 na10 h => ?_)
        obtain ⟨q11, hq11, h⟩ := bd_of h hf
        refine g_cVV (As := []) hC hO (c_X3_reduce _ hC.2.2.2.2.2.2.1 a10 ka10 na10 q9 (nn_of hq11)) gc_X11_183 (xk_X3_reduce _ (Nat.le_of_ble_eq_true rfl) (Nat.le_of_ble_eq_true rfl)) cr3 ka10 na10 rfl (Nat.le_of_ble_eq_true rfl) dX11_gap_58 hq11 ?_
        refine g_aload_n hC dX11_gap_61 rfl 0 rfl ?_
        refine g_getR (cj := 3) (k := 8) hC cr11 ui_11 ht1 ht2 (by decide) fl_X11_76 rfl rfl dX11_gap_62 h hf (fun a12 ea12 ka12 na12 h => ?_)
        refine g_iload_n hC dX11_gap_65 rfl 3 rfl ?_
        obtain ⟨q13, hq13, h⟩ := bd_of h hf
        refine g_cVJ (As := [.int x3]) hC hO (c_X3_part _ hC.2.2.2.2.2.2.1 a12 ka12 na12 x3 q11 (nn_of hq13)) gc_X11_186 (xk_X3_part _ (Nat.le_of_ble_eq_true rfl) (Nat.le_of_ble_eq_true rfl)) cr3 ka12 na12 rfl (Nat.le_of_ble_eq_true rfl) dX11_gap_66 hq13 ?_
        exact g_oretJ hC hR dX11_gap_69 h
      · exact g_sub [] rfl (k_X11_gap_31 hC hO hR hf q6.2 h)
theorem c_X11_gap (E : ET) (hE : EO E) (htr : E.1.stackTraces = false) (t : Nat) (ht1 : kd t = 11) (ht2 : AL E t) (x1 : Int32) (x2 : Int32) (x3 : Int32) (σ : HS) (hn : f_X11_gap t x1 x2 x3 σ ≠ none) : CtJ E yX11_gap w_X11_gap rm_X11_gap [.ref (E.2.2.1 t), .int x1, .int x2, .int x3] σ (f_X11_gap t x1 x2 x3 σ) := CtJ.of (lv := [(0, .ref (E.2.2.1 t)), (1, .int x1), (2, .int x2), (3, .int x3)]) hE (by decide) rfl (Nat.le_of_ble_eq_true rfl) rfl ⟨rfl, rfl, Nat.le_of_ble_eq_true rfl, Nat.le_of_ble_eq_true rfl⟩ htr (fun F hC hO hR => k_X11_gap_0 hC hO hR hn t ht1 ht2 x1 x2 x3 σ rfl)
