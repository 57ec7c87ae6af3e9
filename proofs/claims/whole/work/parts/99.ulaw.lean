/-! THE CLAIM OUT OF ONE WALK OF THE LAW'S BODY. Your part is whole_start (and what it stands on); all else here is the same for every law, but numbers. -/
def R_law : String := "EveryMeasureLaw"
def lw_P (b : Addr) (xs : List Int32) (args : Array Value) (s : State) : Prop := args = #[.ref b] ∧ s.IntsAt b xs ∧ xs.length ≤ 3584 ∧ (Jvm.Cond.and given_1 narrow_1).before args s = true
def lw_Q (_ : Array Value) (s : State) (o : Outcome) (t : State) : Prop := o = .returned (some (.int 1)) ∧ Framed s o t [] 601024 7293034
def lw_Z (below : List Frame) (a : Array Value) (s : State) : State → Prop := fun t => ∃ o, t.status = .running ∧ Ended t below o ∧ lw_Q a s o t
/-- the law's own end, with 1 on the stack, nothing written that was there before, its room as the claim has it -/
theorem lw_ret {p : Program} {l : Launch} {e : Env} {s : State} {m : MethodId} {below : List Frame} {meth : Method} {c : Code} {b : Nat} (hx : p.tables.exec = Jvm.exec) (hb : c.code = code) (hr : meth.sig.returnType = ret) (hlocks : meth.locks = false) {pc : Nat} {H : Heap} {ls : Array Slot} (hdg : decode code pc = .ok (.ireturn, 1)) : W p l e room_1 s m #[Value.ref b] below meth c H [] 601024 7293034 (lw_Z below #[Value.ref b] s) (F0 m pc ls [.int 1]) := by
  intro T hT X
  obtain ⟨fs, hret, hrun, hended, hW, hframe⟩ := X.leave (v := some (.int 1)) (hlocks := hlocks) (fun h => by rw [hr] at h; cases h)
  have hmeth' : T.vm.method? m = some meth := X.method'
  refine ⟨T.setFrames fs, ?_, .returned (some (.int 1)), hrun, hended, rfl, ⟨_, rfl⟩, hW, hframe⟩
  jvm_step X.here [X.here.top, hx, hb, hdg, hmeth', hr, ret, narrow_b1]
  (try refine ⟨rfl, ?_⟩); (try refine ⟨rfl, ?_⟩)
  first | (intro acts; rw [hret _ acts rfl rfl rfl]) | rw [hret _ _ rfl rfl rfl]
  exact Steps.refl _
/-- what holds at the law's entry: the machine, the code, the tables' words (any of lw_tbl by 'hts w (by decide +kernel)'), the script of L ints xs at the cell b, what the Statement gives of the start (any of its parts by flat_of_before) -/
def lw_At (p : Program) (s : State) (m : MethodId) (meth : Method) (c : Code) (b L : Nat) (xs : Nat → Int32) : Prop :=
  p.tables.exec = Jvm.exec ∧ c.code = code ∧ meth.sig.returnType = ret ∧ c.maxLocals = 8 ∧ s.vm.findClass R_law = some m.cls ∧ (∀ w ∈ lw_tbl, w.before #[Value.ref b] s = true) ∧ va_X b L xs s s.heap ∧ b < s.heap.size ∧ meth.locks = false ∧ (Jvm.Cond.and given_1 narrow_1).before #[Value.ref b] s = true
theorem wc_X12_value : Cond.code yX12_value cX12_value 3 (some .int) ∈ GT := gtr_26 _ (List.mem_of_getElem? (i := 20) rfl)
theorem gc_L_58 : GoodIn GT (wsV RL 58 RX12 yX12_value w_X12_value) := gi_V (gtr_26 _ (List.mem_of_getElem? (i := 17) rfl)) (gtr_26 _ (List.mem_of_getElem? (i := 18) rfl)) (gtr_26 _ (List.mem_of_getElem? (i := 19) rfl)) (gtr_1 _ (List.mem_of_getElem? (i := 5) rfl)) wc_X12_value
theorem wc_X12_thrown : Cond.code yX12_thrown cX12_thrown 1 (some .int) ∈ GT := gtr_27 _ (List.mem_of_getElem? (i := 8) rfl)
theorem gc_L_59 : GoodIn GT (wsV RL 59 RX12 yX12_thrown w_X12_thrown) := gi_V (gtr_27 _ (List.mem_of_getElem? (i := 5) rfl)) (gtr_27 _ (List.mem_of_getElem? (i := 6) rfl)) (gtr_27 _ (List.mem_of_getElem? (i := 7) rfl)) (gtr_1 _ (List.mem_of_getElem? (i := 5) rfl)) wc_X12_thrown
theorem gs_L_53 : GoodIn GX (va_wsS RL 53 yL_value w_L_value) := gx_S (gtr_22 _ (List.mem_of_getElem? (i := 9) rfl)) (gtr_22 _ (List.mem_of_getElem? (i := 10) rfl)) (gtr_22 _ (List.mem_of_getElem? (i := 11) rfl)) (gtr_22 _ (List.mem_of_getElem? (i := 12) rfl))
set_option maxHeartbeats 4000000 in
set_option maxRecDepth 100000 in
theorem lw_c6 {E : ET} {F : FT} {K : KT} {b L : Nat} {xs : Nat → Int32} (hF : LF E K b L xs F) (j : Nat) (hj : 7 * j + 7 ≤ L) (σ : HS) (hI : Inv σ) (hcs : F.1.2.2.2.2.2.2.1 + 1 ≤ room_1.cells ∧ F.1.2.2.2.2.2.2.2 + 6 ≤ room_1.slots) (kk : ∀ σ', Inv σ' → G E (fA F 1 6) 1492 (LV E b j) [] σ') : G E F 496 (LV E b j) [] σ := by
  obtain ⟨hC, hO, hX, hK, hT, al, htr⟩ := hF
  have hO1 : F.1.2.2.1 = room_1 := hO
  have hC2 : Cx E (fA F 1 6) 8 cL_law RL GT := cx_fA hC (by rw [hO1]; exact hcs.1) (by rw [hO1]; exact hcs.2)
  have hO2 : Ro (fA F 1 6) room_1 := hO
  have hX2 : SC (fA F 1 6) b L xs := hX
  obtain ⟨o, σ1, h1, hup⟩ := inv_value2 (xs (7 * j + 1)) (xs (7 * j + 2)) hI
  cases o with
  | some v =>
    obtain ⟨bb, σ2, h2, h3, h4, h5⟩ := hup _ (Or.inr ⟨v.toInt64, rfl⟩)
    rcases h4 with ⟨e1, e2⟩ | ⟨e1, e2⟩
    rotate_left
    · cases e1
    have e1 := Option.some.inj e1
    have e5 : σ2.2.1 25 (0 : Int32).toNatClampNeg = bb.toInt64 := by
      refine Eq.trans h5 ?_
      rw [← e1]
      exact (u2_e σ1.2.1 25 0 25 0 _).trans (if_pos ⟨rfl, rfl⟩)
    refine g_aload_n hC dL_law_496 rfl 2 rfl ?_
    refine g_aload_n hC dL_law_497 rfl 1 rfl ?_
    refine g_iload hC dL_law_498 0 rfl ?_
    refine g_iconst (v := 1) hC dL_law_500 (by decide) ?_
    refine g_iadd hC dL_law_501 ?_
    refine g_scr hC hX 1 (by decide) (by omega) dL_law_502 ?_
    refine g_aload_n hC dL_law_503 rfl 1 rfl ?_
    refine g_iload hC dL_law_504 0 rfl ?_
    refine g_iconst (v := 2) hC dL_law_506 (by decide) ?_
    refine g_iadd hC dL_law_507 ?_
    refine g_scr hC hX 2 (by decide) (by omega) dL_law_508 ?_
    refine g_aload_n hC dL_law_509 rfl 4 rfl ?_
    refine g_lSI (As := [.ref (E.2.2.1 26), .int (xs (7 * j + 1)), .int (xs (7 * j + 2)), .ref (E.2.2.1 25)]) (n := 4) (r := 0) (σ' := (sJ σ1 25 0 v.toInt64)) hC hT hO (c_L_value _ hC.2.2.2.2.2.2.1 htr (al 26 (by decide)) (al 25 (by decide)) (xs (7 * j + 1)) (xs (7 * j + 2)) σ (nn_of h1)) rfl gs_L_53 ⟨rfl, rfl, (Nat.le_of_ble_eq_true rfl), (Nat.le_of_ble_eq_true rfl)⟩ ⟨by decide, by decide, by decide +kernel⟩ rfl (Nat.le_of_ble_eq_true rfl) dL_law_510 hcs (by rw [l_value, h1]; rfl) ?_
    refine g_istore (lv' := [(5, .int 0), (4, .int (nI (7 * j))), (0, .ref b), (1, .ref (E.2.2.1 26)), (2, .ref (E.2.2.1 0)), (3, .ref (E.2.2.1 25))]) hC2 dL_law_513 (by decide) rfl ?_
    refine g_aload_n hC2 dL_law_515 rfl 4 rfl ?_
    refine g_aload_n hC2 dL_law_516 rfl 2 rfl ?_
    refine g_iload hC2 dL_law_517 1 rfl ?_
    refine g_iconst (v := 1) hC2 dL_law_519 (by decide) ?_
    refine g_iadd hC2 dL_law_520 ?_
    refine g_scr hC2 hX2 1 (by decide) (by omega) dL_law_521 ?_
    refine g_aload_n hC2 dL_law_522 rfl 2 rfl ?_
    refine g_iload hC2 dL_law_523 1 rfl ?_
    refine g_iconst (v := 2) hC2 dL_law_525 (by decide) ?_
    refine g_iadd hC2 dL_law_526 ?_
    refine g_scr hC2 hX2 2 (by decide) (by omega) dL_law_527 ?_
    refine g_cVI (As := [.int (xs (7 * j + 1)), .int (xs (7 * j + 2))]) hC2 hO2 (c_X12_value _ hC.2.2.2.2.2.2.1 0 rfl (al 0 (by decide)) (xs (7 * j + 1)) (xs (7 * j + 2)) _ (nn_of h2)) gc_L_58 (xk_X12_value _ (Nat.le_of_ble_eq_true rfl) (Nat.le_of_ble_eq_true rfl)) cr12 rfl (al 0 (by decide)) rfl (Nat.le_of_ble_eq_true rfl) dL_law_528 h2 ?_
    refine g_istore (lv' := [(6, .int bb), (5, .int 0), (4, .int (nI (7 * j))), (0, .ref b), (1, .ref (E.2.2.1 26)), (2, .ref (E.2.2.1 0)), (3, .ref (E.2.2.1 25))]) hC2 dL_law_531 (by decide) rfl ?_
    refine g_aload_n hC2 dL_law_533 rfl 5 rfl ?_
    refine g_cVI (As := []) (r := σ2.1 0 0) (σ' := σ2) hC2 hO2 (c_X12_thrown _ hC.2.2.2.2.2.2.1 0 rfl (al 0 (by decide)) σ2 (nn_of inv_thrown)) gc_L_59 (xk_X12_thrown _ (Nat.le_of_ble_eq_true rfl) (Nat.le_of_ble_eq_true rfl)) cr12 rfl (al 0 (by decide)) rfl (Nat.le_of_ble_eq_true rfl) dL_law_534 inv_thrown ?_
    refine g_iload hC2 dL_law_537 1 rfl ?_
    refine g_icmp_eq (tgt := 544) (a := some ()) (b := none) (fo := some ()) hC2 dL_law_539 (by decide) (if_pos e2) (fun _ _ => ?_) (fun c _ => absurd e2 c)
    refine g_iload hC2 dL_law_544 1 rfl ?_
    refine g_if_ne (tgt := 561) (a := none) (b := some ()) (fo := some ()) hC2 dL_law_546 (by decide) (if_pos rfl) (fun c _ => absurd rfl c) (fun _ _ => ?_)
    refine g_aload_n hC2 dL_law_549 rfl 6 rfl ?_
    refine g_iconst (v := 0) hC2 dL_law_550 (by decide) ?_
    refine g_lald (a := 25) (fo := some ()) (b := some ()) hC2 rfl (al 25 (by decide)) dL_law_551 (ck_ok ⟨rfl, by decide⟩) (by simp) (fun _ => ?_)
    refine g_iload hC2 dL_law_552 0 rfl ?_
    refine g_i2l hC2 dL_law_554 ?_
    refine g_lc_eq (tgt := 561) (a := some ()) (b := none) (fo := some ()) hC2 dL_law_555 dL_law_556 (by decide) (if_pos e5) (fun _ _ => ?_) (fun c _ => absurd e5 c)
    refine g_goto (tgt := 1492) hC2 dL_law_561 (by decide) ?_
    exact g_sub [2, 3, 4, 5, 6] rfl (kk _ h3)
  | none =>
    obtain ⟨bb, σ2, h2, h3, h4, h5⟩ := hup _ (Or.inl rfl)
    rcases h4 with ⟨e1, e2⟩ | ⟨e1, e2⟩
    · cases e1
    refine g_aload_n hC dL_law_496 rfl 2 rfl ?_
    refine g_aload_n hC dL_law_497 rfl 1 rfl ?_
    refine g_iload hC dL_law_498 0 rfl ?_
    refine g_iconst (v := 1) hC dL_law_500 (by decide) ?_
    refine g_iadd hC dL_law_501 ?_
    refine g_scr hC hX 1 (by decide) (by omega) dL_law_502 ?_
    refine g_aload_n hC dL_law_503 rfl 1 rfl ?_
    refine g_iload hC dL_law_504 0 rfl ?_
    refine g_iconst (v := 2) hC dL_law_506 (by decide) ?_
    refine g_iadd hC dL_law_507 ?_
    refine g_scr hC hX 2 (by decide) (by omega) dL_law_508 ?_
    refine g_aload_n hC dL_law_509 rfl 4 rfl ?_
    refine g_lSI (As := [.ref (E.2.2.1 26), .int (xs (7 * j + 1)), .int (xs (7 * j + 2)), .ref (E.2.2.1 25)]) (n := 4) (r := 1) (σ' := σ1) hC hT hO (c_L_value _ hC.2.2.2.2.2.2.1 htr (al 26 (by decide)) (al 25 (by decide)) (xs (7 * j + 1)) (xs (7 * j + 2)) σ (nn_of h1)) rfl gs_L_53 ⟨rfl, rfl, (Nat.le_of_ble_eq_true rfl), (Nat.le_of_ble_eq_true rfl)⟩ ⟨by decide, by decide, by decide +kernel⟩ rfl (Nat.le_of_ble_eq_true rfl) dL_law_510 hcs (by rw [l_value, h1]; rfl) ?_
    refine g_istore (lv' := [(5, .int 1), (4, .int (nI (7 * j))), (0, .ref b), (1, .ref (E.2.2.1 26)), (2, .ref (E.2.2.1 0)), (3, .ref (E.2.2.1 25))]) hC2 dL_law_513 (by decide) rfl ?_
    refine g_aload_n hC2 dL_law_515 rfl 4 rfl ?_
    refine g_aload_n hC2 dL_law_516 rfl 2 rfl ?_
    refine g_iload hC2 dL_law_517 1 rfl ?_
    refine g_iconst (v := 1) hC2 dL_law_519 (by decide) ?_
    refine g_iadd hC2 dL_law_520 ?_
    refine g_scr hC2 hX2 1 (by decide) (by omega) dL_law_521 ?_
    refine g_aload_n hC2 dL_law_522 rfl 2 rfl ?_
    refine g_iload hC2 dL_law_523 1 rfl ?_
    refine g_iconst (v := 2) hC2 dL_law_525 (by decide) ?_
    refine g_iadd hC2 dL_law_526 ?_
    refine g_scr hC2 hX2 2 (by decide) (by omega) dL_law_527 ?_
    refine g_cVI (As := [.int (xs (7 * j + 1)), .int (xs (7 * j + 2))]) hC2 hO2 (c_X12_value _ hC.2.2.2.2.2.2.1 0 rfl (al 0 (by decide)) (xs (7 * j + 1)) (xs (7 * j + 2)) _ (nn_of h2)) gc_L_58 (xk_X12_value _ (Nat.le_of_ble_eq_true rfl) (Nat.le_of_ble_eq_true rfl)) cr12 rfl (al 0 (by decide)) rfl (Nat.le_of_ble_eq_true rfl) dL_law_528 h2 ?_
    refine g_istore (lv' := [(6, .int bb), (5, .int 1), (4, .int (nI (7 * j))), (0, .ref b), (1, .ref (E.2.2.1 26)), (2, .ref (E.2.2.1 0)), (3, .ref (E.2.2.1 25))]) hC2 dL_law_531 (by decide) rfl ?_
    refine g_aload_n hC2 dL_law_533 rfl 5 rfl ?_
    refine g_cVI (As := []) (r := σ2.1 0 0) (σ' := σ2) hC2 hO2 (c_X12_thrown _ hC.2.2.2.2.2.2.1 0 rfl (al 0 (by decide)) σ2 (nn_of inv_thrown)) gc_L_59 (xk_X12_thrown _ (Nat.le_of_ble_eq_true rfl) (Nat.le_of_ble_eq_true rfl)) cr12 rfl (al 0 (by decide)) rfl (Nat.le_of_ble_eq_true rfl) dL_law_534 inv_thrown ?_
    refine g_iload hC2 dL_law_537 1 rfl ?_
    refine g_icmp_eq (tgt := 544) (a := some ()) (b := none) (fo := some ()) hC2 dL_law_539 (by decide) (if_pos e2) (fun _ _ => ?_) (fun c _ => absurd e2 c)
    refine g_iload hC2 dL_law_544 1 rfl ?_
    refine g_if_ne (tgt := 561) (a := some ()) (b := none) (fo := some ()) hC2 dL_law_546 (by decide) (if_neg (by decide)) (fun _ _ => ?_) (fun c _ => absurd c (by decide))
    refine g_goto (tgt := 1492) hC2 dL_law_561 (by decide) ?_
    exact g_sub [2, 3, 4, 5, 6] rfl (kk _ h3)
theorem wc_X12_gap : Cond.code yX12_gap cX12_gap 6 (some .long) ∈ GT := gtr_39 _ (List.mem_of_getElem? (i := 14) rfl)
theorem gc_L_93 : GoodIn GT (wsV RL 93 RX12 yX12_gap w_X12_gap) := gi_V (gtr_39 _ (List.mem_of_getElem? (i := 11) rfl)) (gtr_39 _ (List.mem_of_getElem? (i := 12) rfl)) (gtr_39 _ (List.mem_of_getElem? (i := 13) rfl)) (gtr_1 _ (List.mem_of_getElem? (i := 5) rfl)) wc_X12_gap
theorem gs_L_90 : GoodIn GX (va_wsS RL 90 yL_gap w_L_gap) := gx_S (gtr_38 _ (List.mem_of_getElem? (i := 10) rfl)) (gtr_38 _ (List.mem_of_getElem? (i := 11) rfl)) (gtr_22 _ (List.mem_of_getElem? (i := 11) rfl)) (gtr_38 _ (List.mem_of_getElem? (i := 12) rfl))
set_option maxHeartbeats 4000000 in
set_option maxRecDepth 100000 in
theorem lw_c13 {E : ET} {F : FT} {K : KT} {b L : Nat} {xs : Nat → Int32} (hF : LF E K b L xs F) (j : Nat) (hj : 7 * j + 7 ≤ L) (σ : HS) (hI : Inv σ) (hcs : F.1.2.2.2.2.2.2.1 + 1 ≤ room_1.cells ∧ F.1.2.2.2.2.2.2.2 + 6 ≤ room_1.slots) (kk : ∀ σ', Inv σ' → G E (fA F 1 6) 1492 (LV E b j) [] σ') : G E F 837 (LV E b j) [] σ := by
  obtain ⟨hC, hO, hX, hK, hT, al, htr⟩ := hF
  have hO1 : F.1.2.2.1 = room_1 := hO
  have hC2 : Cx E (fA F 1 6) 8 cL_law RL GT := cx_fA hC (by rw [hO1]; exact hcs.1) (by rw [hO1]; exact hcs.2)
  have hO2 : Ro (fA F 1 6) room_1 := hO
  have hX2 : SC (fA F 1 6) b L xs := hX
  obtain ⟨o, σ1, h1, hup⟩ := inv_gap2 (xs (7 * j + 1)) (xs (7 * j + 2)) (xs (7 * j + 3)) hI
  cases o with
  | some v =>
    obtain ⟨bb, σ2, h2, h3, h4, h5⟩ := hup _ (Or.inr ⟨v, rfl⟩)
    rcases h4 with ⟨e1, e2⟩ | ⟨e1, e2⟩
    rotate_left
    · cases e1
    have e1 := Option.some.inj e1
    have e5 : σ2.2.1 25 (0 : Int32).toNatClampNeg = bb := by
      refine Eq.trans h5 ?_
      rw [← e1]
      exact (u2_e σ1.2.1 25 0 25 0 _).trans (if_pos ⟨rfl, rfl⟩)
    refine g_aload_n hC dL_law_837 rfl 2 rfl ?_
    refine g_aload_n hC dL_law_838 rfl 1 rfl ?_
    refine g_iload hC dL_law_839 0 rfl ?_
    refine g_iconst (v := 1) hC dL_law_841 (by decide) ?_
    refine g_iadd hC dL_law_842 ?_
    refine g_scr hC hX 1 (by decide) (by omega) dL_law_843 ?_
    refine g_aload_n hC dL_law_844 rfl 1 rfl ?_
    refine g_iload hC dL_law_845 0 rfl ?_
    refine g_iconst (v := 2) hC dL_law_847 (by decide) ?_
    refine g_iadd hC dL_law_848 ?_
    refine g_scr hC hX 2 (by decide) (by omega) dL_law_849 ?_
    refine g_aload_n hC dL_law_850 rfl 1 rfl ?_
    refine g_iload hC dL_law_851 0 rfl ?_
    refine g_iconst (v := 3) hC dL_law_853 (by decide) ?_
    refine g_iadd hC dL_law_854 ?_
    refine g_scr hC hX 3 (by decide) (by omega) dL_law_855 ?_
    refine g_aload_n hC dL_law_856 rfl 4 rfl ?_
    refine g_lSI (As := [.ref (E.2.2.1 26), .int (xs (7 * j + 1)), .int (xs (7 * j + 2)), .int (xs (7 * j + 3)), .ref (E.2.2.1 25)]) (n := 5) (r := 0) (σ' := (sJ σ1 25 0 v)) hC hT hO (c_L_gap _ hC.2.2.2.2.2.2.1 htr (al 26 (by decide)) (al 25 (by decide)) (xs (7 * j + 1)) (xs (7 * j + 2)) (xs (7 * j + 3)) σ (nn_of h1)) rfl gs_L_90 ⟨rfl, rfl, (Nat.le_of_ble_eq_true rfl), (Nat.le_of_ble_eq_true rfl)⟩ ⟨by decide, by decide, by decide +kernel⟩ rfl (Nat.le_of_ble_eq_true rfl) dL_law_857 hcs (by rw [l_gap, h1]; rfl) ?_
    refine g_istore (lv' := [(5, .int 0), (4, .int (nI (7 * j))), (0, .ref b), (1, .ref (E.2.2.1 26)), (2, .ref (E.2.2.1 0)), (3, .ref (E.2.2.1 25))]) hC2 dL_law_860 (by decide) rfl ?_
    refine g_aload_n hC2 dL_law_862 rfl 4 rfl ?_
    refine g_aload_n hC2 dL_law_863 rfl 2 rfl ?_
    refine g_iload hC2 dL_law_864 1 rfl ?_
    refine g_iconst (v := 1) hC2 dL_law_866 (by decide) ?_
    refine g_iadd hC2 dL_law_867 ?_
    refine g_scr hC2 hX2 1 (by decide) (by omega) dL_law_868 ?_
    refine g_aload_n hC2 dL_law_869 rfl 2 rfl ?_
    refine g_iload hC2 dL_law_870 1 rfl ?_
    refine g_iconst (v := 2) hC2 dL_law_872 (by decide) ?_
    refine g_iadd hC2 dL_law_873 ?_
    refine g_scr hC2 hX2 2 (by decide) (by omega) dL_law_874 ?_
    refine g_aload_n hC2 dL_law_875 rfl 2 rfl ?_
    refine g_iload hC2 dL_law_876 1 rfl ?_
    refine g_iconst (v := 3) hC2 dL_law_878 (by decide) ?_
    refine g_iadd hC2 dL_law_879 ?_
    refine g_scr hC2 hX2 3 (by decide) (by omega) dL_law_880 ?_
    refine g_cVJ (As := [.int (xs (7 * j + 1)), .int (xs (7 * j + 2)), .int (xs (7 * j + 3))]) hC2 hO2 (c_X12_gap _ hC.2.2.2.2.2.2.1 0 rfl (al 0 (by decide)) (xs (7 * j + 1)) (xs (7 * j + 2)) (xs (7 * j + 3)) _ (nn_of h2)) gc_L_93 (xk_X12_gap _ (Nat.le_of_ble_eq_true rfl) (Nat.le_of_ble_eq_true rfl)) cr12 rfl (al 0 (by decide)) rfl (Nat.le_of_ble_eq_true rfl) dL_law_881 h2 ?_
    refine g_lstore (lv' := [(6, .long bb), (5, .int 0), (4, .int (nI (7 * j))), (0, .ref b), (1, .ref (E.2.2.1 26)), (2, .ref (E.2.2.1 0)), (3, .ref (E.2.2.1 25))]) hC2 dL_law_884 (by decide) rfl ?_
    refine g_aload_n hC2 dL_law_886 rfl 5 rfl ?_
    refine g_cVI (As := []) (r := σ2.1 0 0) (σ' := σ2) hC2 hO2 (c_X12_thrown _ hC.2.2.2.2.2.2.1 0 rfl (al 0 (by decide)) σ2 (nn_of inv_thrown)) gc_L_59 (xk_X12_thrown _ (Nat.le_of_ble_eq_true rfl) (Nat.le_of_ble_eq_true rfl)) cr12 rfl (al 0 (by decide)) rfl (Nat.le_of_ble_eq_true rfl) dL_law_887 inv_thrown ?_
    refine g_iload hC2 dL_law_890 1 rfl ?_
    refine g_icmp_eq (tgt := 897) (a := some ()) (b := none) (fo := some ()) hC2 dL_law_892 (by decide) (if_pos e2) (fun _ _ => ?_) (fun c _ => absurd e2 c)
    refine g_iload hC2 dL_law_897 1 rfl ?_
    refine g_if_ne (tgt := 913) (a := none) (b := some ()) (fo := some ()) hC2 dL_law_899 (by decide) (if_pos rfl) (fun c _ => absurd rfl c) (fun _ _ => ?_)
    refine g_aload_n hC2 dL_law_902 rfl 6 rfl ?_
    refine g_iconst (v := 0) hC2 dL_law_903 (by decide) ?_
    refine g_lald (a := 25) (fo := some ()) (b := some ()) hC2 rfl (al 25 (by decide)) dL_law_904 (ck_ok ⟨rfl, by decide⟩) (by simp) (fun _ => ?_)
    refine g_lload hC2 dL_law_905 0 rfl ?_
    refine g_lc_eq (tgt := 913) (a := some ()) (b := none) (fo := some ()) hC2 dL_law_907 dL_law_908 (by decide) (if_pos e5) (fun _ _ => ?_) (fun c _ => absurd e5 c)
    refine g_goto (tgt := 1492) hC2 dL_law_913 (by decide) ?_
    exact g_sub [2, 3, 4, 5, 6] rfl (kk _ h3)
  | none =>
    obtain ⟨bb, σ2, h2, h3, h4, h5⟩ := hup _ (Or.inl rfl)
    rcases h4 with ⟨e1, e2⟩ | ⟨e1, e2⟩
    · cases e1
    refine g_aload_n hC dL_law_837 rfl 2 rfl ?_
    refine g_aload_n hC dL_law_838 rfl 1 rfl ?_
    refine g_iload hC dL_law_839 0 rfl ?_
    refine g_iconst (v := 1) hC dL_law_841 (by decide) ?_
    refine g_iadd hC dL_law_842 ?_
    refine g_scr hC hX 1 (by decide) (by omega) dL_law_843 ?_
    refine g_aload_n hC dL_law_844 rfl 1 rfl ?_
    refine g_iload hC dL_law_845 0 rfl ?_
    refine g_iconst (v := 2) hC dL_law_847 (by decide) ?_
    refine g_iadd hC dL_law_848 ?_
    refine g_scr hC hX 2 (by decide) (by omega) dL_law_849 ?_
    refine g_aload_n hC dL_law_850 rfl 1 rfl ?_
    refine g_iload hC dL_law_851 0 rfl ?_
    refine g_iconst (v := 3) hC dL_law_853 (by decide) ?_
    refine g_iadd hC dL_law_854 ?_
    refine g_scr hC hX 3 (by decide) (by omega) dL_law_855 ?_
    refine g_aload_n hC dL_law_856 rfl 4 rfl ?_
    refine g_lSI (As := [.ref (E.2.2.1 26), .int (xs (7 * j + 1)), .int (xs (7 * j + 2)), .int (xs (7 * j + 3)), .ref (E.2.2.1 25)]) (n := 5) (r := 1) (σ' := σ1) hC hT hO (c_L_gap _ hC.2.2.2.2.2.2.1 htr (al 26 (by decide)) (al 25 (by decide)) (xs (7 * j + 1)) (xs (7 * j + 2)) (xs (7 * j + 3)) σ (nn_of h1)) rfl gs_L_90 ⟨rfl, rfl, (Nat.le_of_ble_eq_true rfl), (Nat.le_of_ble_eq_true rfl)⟩ ⟨by decide, by decide, by decide +kernel⟩ rfl (Nat.le_of_ble_eq_true rfl) dL_law_857 hcs (by rw [l_gap, h1]; rfl) ?_
    refine g_istore (lv' := [(5, .int 1), (4, .int (nI (7 * j))), (0, .ref b), (1, .ref (E.2.2.1 26)), (2, .ref (E.2.2.1 0)), (3, .ref (E.2.2.1 25))]) hC2 dL_law_860 (by decide) rfl ?_
    refine g_aload_n hC2 dL_law_862 rfl 4 rfl ?_
    refine g_aload_n hC2 dL_law_863 rfl 2 rfl ?_
    refine g_iload hC2 dL_law_864 1 rfl ?_
    refine g_iconst (v := 1) hC2 dL_law_866 (by decide) ?_
    refine g_iadd hC2 dL_law_867 ?_
    refine g_scr hC2 hX2 1 (by decide) (by omega) dL_law_868 ?_
    refine g_aload_n hC2 dL_law_869 rfl 2 rfl ?_
    refine g_iload hC2 dL_law_870 1 rfl ?_
    refine g_iconst (v := 2) hC2 dL_law_872 (by decide) ?_
    refine g_iadd hC2 dL_law_873 ?_
    refine g_scr hC2 hX2 2 (by decide) (by omega) dL_law_874 ?_
    refine g_aload_n hC2 dL_law_875 rfl 2 rfl ?_
    refine g_iload hC2 dL_law_876 1 rfl ?_
    refine g_iconst (v := 3) hC2 dL_law_878 (by decide) ?_
    refine g_iadd hC2 dL_law_879 ?_
    refine g_scr hC2 hX2 3 (by decide) (by omega) dL_law_880 ?_
    refine g_cVJ (As := [.int (xs (7 * j + 1)), .int (xs (7 * j + 2)), .int (xs (7 * j + 3))]) hC2 hO2 (c_X12_gap _ hC.2.2.2.2.2.2.1 0 rfl (al 0 (by decide)) (xs (7 * j + 1)) (xs (7 * j + 2)) (xs (7 * j + 3)) _ (nn_of h2)) gc_L_93 (xk_X12_gap _ (Nat.le_of_ble_eq_true rfl) (Nat.le_of_ble_eq_true rfl)) cr12 rfl (al 0 (by decide)) rfl (Nat.le_of_ble_eq_true rfl) dL_law_881 h2 ?_
    refine g_lstore (lv' := [(6, .long bb), (5, .int 1), (4, .int (nI (7 * j))), (0, .ref b), (1, .ref (E.2.2.1 26)), (2, .ref (E.2.2.1 0)), (3, .ref (E.2.2.1 25))]) hC2 dL_law_884 (by decide) rfl ?_
    refine g_aload_n hC2 dL_law_886 rfl 5 rfl ?_
    refine g_cVI (As := []) (r := σ2.1 0 0) (σ' := σ2) hC2 hO2 (c_X12_thrown _ hC.2.2.2.2.2.2.1 0 rfl (al 0 (by decide)) σ2 (nn_of inv_thrown)) gc_L_59 (xk_X12_thrown _ (Nat.le_of_ble_eq_true rfl) (Nat.le_of_ble_eq_true rfl)) cr12 rfl (al 0 (by decide)) rfl (Nat.le_of_ble_eq_true rfl) dL_law_887 inv_thrown ?_
    refine g_iload hC2 dL_law_890 1 rfl ?_
    refine g_icmp_eq (tgt := 897) (a := some ()) (b := none) (fo := some ()) hC2 dL_law_892 (by decide) (if_pos e2) (fun _ _ => ?_) (fun c _ => absurd e2 c)
    refine g_iload hC2 dL_law_897 1 rfl ?_
    refine g_if_ne (tgt := 913) (a := some ()) (b := none) (fo := some ()) hC2 dL_law_899 (by decide) (if_neg (by decide)) (fun _ _ => ?_) (fun c _ => absurd c (by decide))
    refine g_goto (tgt := 1492) hC2 dL_law_913 (by decide) ?_
    exact g_sub [2, 3, 4, 5, 6] rfl (kk _ h3)
/-- the end that the law wants -/
def LQ (F : FT) (b : Nat) : Prop := F.2.1 = #[Value.ref b] ∧ F.2.2.2.1.sig.returnType = ret ∧ F.2.2.2.2.2 = lw_Z F.2.2.1 #[Value.ref b] F.1.2.2.2.1 ∧ (∀ q, F.1.2.2.2.2.2.1 q → F.1.2.2.2.1.heap.size ≤ q)
theorem lw_end {E : ET} {F : FT} {K : KT} {b L : Nat} {xs : Nat → Int32} (hF : LF E K b L xs F) (hq : LQ F b) (h1 : F.1.2.2.2.2.2.2.1 ≤ 601024) (h2 : F.1.2.2.2.2.2.2.2 ≤ 7293034) (lv : List (Nat × Value)) (σ : HS) : G E F 1498 lv [] σ := by
  obtain ⟨hC, hO, hX, hK, hT, al, htr⟩ := hF
  refine g_iconst (v := 1) hC dL_law_1498 (by decide) ?_
  intro hwf H locs ls hP hS hl
  have hO1 : F.1.2.2.1 = room_1 := hO
  rw [hq.2.2.1, hq.1, hO1]
  exact va_forget (fun q h => hq.2.2.2 _ (hS.2.2 q h)) (W.widen h1 h2 (lw_ret hC.1 hC.2.1 hq.2.1 hC.2.2.2.2.2.2.2.1 dL_law_1499))
theorem lw_cmp {L j : Nat} (hL : L ≤ 3584) (hj : 7 * j ≤ L + 7) : nI L - 7 < nI (7 * j) ↔ L < 7 * j + 7 := by
  have e1 : (nI L - 7 : Int32).toInt = (L : Int) - 7 := by
    rw [Int32.toInt_sub, nI_toInt (by omega)]
    show Int.bmod ((L : Int) - 7) (2 ^ 32) = _
    unfold Int.bmod
    dsimp only
    split <;> omega
  rw [Int32.lt_iff_toInt_lt, e1, nI_toInt (by omega)]
  omega
theorem lf_step {E : ET} {F : FT} {K : KT} {b L : Nat} {xs : Nat → Int32} (hF : LF E K b L xs F) (h1 : F.1.2.2.2.2.2.2.1 + 1 ≤ 601024) (h2 : F.1.2.2.2.2.2.2.2 + 6 ≤ 7293034) : LF E K b L xs (fA F 1 6) := by
  obtain ⟨hC, hO, hX, hK, hT, al, htr⟩ := hF
  have hO1 : F.1.2.2.1 = room_1 := hO
  exact ⟨cx_fA hC (by rw [hO1]; exact h1) (by rw [hO1]; exact h2), hO, hX, hK, hT, al, htr⟩
set_option maxHeartbeats 4000000 in
set_option maxRecDepth 100000 in
theorem lw_loop {E : ET} {K : KT} {b L : Nat} {xs : Nat → Int32} : ∀ (n : Nat) (F : FT) (j : Nat) (σ : HS), LF E K b L xs F → LQ F b → F.1.2.2.2.2.2.2.1 + n ≤ 601024 → F.1.2.2.2.2.2.2.2 + 6 * n ≤ 7293034 → L < 7 * (j + n) + 7 → 7 * j ≤ L + 7 → Inv σ → G E F 23 (LV E b j) [] σ := by
  intro n
  induction n with
  | zero =>
    intro F j σ hF hq h1 h2 h3 h4 hI
    obtain ⟨hC, hO, hX, hK, hT, al, htr⟩ := hF
    refine g_iload hC dL_law_23 0 rfl ?_
    refine g_aload_n hC dL_law_25 rfl 1 rfl ?_
    refine g_slen hC hX dL_law_26 ?_
    refine g_bipush (v := 7) hC dL_law_27 (by decide) ?_
    refine g_isub hC dL_law_29 ?_
    have hc : nI L - 7 < nI (7 * j) := (lw_cmp hX.2.2.2 h4).mpr (by omega)
    refine g_icmp_gt (tgt := 1498) (a := some ()) (b := none) (fo := some ()) hC dL_law_30 (by decide) (if_pos hc) (fun _ _ => ?_) (fun c _ => absurd hc c)
    exact lw_end ⟨hC, hO, hX, hK, hT, al, htr⟩ hq (by omega) (by omega) _ _
  | succ n ih =>
    intro F j σ hF hq h1 h2 h3 h4 hI
    have hF0 := hF
    obtain ⟨hC, hO, hX, hK, hT, al, htr⟩ := hF0
    refine g_iload hC dL_law_23 0 rfl ?_
    refine g_aload_n hC dL_law_25 rfl 1 rfl ?_
    refine g_slen hC hX dL_law_26 ?_
    refine g_bipush (v := 7) hC dL_law_27 (by decide) ?_
    refine g_isub hC dL_law_29 ?_
    by_cases hc : nI L - 7 < nI (7 * j)
    · refine g_icmp_gt (tgt := 1498) (a := some ()) (b := none) (fo := some ()) hC dL_law_30 (by decide) (if_pos hc) (fun _ _ => ?_) (fun c _ => absurd hc c)
      exact lw_end hF hq (by omega) (by omega) _ _
    have hj : 7 * j + 7 ≤ L := Nat.not_lt.mp (fun q => hc ((lw_cmp hX.2.2.2 h4).mpr q))
    refine g_icmp_gt (tgt := 1498) (a := none) (b := some ()) (fo := some ()) hC dL_law_30 (by decide) (if_neg hc) (fun c _ => absurd c hc) (fun _ _ => ?_)
    have kk1 : ∀ σ', Inv σ' → G E (fA F 1 6) 1492 (LV E b j) [] σ' := fun σ' hI' => by
      have hF2 := lf_step hF (by omega) (by omega)
      have ej : nI (7 * j) + Int32.ofInt 7 = nI (7 * (j + 1)) := by
        show nI (7 * j) + nI 7 = _
        rw [nI_add]; congr 1
      refine g_iinc (v := nI (7 * (j + 1))) (lv' := LV E b (j + 1)) hF2.1 dL_law_1492 0 rfl ej (by decide) rfl ?_
      refine g_goto (tgt := 23) hF2.1 dL_law_1495 (by decide) ?_
      exact ih (fA F 1 6) (j + 1) σ' hF2 hq (by show F.1.2.2.2.2.2.2.1 + 1 + n ≤ 601024; omega) (by show F.1.2.2.2.2.2.2.2 + 6 + 6 * n ≤ 7293034; omega) (by omega) (by omega) hI'
    have kk0 : ∀ σ', Inv σ' → G E F 1492 (LV E b j) [] σ' := fun σ' hI' => g_wid (kk1 σ' hI')
    have hcs : F.1.2.2.2.2.2.2.1 + 1 ≤ room_1.cells ∧ F.1.2.2.2.2.2.2.2 + 6 ≤ room_1.slots := ⟨by show _ ≤ 601024; omega, by show _ ≤ 7293034; omega⟩
    refine g_aload_n hC dL_law_33 rfl 1 rfl ?_
    refine g_iload hC dL_law_34 0 rfl ?_
    refine g_scr0 hC hX (by omega) dL_law_36 ?_
    refine g_bipush (v := 63) hC dL_law_37 (by decide) ?_
    refine g_iand hC dL_law_39 ?_
    by_cases cs0 : xs (7 * j) &&& 63 = 0
    · refine g_tin (tgt := 188) hC dL_law_40 (by rw [cs0]; decide) (by rw [cs0]; decide) (by rw [cs0]; rfl) (by decide) ?_
      exact lw_c0 hF j hj σ hI kk0
    by_cases cs1 : xs (7 * j) &&& 63 = 1
    · refine g_tin (tgt := 213) hC dL_law_40 (by rw [cs1]; decide) (by rw [cs1]; decide) (by rw [cs1]; rfl) (by decide) ?_
      exact lw_c1 hF j hj σ hI kk0
    by_cases cs2 : xs (7 * j) &&& 63 = 2
    · refine g_tin (tgt := 286) hC dL_law_40 (by rw [cs2]; decide) (by rw [cs2]; decide) (by rw [cs2]; rfl) (by decide) ?_
      exact lw_c2 hF j hj σ hI kk0
    by_cases cs3 : xs (7 * j) &&& 63 = 3
    · refine g_tin (tgt := 311) hC dL_law_40 (by rw [cs3]; decide) (by rw [cs3]; decide) (by rw [cs3]; rfl) (by decide) ?_
      exact lw_c3 hF j hj σ hI kk0
    by_cases cs4 : xs (7 * j) &&& 63 = 4
    · refine g_tin (tgt := 458) hC dL_law_40 (by rw [cs4]; decide) (by rw [cs4]; decide) (by rw [cs4]; rfl) (by decide) ?_
      exact lw_c4 hF j hj σ hI kk0
    by_cases cs5 : xs (7 * j) &&& 63 = 5
    · refine g_tin (tgt := 471) hC dL_law_40 (by rw [cs5]; decide) (by rw [cs5]; decide) (by rw [cs5]; rfl) (by decide) ?_
      exact lw_c5 hF j hj σ hI kk0
    by_cases cs6 : xs (7 * j) &&& 63 = 6
    · refine g_tin (tgt := 496) hC dL_law_40 (by rw [cs6]; decide) (by rw [cs6]; decide) (by rw [cs6]; rfl) (by decide) ?_
      exact lw_c6 hF j hj σ hI hcs kk1
    by_cases cs7 : xs (7 * j) &&& 63 = 7
    · refine g_tin (tgt := 564) hC dL_law_40 (by rw [cs7]; decide) (by rw [cs7]; decide) (by rw [cs7]; rfl) (by decide) ?_
      exact lw_c7 hF j hj σ hI kk0
    by_cases cs8 : xs (7 * j) &&& 63 = 8
    · refine g_tin (tgt := 589) hC dL_law_40 (by rw [cs8]; decide) (by rw [cs8]; decide) (by rw [cs8]; rfl) (by decide) ?_
      exact lw_c8 hF j hj σ hI kk0
    by_cases cs9 : xs (7 * j) &&& 63 = 9
    · refine g_tin (tgt := 676) hC dL_law_40 (by rw [cs9]; decide) (by rw [cs9]; decide) (by rw [cs9]; rfl) (by decide) ?_
      exact lw_c9 hF j hj σ hI kk0
    by_cases cs10 : xs (7 * j) &&& 63 = 10
    · refine g_tin (tgt := 737) hC dL_law_40 (by rw [cs10]; decide) (by rw [cs10]; decide) (by rw [cs10]; rfl) (by decide) ?_
      exact lw_c10 hF j hj σ hI kk0
    by_cases cs11 : xs (7 * j) &&& 63 = 11
    · refine g_tin (tgt := 775) hC dL_law_40 (by rw [cs11]; decide) (by rw [cs11]; decide) (by rw [cs11]; rfl) (by decide) ?_
      exact lw_c11 hF j hj σ hI kk0
    by_cases cs12 : xs (7 * j) &&& 63 = 12
    · refine g_tin (tgt := 800) hC dL_law_40 (by rw [cs12]; decide) (by rw [cs12]; decide) (by rw [cs12]; rfl) (by decide) ?_
      exact lw_c12 hF j hj σ hI kk0
    by_cases cs13 : xs (7 * j) &&& 63 = 13
    · refine g_tin (tgt := 837) hC dL_law_40 (by rw [cs13]; decide) (by rw [cs13]; decide) (by rw [cs13]; rfl) (by decide) ?_
      exact lw_c13 hF j hj σ hI hcs kk1
    by_cases cs14 : xs (7 * j) &&& 63 = 14
    · refine g_tin (tgt := 916) hC dL_law_40 (by rw [cs14]; decide) (by rw [cs14]; decide) (by rw [cs14]; rfl) (by decide) ?_
      exact lw_c14 hF j hj σ hI kk0
    by_cases cs15 : xs (7 * j) &&& 63 = 15
    · refine g_tin (tgt := 941) hC dL_law_40 (by rw [cs15]; decide) (by rw [cs15]; decide) (by rw [cs15]; rfl) (by decide) ?_
      exact lw_c15 hF j hj σ hI kk0
    by_cases cs16 : xs (7 * j) &&& 63 = 16
    · refine g_tin (tgt := 979) hC dL_law_40 (by rw [cs16]; decide) (by rw [cs16]; decide) (by rw [cs16]; rfl) (by decide) ?_
      exact lw_c16 hF j hj σ hI kk0
    by_cases cs17 : xs (7 * j) &&& 63 = 17
    · refine g_tin (tgt := 992) hC dL_law_40 (by rw [cs17]; decide) (by rw [cs17]; decide) (by rw [cs17]; rfl) (by decide) ?_
      exact lw_c17 hF j hj σ hI kk0
    by_cases cs18 : xs (7 * j) &&& 63 = 18
    · refine g_tin (tgt := 1017) hC dL_law_40 (by rw [cs18]; decide) (by rw [cs18]; decide) (by rw [cs18]; rfl) (by decide) ?_
      exact lw_c18 hF j hj σ hI kk0
    by_cases cs19 : xs (7 * j) &&& 63 = 19
    · refine g_tin (tgt := 1042) hC dL_law_40 (by rw [cs19]; decide) (by rw [cs19]; decide) (by rw [cs19]; rfl) (by decide) ?_
      exact lw_c19 hF j hj σ hI kk0
    by_cases cs20 : xs (7 * j) &&& 63 = 20
    · refine g_tin (tgt := 1055) hC dL_law_40 (by rw [cs20]; decide) (by rw [cs20]; decide) (by rw [cs20]; rfl) (by decide) ?_
      exact lw_c20 hF j hj σ hI kk0
    by_cases cs21 : xs (7 * j) &&& 63 = 21
    · refine g_tin (tgt := 1120) hC dL_law_40 (by rw [cs21]; decide) (by rw [cs21]; decide) (by rw [cs21]; rfl) (by decide) ?_
      exact lw_c21 hF j hj σ hI kk0
    by_cases cs22 : xs (7 * j) &&& 63 = 22
    · refine g_tin (tgt := 1157) hC dL_law_40 (by rw [cs22]; decide) (by rw [cs22]; decide) (by rw [cs22]; rfl) (by decide) ?_
      exact lw_c22 hF j hj σ hI kk0
    by_cases cs23 : xs (7 * j) &&& 63 = 23
    · refine g_tin (tgt := 1206) hC dL_law_40 (by rw [cs23]; decide) (by rw [cs23]; decide) (by rw [cs23]; rfl) (by decide) ?_
      exact lw_c23 hF j hj σ hI kk0
    by_cases cs24 : xs (7 * j) &&& 63 = 24
    · refine g_tin (tgt := 1255) hC dL_law_40 (by rw [cs24]; decide) (by rw [cs24]; decide) (by rw [cs24]; rfl) (by decide) ?_
      exact lw_c24 hF j hj σ hI kk0
    by_cases cs25 : xs (7 * j) &&& 63 = 25
    · refine g_tin (tgt := 1304) hC dL_law_40 (by rw [cs25]; decide) (by rw [cs25]; decide) (by rw [cs25]; rfl) (by decide) ?_
      exact lw_c25 hF j hj σ hI kk0
    by_cases cs26 : xs (7 * j) &&& 63 = 26
    · refine g_tin (tgt := 1329) hC dL_law_40 (by rw [cs26]; decide) (by rw [cs26]; decide) (by rw [cs26]; rfl) (by decide) ?_
      exact lw_c26 hF j hj σ hI kk0
    by_cases cs27 : xs (7 * j) &&& 63 = 27
    · refine g_tin (tgt := 1354) hC dL_law_40 (by rw [cs27]; decide) (by rw [cs27]; decide) (by rw [cs27]; rfl) (by decide) ?_
      exact lw_c27 hF j hj σ hI kk0
    by_cases cs28 : xs (7 * j) &&& 63 = 28
    · refine g_tin (tgt := 1379) hC dL_law_40 (by rw [cs28]; decide) (by rw [cs28]; decide) (by rw [cs28]; rfl) (by decide) ?_
      exact lw_c28 hF j hj σ hI kk0
    by_cases cs29 : xs (7 * j) &&& 63 = 29
    · refine g_tin (tgt := 1404) hC dL_law_40 (by rw [cs29]; decide) (by rw [cs29]; decide) (by rw [cs29]; rfl) (by decide) ?_
      exact lw_c29 hF j hj σ hI kk0
    by_cases cs30 : xs (7 * j) &&& 63 = 30
    · refine g_tin (tgt := 1417) hC dL_law_40 (by rw [cs30]; decide) (by rw [cs30]; decide) (by rw [cs30]; rfl) (by decide) ?_
      exact lw_c30 hF j hj σ hI kk0
    by_cases cs31 : xs (7 * j) &&& 63 = 31
    · refine g_tin (tgt := 1442) hC dL_law_40 (by rw [cs31]; decide) (by rw [cs31]; decide) (by rw [cs31]; rfl) (by decide) ?_
      exact lw_c31 hF j hj σ hI kk0
    by_cases cs32 : xs (7 * j) &&& 63 = 32
    · refine g_tin (tgt := 1467) hC dL_law_40 (by rw [cs32]; decide) (by rw [cs32]; decide) (by rw [cs32]; rfl) (by decide) ?_
      exact lw_c32 hF j hj σ hI kk0
    refine g_tout (tgt := 1492) hC dL_law_40 (sw_out 0 32 (by decide) (by decide) (fun k h1 h2 => by rcases (show k = 0 ∨ k = 1 ∨ k = 2 ∨ k = 3 ∨ k = 4 ∨ k = 5 ∨ k = 6 ∨ k = 7 ∨ k = 8 ∨ k = 9 ∨ k = 10 ∨ k = 11 ∨ k = 12 ∨ k = 13 ∨ k = 14 ∨ k = 15 ∨ k = 16 ∨ k = 17 ∨ k = 18 ∨ k = 19 ∨ k = 20 ∨ k = 21 ∨ k = 22 ∨ k = 23 ∨ k = 24 ∨ k = 25 ∨ k = 26 ∨ k = 27 ∨ k = 28 ∨ k = 29 ∨ k = 30 ∨ k = 31 ∨ k = 32 by omega) with rfl | rfl | rfl | rfl | rfl | rfl | rfl | rfl | rfl | rfl | rfl | rfl | rfl | rfl | rfl | rfl | rfl | rfl | rfl | rfl | rfl | rfl | rfl | rfl | rfl | rfl | rfl | rfl | rfl | rfl | rfl | rfl | rfl <;> assumption)) (by decide) ?_
    exact kk0 _ hI
