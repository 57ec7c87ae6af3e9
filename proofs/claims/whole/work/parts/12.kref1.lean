def rm_X12_addsRow : Room := { frames := 0, cells := 0, slots := 0, locals := 0 }
theorem fl_X12_109 : Cond.fieldLink RX12 109 "EveryMeasureModel" (TX12 27).2.1 (TX12 27).2.2.1 ∈ GT := gtr_10 _ (List.mem_of_getElem? (i := 3) rfl)
theorem fl_X12_229 : Cond.fieldLink RX12 229 "EveryMeasureModel" (TX12 26).2.1 (TX12 26).2.2.1 ∈ GT := gtr_31 _ (List.mem_of_getElem? (i := 6) rfl)
set_option maxHeartbeats 4000000 in
set_option maxRecDepth 100000 in
theorem k_X12_addsRow_0 {E : ET} {F : FT} {fo : Option HS} (hC : Cx E F 9 cX12_addsRow RX12 GT) (hO : Ro F rm_X12_addsRow) (hR : RV E F fo) (hf : fo ≠ none) (t : Nat) (ht1 : kd t = 12) (ht2 : AL E t) (x1 : Int64) (x3 : Int64) (x5 : Int64) (x7 : Int64) (σ : HS) (h : f_X12_addsRow t x1 x3 x5 x7 σ = fo) : G E F 0 [(0, .ref (E.2.2.1 t)), (1, .long x1), (3, .long x3), (5, .long x5), (7, .long x7)] [] σ := by
    refine g_aload_n hC dX12_addsRow_0 rfl 0 rfl ?_
    refine g_getR (cj := 15) (k := 27) hC cr12 ui_12 ht1 ht2 (by decide) fl_X12_109 rfl rfl dX12_addsRow_1 h hf (fun a1 ea1 ka1 na1 h => ?_)
    refine g_iconst (v := 4) hC dX12_addsRow_4 (by decide) ?_
    refine g_aload_n hC dX12_addsRow_5 rfl 0 rfl ?_
    refine g_getI (k := 26) hC cr12 ui_12 ht1 ht2 (by decide) fl_X12_229 rfl rfl dX12_addsRow_6 ?_
    refine g_imul hC dX12_addsRow_9 ?_
    refine g_lload_n hC dX12_addsRow_10 rfl 1 rfl ?_
    refine g_last hC ka1 na1 dX12_addsRow_11 h hf (fun h => ?_)
    refine g_aload_n hC dX12_addsRow_12 rfl 0 rfl ?_
    refine g_getR (cj := 15) (k := 27) hC cr12 ui_12 ht1 ht2 (by decide) fl_X12_109 rfl rfl dX12_addsRow_13 h hf (fun a2 ea2 ka2 na2 h => ?_)
    refine g_iconst (v := 4) hC dX12_addsRow_16 (by decide) ?_
    refine g_aload_n hC dX12_addsRow_17 rfl 0 rfl ?_
    refine g_getI (k := 26) hC cr12 ui_12 ht1 ht2 (by decide) fl_X12_229 rfl rfl dX12_addsRow_18 ?_
    refine g_imul hC dX12_addsRow_21 ?_
    refine g_iconst (v := 1) hC dX12_addsRow_22 (by decide) ?_
    refine g_iadd hC dX12_addsRow_23 ?_
    refine g_lload_n hC dX12_addsRow_24 rfl 2 rfl ?_
    refine g_last hC ka2 na2 dX12_addsRow_25 h hf (fun h => ?_)
    refine g_aload_n hC dX12_addsRow_26 rfl 0 rfl ?_
    refine g_getR (cj := 15) (k := 27) hC cr12 ui_12 ht1 ht2 (by decide) fl_X12_109 rfl rfl dX12_addsRow_27 h hf (fun a3 ea3 ka3 na3 h => ?_)
    refine g_iconst (v := 4) hC dX12_addsRow_30 (by decide) ?_
    refine g_aload_n hC dX12_addsRow_31 rfl 0 rfl ?_
    refine g_getI (k := 26) hC cr12 ui_12 ht1 ht2 (by decide) fl_X12_229 rfl rfl dX12_addsRow_32 ?_
    refine g_imul hC dX12_addsRow_35 ?_
    refine g_iconst (v := 2) hC dX12_addsRow_36 (by decide) ?_
    refine g_iadd hC dX12_addsRow_37 ?_
    refine g_lload hC dX12_addsRow_38 3 rfl ?_
    refine g_last hC ka3 na3 dX12_addsRow_40 h hf (fun h => ?_)
    refine g_aload_n hC dX12_addsRow_41 rfl 0 rfl ?_
    refine g_getR (cj := 15) (k := 27) hC cr12 ui_12 ht1 ht2 (by decide) fl_X12_109 rfl rfl dX12_addsRow_42 h hf (fun a4 ea4 ka4 na4 h => ?_)
    refine g_iconst (v := 4) hC dX12_addsRow_45 (by decide) ?_
    refine g_aload_n hC dX12_addsRow_46 rfl 0 rfl ?_
    refine g_getI (k := 26) hC cr12 ui_12 ht1 ht2 (by decide) fl_X12_229 rfl rfl dX12_addsRow_47 ?_
    refine g_imul hC dX12_addsRow_50 ?_
    refine g_iconst (v := 3) hC dX12_addsRow_51 (by decide) ?_
    refine g_iadd hC dX12_addsRow_52 ?_
    refine g_lload hC dX12_addsRow_53 4 rfl ?_
    refine g_last hC ka4 na4 dX12_addsRow_55 h hf (fun h => ?_)
    refine g_aload_n hC dX12_addsRow_56 rfl 0 rfl ?_
    refine g_dup hC dX12_addsRow_57 rfl ?_
    refine g_getI (k := 26) hC cr12 ui_12 ht1 ht2 (by decide) fl_X12_229 rfl rfl dX12_addsRow_58 ?_
    refine g_iconst (v := 1) hC dX12_addsRow_61 (by decide) ?_
    refine g_iadd hC dX12_addsRow_62 ?_
    refine g_putI (k := 26) hC cr12 ui_12 tyX12_ok nmX12 ht1 ht2 (by decide) fl_X12_229 rfl rfl rfl rfl dX12_addsRow_63 ?_
    exact g_vret hC hR dX12_addsRow_66 h
theorem xk_X12_addsRow (R : Room) (h1 : 0 + 1 ≤ R.frames) (h2 : 40 ≤ R.locals) : xw R yX12_addsRow w_X12_addsRow GT cX12_addsRow 9 none rm_X12_addsRow 4 := ⟨rfl, rfl, rfl, h1, h2, ⟨by decide, by decide⟩, by decide +kernel⟩
theorem c_X12_addsRow (E : ET) (hE : EO E) (t : Nat) (ht1 : kd t = 12) (ht2 : AL E t) (x1 : Int64) (x3 : Int64) (x5 : Int64) (x7 : Int64) (σ : HS) (hn : f_X12_addsRow t x1 x3 x5 x7 σ ≠ none) : CoV E yX12_addsRow w_X12_addsRow rm_X12_addsRow [.ref (E.2.2.1 t), .long x1, .long x3, .long x5, .long x7] σ (f_X12_addsRow t x1 x3 x5 x7 σ) := CoV.of (lv := [(0, .ref (E.2.2.1 t)), (1, .long x1), (3, .long x3), (5, .long x5), (7, .long x7)]) hE (plainFor_of_name (by decide)) rfl (Nat.le_of_ble_eq_true rfl) rfl (fun F hC hO hR => k_X12_addsRow_0 hC hO hR hn t ht1 ht2 x1 x3 x5 x7 σ rfl)
def rm_X12_one : Room := { frames := 0, cells := 0, slots := 0, locals := 0 }
set_option maxHeartbeats 4000000 in
set_option maxRecDepth 100000 in
theorem k_X12_one_10 {E : ET} {F : FT} {fo : Option (Int64 × HS)} (hC : Cx E F 4 cX12_one RX12 GT) (hO : Ro F rm_X12_one) (hR : RJ E F fo) (hf : fo ≠ none) (s0 : Int64) (σ : HS) (h : f_X12_one_10 s0 σ = fo) : G E F 10 [] [.long s0] σ := by
    exact g_lret hC hR dX12_one_10 h
set_option maxHeartbeats 4000000 in
set_option maxRecDepth 100000 in
theorem k_X12_one_0 {E : ET} {F : FT} {fo : Option (Int64 × HS)} (hC : Cx E F 4 cX12_one RX12 GT) (hO : Ro F rm_X12_one) (hR : RJ E F fo) (hf : fo ≠ none) (x0 : Int32) (x1 : Int32) (x2 : Int64) (σ : HS) (h : f_X12_one x0 x1 x2 σ = fo) : G E F 0 [(0, .int x0), (1, .int x1), (2, .long x2)] [] σ := by
    refine g_iload_n hC dX12_one_0 rfl 0 rfl ?_
    refine g_iload_n hC dX12_one_1 rfl 1 rfl ?_
    refine g_icmp_ne (tgt := 9) hC dX12_one_2 (by decide) h (fun c2 h => ?_) (fun c2 h => ?_)
    · refine g_lconst (v := 0) hC dX12_one_9 (by decide) ?_
      exact g_sub [] rfl (k_X12_one_10 hC hO hR hf 0 σ h)
    · refine g_lload_n hC dX12_one_5 rfl 2 rfl ?_
      refine g_goto (tgt := 10) hC dX12_one_6 (by decide) ?_
      exact g_sub [] rfl (k_X12_one_10 hC hO hR hf x2 σ h)
theorem xk_X12_one (R : Room) (h1 : 0 + 1 ≤ R.frames) (h2 : 35 ≤ R.locals) : xw R yX12_one w_X12_one GT cX12_one 4 (some .long) rm_X12_one 3 := ⟨rfl, rfl, rfl, h1, h2, ⟨by decide, by decide⟩, by decide +kernel⟩
theorem c_X12_one (E : ET) (hE : EO E) (x0 : Int32) (x1 : Int32) (x2 : Int64) (σ : HS) (hn : f_X12_one x0 x1 x2 σ ≠ none) : CoJ E yX12_one w_X12_one rm_X12_one [.int x0, .int x1, .long x2] σ (f_X12_one x0 x1 x2 σ) := CoJ.of (lv := [(0, .int x0), (1, .int x1), (2, .long x2)]) hE (plainFor_of_name (by decide)) rfl (Nat.le_of_ble_eq_true rfl) rfl (fun F hC hO hR => k_X12_one_0 hC hO hR hn x0 x1 x2 σ rfl)
def rm_X12_addsPair : Room := { frames := 1, cells := 0, slots := 0, locals := 40 }
theorem wc_X12_one : Cond.code yX12_one cX12_one 4 (some .long) ∈ GT := gtr_31 _ (List.mem_of_getElem? (i := 9) rfl)
theorem gc_X12_232 : GoodIn GT (va_wsS RX12 232 yX12_one w_X12_one) := gi_S (gtr_31 _ (List.mem_of_getElem? (i := 7) rfl)) (gtr_31 _ (List.mem_of_getElem? (i := 8) rfl)) (gtr_1 _ (List.mem_of_getElem? (i := 5) rfl)) wc_X12_one
theorem wc_X12_addsRow : Cond.code yX12_addsRow cX12_addsRow 9 none ∈ GT := gtr_31 _ (List.mem_of_getElem? (i := 13) rfl)
theorem gc_X12_236 : GoodIn GT (wsV RX12 236 RX12 yX12_addsRow w_X12_addsRow) := gi_V (gtr_31 _ (List.mem_of_getElem? (i := 10) rfl)) (gtr_31 _ (List.mem_of_getElem? (i := 11) rfl)) (gtr_31 _ (List.mem_of_getElem? (i := 12) rfl)) (gtr_1 _ (List.mem_of_getElem? (i := 5) rfl)) wc_X12_addsRow
set_option maxHeartbeats 4000000 in
set_option maxRecDepth 100000 in
theorem k_X12_addsPair_0 {E : ET} {F : FT} {fo : Option HS} (hC : Cx E F 7 cX12_addsPair RX12 GT) (hO : Ro F rm_X12_addsPair) (hR : RV E F fo) (hf : fo ≠ none) (t : Nat) (ht1 : kd t = 12) (ht2 : AL E t) (x1 : Int32) (x2 : Int64) (x4 : Int32) (x5 : Int64) (σ : HS) (h : f_X12_addsPair t x1 x2 x4 x5 σ = fo) : G E F 0 [(0, .ref (E.2.2.1 t)), (1, .int x1), (2, .long x2), (4, .int x4), (5, .long x5)] [] σ := by
    refine g_aload_n hC dX12_addsPair_0 rfl 0 rfl ?_
    refine g_iload_n hC dX12_addsPair_1 rfl 1 rfl ?_
    refine g_iconst (v := 0) hC dX12_addsPair_2 (by decide) ?_
    refine g_lload_n hC dX12_addsPair_3 rfl 2 rfl ?_
    obtain ⟨q1, hq1, h⟩ := bd_of h hf
    refine g_cSJ (As := [.int x1, .int 0, .long x2]) hC hO (c_X12_one _ hC.2.2.2.2.2.2.1 x1 0 x2 σ (nn_of hq1)) gc_X12_232 (xk_X12_one _ (Nat.le_of_ble_eq_true rfl) (Nat.le_of_ble_eq_true rfl)) rfl (Nat.le_of_ble_eq_true rfl) dX12_addsPair_4 hq1 ?_
    refine g_iload hC dX12_addsPair_7 3 rfl ?_
    refine g_iconst (v := 0) hC dX12_addsPair_9 (by decide) ?_
    refine g_lload hC dX12_addsPair_10 4 rfl ?_
    obtain ⟨q2, hq2, h⟩ := bd_of h hf
    refine g_cSJ (As := [.int x4, .int 0, .long x5]) hC hO (c_X12_one _ hC.2.2.2.2.2.2.1 x4 0 x5 q1.2 (nn_of hq2)) gc_X12_232 (xk_X12_one _ (Nat.le_of_ble_eq_true rfl) (Nat.le_of_ble_eq_true rfl)) rfl (Nat.le_of_ble_eq_true rfl) dX12_addsPair_12 hq2 ?_
    refine g_lsub hC dX12_addsPair_15 ?_
    refine g_iload_n hC dX12_addsPair_16 rfl 1 rfl ?_
    refine g_iconst (v := 1) hC dX12_addsPair_17 (by decide) ?_
    refine g_lload_n hC dX12_addsPair_18 rfl 2 rfl ?_
    obtain ⟨q3, hq3, h⟩ := bd_of h hf
    refine g_cSJ (As := [.int x1, .int 1, .long x2]) hC hO (c_X12_one _ hC.2.2.2.2.2.2.1 x1 1 x2 q2.2 (nn_of hq3)) gc_X12_232 (xk_X12_one _ (Nat.le_of_ble_eq_true rfl) (Nat.le_of_ble_eq_true rfl)) rfl (Nat.le_of_ble_eq_true rfl) dX12_addsPair_19 hq3 ?_
    refine g_iload hC dX12_addsPair_22 3 rfl ?_
    refine g_iconst (v := 1) hC dX12_addsPair_24 (by decide) ?_
    refine g_lload hC dX12_addsPair_25 4 rfl ?_
    obtain ⟨q4, hq4, h⟩ := bd_of h hf
    refine g_cSJ (As := [.int x4, .int 1, .long x5]) hC hO (c_X12_one _ hC.2.2.2.2.2.2.1 x4 1 x5 q3.2 (nn_of hq4)) gc_X12_232 (xk_X12_one _ (Nat.le_of_ble_eq_true rfl) (Nat.le_of_ble_eq_true rfl)) rfl (Nat.le_of_ble_eq_true rfl) dX12_addsPair_27 hq4 ?_
    refine g_lsub hC dX12_addsPair_30 ?_
    refine g_iload_n hC dX12_addsPair_31 rfl 1 rfl ?_
    refine g_iconst (v := 2) hC dX12_addsPair_32 (by decide) ?_
    refine g_lload_n hC dX12_addsPair_33 rfl 2 rfl ?_
    obtain ⟨q5, hq5, h⟩ := bd_of h hf
    refine g_cSJ (As := [.int x1, .int 2, .long x2]) hC hO (c_X12_one _ hC.2.2.2.2.2.2.1 x1 2 x2 q4.2 (nn_of hq5)) gc_X12_232 (xk_X12_one _ (Nat.le_of_ble_eq_true rfl) (Nat.le_of_ble_eq_true rfl)) rfl (Nat.le_of_ble_eq_true rfl) dX12_addsPair_34 hq5 ?_
    refine g_iload hC dX12_addsPair_37 3 rfl ?_
    refine g_iconst (v := 2) hC dX12_addsPair_39 (by decide) ?_
    refine g_lload hC dX12_addsPair_40 4 rfl ?_
    obtain ⟨q6, hq6, h⟩ := bd_of h hf
    refine g_cSJ (As := [.int x4, .int 2, .long x5]) hC hO (c_X12_one _ hC.2.2.2.2.2.2.1 x4 2 x5 q5.2 (nn_of hq6)) gc_X12_232 (xk_X12_one _ (Nat.le_of_ble_eq_true rfl) (Nat.le_of_ble_eq_true rfl)) rfl (Nat.le_of_ble_eq_true rfl) dX12_addsPair_42 hq6 ?_
    refine g_lsub hC dX12_addsPair_45 ?_
    refine g_iload_n hC dX12_addsPair_46 rfl 1 rfl ?_
    refine g_iconst (v := 3) hC dX12_addsPair_47 (by decide) ?_
    refine g_lload_n hC dX12_addsPair_48 rfl 2 rfl ?_
    obtain ⟨q7, hq7, h⟩ := bd_of h hf
    refine g_cSJ (As := [.int x1, .int 3, .long x2]) hC hO (c_X12_one _ hC.2.2.2.2.2.2.1 x1 3 x2 q6.2 (nn_of hq7)) gc_X12_232 (xk_X12_one _ (Nat.le_of_ble_eq_true rfl) (Nat.le_of_ble_eq_true rfl)) rfl (Nat.le_of_ble_eq_true rfl) dX12_addsPair_49 hq7 ?_
    refine g_iload hC dX12_addsPair_52 3 rfl ?_
    refine g_iconst (v := 3) hC dX12_addsPair_54 (by decide) ?_
    refine g_lload hC dX12_addsPair_55 4 rfl ?_
    obtain ⟨q8, hq8, h⟩ := bd_of h hf
    refine g_cSJ (As := [.int x4, .int 3, .long x5]) hC hO (c_X12_one _ hC.2.2.2.2.2.2.1 x4 3 x5 q7.2 (nn_of hq8)) gc_X12_232 (xk_X12_one _ (Nat.le_of_ble_eq_true rfl) (Nat.le_of_ble_eq_true rfl)) rfl (Nat.le_of_ble_eq_true rfl) dX12_addsPair_57 hq8 ?_
    refine g_lsub hC dX12_addsPair_60 ?_
    obtain ⟨q9, hq9, h⟩ := bd_of h hf
    refine g_cVV (As := [.long (q1.1 - q2.1), .long (q3.1 - q4.1), .long (q5.1 - q6.1), .long (q7.1 - q8.1)]) hC hO (c_X12_addsRow _ hC.2.2.2.2.2.2.1 t ht1 ht2 (q1.1 - q2.1) (q3.1 - q4.1) (q5.1 - q6.1) (q7.1 - q8.1) q8.2 (nn_of hq9)) gc_X12_236 (xk_X12_addsRow _ (Nat.le_of_ble_eq_true rfl) (Nat.le_of_ble_eq_true rfl)) cr12 ht1 ht2 rfl (Nat.le_of_ble_eq_true rfl) dX12_addsPair_61 hq9 ?_
    exact g_vret hC hR dX12_addsPair_64 h
theorem xk_X12_addsPair (R : Room) (h1 : 1 + 1 ≤ R.frames) (h2 : 78 ≤ R.locals) : xw R yX12_addsPair w_X12_addsPair GT cX12_addsPair 7 none rm_X12_addsPair 4 := ⟨rfl, rfl, rfl, h1, h2, ⟨by decide, by decide⟩, by decide +kernel⟩
theorem c_X12_addsPair (E : ET) (hE : EO E) (t : Nat) (ht1 : kd t = 12) (ht2 : AL E t) (x1 : Int32) (x2 : Int64) (x4 : Int32) (x5 : Int64) (σ : HS) (hn : f_X12_addsPair t x1 x2 x4 x5 σ ≠ none) : CoV E yX12_addsPair w_X12_addsPair rm_X12_addsPair [.ref (E.2.2.1 t), .int x1, .long x2, .int x4, .long x5] σ (f_X12_addsPair t x1 x2 x4 x5 σ) := CoV.of (lv := [(0, .ref (E.2.2.1 t)), (1, .int x1), (2, .long x2), (4, .int x4), (5, .long x5)]) hE (plainFor_of_name (by decide)) rfl (Nat.le_of_ble_eq_true rfl) rfl (fun F hC hO hR => k_X12_addsPair_0 hC hO hR hn t ht1 ht2 x1 x2 x4 x5 σ rfl)
def rm_X12_shareOf : Room := { frames := 0, cells := 0, slots := 0, locals := 0 }
set_option maxHeartbeats 4000000 in
set_option maxRecDepth 100000 in
theorem k_X12_shareOf_14 {E : ET} {F : FT} {fo : Option (Int64 × HS)} (hC : Cx E F 3 cX12_shareOf RX12 GT) (hO : Ro F rm_X12_shareOf) (hR : RJ E F fo) (hf : fo ≠ none) (s0 : Int64) (σ : HS) (h : f_X12_shareOf_14 s0 σ = fo) : G E F 14 [] [.long s0] σ := by
    exact g_lret hC hR dX12_shareOf_14 h
set_option maxHeartbeats 4000000 in
set_option maxRecDepth 100000 in
theorem k_X12_shareOf_0 {E : ET} {F : FT} {fo : Option (Int64 × HS)} (hC : Cx E F 3 cX12_shareOf RX12 GT) (hO : Ro F rm_X12_shareOf) (hR : RJ E F fo) (hf : fo ≠ none) (t : Nat) (ht1 : kd t = 12) (ht2 : AL E t) (x1 : Int32) (x2 : Int32) (σ : HS) (h : f_X12_shareOf t x1 x2 σ = fo) : G E F 0 [(0, .ref (E.2.2.1 t)), (1, .int x1), (2, .int x2)] [] σ := by
    refine g_iload_n hC dX12_shareOf_0 rfl 1 rfl ?_
    refine g_aload_n hC dX12_shareOf_1 rfl 0 rfl ?_
    refine g_getI (k := 20) hC cr12 ui_12 ht1 ht2 (by decide) fl_X12_193 rfl rfl dX12_shareOf_2 ?_
    refine g_icmp_ge (tgt := 13) hC dX12_shareOf_5 (by decide) h (fun c5 h => ?_) (fun c5 h => ?_)
    · refine g_lconst (v := 0) hC dX12_shareOf_13 (by decide) ?_
      exact g_sub [] rfl (k_X12_shareOf_14 hC hO hR hf 0 σ h)
    · refine g_iload_n hC dX12_shareOf_8 rfl 2 rfl ?_
      refine g_i2l hC dX12_shareOf_9 ?_
      refine g_goto (tgt := 14) hC dX12_shareOf_10 (by decide) ?_
      exact g_sub [] rfl (k_X12_shareOf_14 hC hO hR hf x2.toInt64 σ h)
theorem xk_X12_shareOf (R : Room) (h1 : 0 + 1 ≤ R.frames) (h2 : 34 ≤ R.locals) : xw R yX12_shareOf w_X12_shareOf GT cX12_shareOf 3 (some .long) rm_X12_shareOf 2 := ⟨rfl, rfl, rfl, h1, h2, ⟨by decide, by decide⟩, by decide +kernel⟩
theorem c_X12_shareOf (E : ET) (hE : EO E) (t : Nat) (ht1 : kd t = 12) (ht2 : AL E t) (x1 : Int32) (x2 : Int32) (σ : HS) (hn : f_X12_shareOf t x1 x2 σ ≠ none) : CoJ E yX12_shareOf w_X12_shareOf rm_X12_shareOf [.ref (E.2.2.1 t), .int x1, .int x2] σ (f_X12_shareOf t x1 x2 σ) := CoJ.of (lv := [(0, .ref (E.2.2.1 t)), (1, .int x1), (2, .int x2)]) hE (plainFor_of_name (by decide)) rfl (Nat.le_of_ble_eq_true rfl) rfl (fun F hC hO hR => k_X12_shareOf_0 hC hO hR hn t ht1 ht2 x1 x2 σ rfl)
def rm_X12_addsShare : Room := { frames := 1, cells := 0, slots := 0, locals := 40 }
theorem cl_X12_240 : Cond.constantLong RX12 240 (100) ∈ GT := gtr_32 _ (List.mem_of_getElem? (i := 3) rfl)
theorem wc_X12_shareOf : Cond.code yX12_shareOf cX12_shareOf 3 (some .long) ∈ GT := gtr_32 _ (List.mem_of_getElem? (i := 7) rfl)
theorem gc_X12_242 : GoodIn GT (wsV RX12 242 RX12 yX12_shareOf w_X12_shareOf) := gi_V (gtr_32 _ (List.mem_of_getElem? (i := 4) rfl)) (gtr_32 _ (List.mem_of_getElem? (i := 5) rfl)) (gtr_32 _ (List.mem_of_getElem? (i := 6) rfl)) (gtr_1 _ (List.mem_of_getElem? (i := 5) rfl)) wc_X12_shareOf
set_option maxHeartbeats 4000000 in
set_option maxRecDepth 100000 in
theorem k_X12_addsShare_0 {E : ET} {F : FT} {fo : Option HS} (hC : Cx E F 5 cX12_addsShare RX12 GT) (hO : Ro F rm_X12_addsShare) (hR : RV E F fo) (hf : fo ≠ none) (t : Nat) (ht1 : kd t = 12) (ht2 : AL E t) (x1 : Int32) (x2 : Int32) (x3 : Int64) (σ : HS) (h : f_X12_addsShare t x1 x2 x3 σ = fo) : G E F 0 [(0, .ref (E.2.2.1 t)), (1, .int x1), (2, .int x2), (3, .long x3)] [] σ := by
    refine g_aload_n hC dX12_addsShare_0 rfl 0 rfl ?_
    refine g_lload_n hC dX12_addsShare_1 rfl 3 rfl ?_
    refine g_iload_n hC dX12_addsShare_2 rfl 1 rfl ?_
    refine g_iconst (v := 0) hC dX12_addsShare_3 (by decide) ?_
    refine g_ldc2 (v := 100) hC cl_X12_240 dX12_addsShare_4 ?_
    obtain ⟨q1, hq1, h⟩ := bd_of h hf
    refine g_cSJ (As := [.int x1, .int 0, .long 100]) hC hO (c_X12_one _ hC.2.2.2.2.2.2.1 x1 0 100 σ (nn_of hq1)) gc_X12_232 (xk_X12_one _ (Nat.le_of_ble_eq_true rfl) (Nat.le_of_ble_eq_true rfl)) rfl (Nat.le_of_ble_eq_true rfl) dX12_addsShare_7 hq1 ?_
    refine g_iload_n hC dX12_addsShare_10 rfl 2 rfl ?_
    refine g_i2l hC dX12_addsShare_11 ?_
    refine g_lsub hC dX12_addsShare_12 ?_
    refine g_lmul hC dX12_addsShare_13 ?_
    refine g_lload_n hC dX12_addsShare_14 rfl 3 rfl ?_
    refine g_iload_n hC dX12_addsShare_15 rfl 1 rfl ?_
    refine g_iconst (v := 1) hC dX12_addsShare_16 (by decide) ?_
    refine g_ldc2 (v := 100) hC cl_X12_240 dX12_addsShare_17 ?_
    obtain ⟨q2, hq2, h⟩ := bd_of h hf
    refine g_cSJ (As := [.int x1, .int 1, .long 100]) hC hO (c_X12_one _ hC.2.2.2.2.2.2.1 x1 1 100 q1.2 (nn_of hq2)) gc_X12_232 (xk_X12_one _ (Nat.le_of_ble_eq_true rfl) (Nat.le_of_ble_eq_true rfl)) rfl (Nat.le_of_ble_eq_true rfl) dX12_addsShare_20 hq2 ?_
    refine g_aload_n hC dX12_addsShare_23 rfl 0 rfl ?_
    refine g_iconst (v := 1) hC dX12_addsShare_24 (by decide) ?_
    refine g_iload_n hC dX12_addsShare_25 rfl 2 rfl ?_
    obtain ⟨q3, hq3, h⟩ := bd_of h hf
    refine g_cVJ (As := [.int 1, .int x2]) hC hO (c_X12_shareOf _ hC.2.2.2.2.2.2.1 t ht1 ht2 1 x2 q2.2 (nn_of hq3)) gc_X12_242 (xk_X12_shareOf _ (Nat.le_of_ble_eq_true rfl) (Nat.le_of_ble_eq_true rfl)) cr12 ht1 ht2 rfl (Nat.le_of_ble_eq_true rfl) dX12_addsShare_26 hq3 ?_
    refine g_lsub hC dX12_addsShare_29 ?_
    refine g_lmul hC dX12_addsShare_30 ?_
    refine g_lload_n hC dX12_addsShare_31 rfl 3 rfl ?_
    refine g_iload_n hC dX12_addsShare_32 rfl 1 rfl ?_
    refine g_iconst (v := 2) hC dX12_addsShare_33 (by decide) ?_
    refine g_ldc2 (v := 100) hC cl_X12_240 dX12_addsShare_34 ?_
    obtain ⟨q4, hq4, h⟩ := bd_of h hf
    refine g_cSJ (As := [.int x1, .int 2, .long 100]) hC hO (c_X12_one _ hC.2.2.2.2.2.2.1 x1 2 100 q3.2 (nn_of hq4)) gc_X12_232 (xk_X12_one _ (Nat.le_of_ble_eq_true rfl) (Nat.le_of_ble_eq_true rfl)) rfl (Nat.le_of_ble_eq_true rfl) dX12_addsShare_37 hq4 ?_
    refine g_aload_n hC dX12_addsShare_40 rfl 0 rfl ?_
    refine g_iconst (v := 2) hC dX12_addsShare_41 (by decide) ?_
    refine g_iload_n hC dX12_addsShare_42 rfl 2 rfl ?_
    obtain ⟨q5, hq5, h⟩ := bd_of h hf
    refine g_cVJ (As := [.int 2, .int x2]) hC hO (c_X12_shareOf _ hC.2.2.2.2.2.2.1 t ht1 ht2 2 x2 q4.2 (nn_of hq5)) gc_X12_242 (xk_X12_shareOf _ (Nat.le_of_ble_eq_true rfl) (Nat.le_of_ble_eq_true rfl)) cr12 ht1 ht2 rfl (Nat.le_of_ble_eq_true rfl) dX12_addsShare_43 hq5 ?_
    refine g_lsub hC dX12_addsShare_46 ?_
    refine g_lmul hC dX12_addsShare_47 ?_
    refine g_lload_n hC dX12_addsShare_48 rfl 3 rfl ?_
    refine g_iload_n hC dX12_addsShare_49 rfl 1 rfl ?_
    refine g_iconst (v := 3) hC dX12_addsShare_50 (by decide) ?_
    refine g_ldc2 (v := 100) hC cl_X12_240 dX12_addsShare_51 ?_
    obtain ⟨q6, hq6, h⟩ := bd_of h hf
    refine g_cSJ (As := [.int x1, .int 3, .long 100]) hC hO (c_X12_one _ hC.2.2.2.2.2.2.1 x1 3 100 q5.2 (nn_of hq6)) gc_X12_232 (xk_X12_one _ (Nat.le_of_ble_eq_true rfl) (Nat.le_of_ble_eq_true rfl)) rfl (Nat.le_of_ble_eq_true rfl) dX12_addsShare_54 hq6 ?_
    refine g_aload_n hC dX12_addsShare_57 rfl 0 rfl ?_
    refine g_iconst (v := 3) hC dX12_addsShare_58 (by decide) ?_
    refine g_iload_n hC dX12_addsShare_59 rfl 2 rfl ?_
    obtain ⟨q7, hq7, h⟩ := bd_of h hf
    refine g_cVJ (As := [.int 3, .int x2]) hC hO (c_X12_shareOf _ hC.2.2.2.2.2.2.1 t ht1 ht2 3 x2 q6.2 (nn_of hq7)) gc_X12_242 (xk_X12_shareOf _ (Nat.le_of_ble_eq_true rfl) (Nat.le_of_ble_eq_true rfl)) cr12 ht1 ht2 rfl (Nat.le_of_ble_eq_true rfl) dX12_addsShare_60 hq7 ?_
    refine g_lsub hC dX12_addsShare_63 ?_
    refine g_lmul hC dX12_addsShare_64 ?_
    obtain ⟨q8, hq8, h⟩ := bd_of h hf
    refine g_cVV (As := [.long (x3 * (q1.1 - x2.toInt64)), .long (x3 * (q2.1 - q3.1)), .long (x3 * (q4.1 - q5.1)), .long (x3 * (q6.1 - q7.1))]) hC hO (c_X12_addsRow _ hC.2.2.2.2.2.2.1 t ht1 ht2 (x3 * (q1.1 - x2.toInt64)) (x3 * (q2.1 - q3.1)) (x3 * (q4.1 - q5.1)) (x3 * (q6.1 - q7.1)) q7.2 (nn_of hq8)) gc_X12_236 (xk_X12_addsRow _ (Nat.le_of_ble_eq_true rfl) (Nat.le_of_ble_eq_true rfl)) cr12 ht1 ht2 rfl (Nat.le_of_ble_eq_true rfl) dX12_addsShare_65 hq8 ?_
    exact g_vret hC hR dX12_addsShare_68 h
theorem xk_X12_addsShare (R : Room) (h1 : 1 + 1 ≤ R.frames) (h2 : 76 ≤ R.locals) : xw R yX12_addsShare w_X12_addsShare GT cX12_addsShare 5 none rm_X12_addsShare 3 := ⟨rfl, rfl, rfl, h1, h2, ⟨by decide, by decide⟩, by decide +kernel⟩
theorem c_X12_addsShare (E : ET) (hE : EO E) (t : Nat) (ht1 : kd t = 12) (ht2 : AL E t) (x1 : Int32) (x2 : Int32) (x3 : Int64) (σ : HS) (hn : f_X12_addsShare t x1 x2 x3 σ ≠ none) : CoV E yX12_addsShare w_X12_addsShare rm_X12_addsShare [.ref (E.2.2.1 t), .int x1, .int x2, .long x3] σ (f_X12_addsShare t x1 x2 x3 σ) := CoV.of (lv := [(0, .ref (E.2.2.1 t)), (1, .int x1), (2, .int x2), (3, .long x3)]) hE (plainFor_of_name (by decide)) rfl (Nat.le_of_ble_eq_true rfl) rfl (fun F hC hO hR => k_X12_addsShare_0 hC hO hR hn t ht1 ht2 x1 x2 x3 σ rfl)
def rm_X12_differ : Room := { frames := 2, cells := 0, slots := 0, locals := 69 }
set_option maxHeartbeats 4000000 in
set_option maxRecDepth 100000 in
theorem k_X12_differ_26 {E : ET} {F : FT} {fo : Option (Int64 × HS)} (hC : Cx E F 4 cX12_differ RX12 GT) (hO : Ro F rm_X12_differ) (hR : RJ E F fo) (hf : fo ≠ none) (s0 : Int64) (σ : HS) (h : f_X12_differ_26 s0 σ = fo) : G E F 26 [] [.long s0] σ := by
    exact g_lret hC hR dX12_differ_26 h
set_option maxHeartbeats 4000000 in
set_option maxRecDepth 100000 in
theorem k_X12_differ_0 {E : ET} {F : FT} {fo : Option (Int64 × HS)} (hC : Cx E F 4 cX12_differ RX12 GT) (hO : Ro F rm_X12_differ) (hR : RJ E F fo) (hf : fo ≠ none) (t : Nat) (ht1 : kd t = 12) (ht2 : AL E t) (x1 : Int32) (x2 : Int32) (x3 : Int32) (σ : HS) (h : f_X12_differ t x1 x2 x3 σ = fo) : G E F 0 [(0, .ref (E.2.2.1 t)), (1, .int x1), (2, .int x2), (3, .int x3)] [] σ := by
    refine g_iload_n hC dX12_differ_0 rfl 3 rfl ?_
    refine g_aload_n hC dX12_differ_1 rfl 0 rfl ?_
    refine g_getI (k := 20) hC cr12 ui_12 ht1 ht2 (by decide) fl_X12_193 rfl rfl dX12_differ_2 ?_
    refine g_icmp_ge (tgt := 25) hC dX12_differ_5 (by decide) h (fun c5 h => ?_) (fun c5 h => ?_)
    · refine g_lconst (v := 0) hC dX12_differ_25 (by decide) ?_
      exact g_sub [] rfl (k_X12_differ_26 hC hO hR hf 0 σ h)
    · refine g_aload_n hC dX12_differ_8 rfl 0 rfl ?_
      refine g_iload_n hC dX12_differ_9 rfl 1 rfl ?_
      refine g_iload_n hC dX12_differ_10 rfl 3 rfl ?_
      obtain ⟨q1, hq1, h⟩ := bd_of h hf
      refine g_cVI (As := [.int x1, .int x3]) hC hO (c_X12_valueOf _ hC.2.2.2.2.2.2.1 t ht1 ht2 x1 x3 σ (nn_of hq1)) gc_X12_226 (xk_X12_valueOf _ (Nat.le_of_ble_eq_true rfl) (Nat.le_of_ble_eq_true rfl)) cr12 ht1 ht2 rfl (Nat.le_of_ble_eq_true rfl) dX12_differ_11 hq1 ?_
      refine g_aload_n hC dX12_differ_14 rfl 0 rfl ?_
      refine g_iload_n hC dX12_differ_15 rfl 2 rfl ?_
      refine g_iload_n hC dX12_differ_16 rfl 3 rfl ?_
      obtain ⟨q2, hq2, h⟩ := bd_of h hf
      refine g_cVI (As := [.int x2, .int x3]) hC hO (c_X12_valueOf _ hC.2.2.2.2.2.2.1 t ht1 ht2 x2 x3 q1.2 (nn_of hq2)) gc_X12_226 (xk_X12_valueOf _ (Nat.le_of_ble_eq_true rfl) (Nat.le_of_ble_eq_true rfl)) cr12 ht1 ht2 rfl (Nat.le_of_ble_eq_true rfl) dX12_differ_17 hq2 ?_
      refine g_isub hC dX12_differ_20 ?_
      refine g_i2l hC dX12_differ_21 ?_
      refine g_goto (tgt := 26) hC dX12_differ_22 (by decide) ?_
      exact g_sub [] rfl (k_X12_differ_26 hC hO hR hf ((q1.1 - q2.1).toInt64) q2.2 h)
theorem xk_X12_differ (R : Room) (h1 : 2 + 1 ≤ R.frames) (h2 : 104 ≤ R.locals) : xw R yX12_differ w_X12_differ GT cX12_differ 4 (some .long) rm_X12_differ 3 := ⟨rfl, rfl, rfl, h1, h2, ⟨by decide, by decide⟩, by decide +kernel⟩
theorem c_X12_differ (E : ET) (hE : EO E) (t : Nat) (ht1 : kd t = 12) (ht2 : AL E t) (x1 : Int32) (x2 : Int32) (x3 : Int32) (σ : HS) (hn : f_X12_differ t x1 x2 x3 σ ≠ none) : CoJ E yX12_differ w_X12_differ rm_X12_differ [.ref (E.2.2.1 t), .int x1, .int x2, .int x3] σ (f_X12_differ t x1 x2 x3 σ) := CoJ.of (lv := [(0, .ref (E.2.2.1 t)), (1, .int x1), (2, .int x2), (3, .int x3)]) hE (plainFor_of_name (by decide)) rfl (Nat.le_of_ble_eq_true rfl) rfl (fun F hC hO hR => k_X12_differ_0 hC hO hR hn t ht1 ht2 x1 x2 x3 σ rfl)
def rm_X12_addsBetter : Room := { frames := 3, cells := 0, slots := 0, locals := 104 }
theorem wc_X12_differ : Cond.code yX12_differ cX12_differ 4 (some .long) ∈ GT := gtr_32 _ (List.mem_of_getElem? (i := 15) rfl)
theorem gc_X12_246 : GoodIn GT (wsV RX12 246 RX12 yX12_differ w_X12_differ) := gi_V (gtr_32 _ (List.mem_of_getElem? (i := 12) rfl)) (gtr_32 _ (List.mem_of_getElem? (i := 13) rfl)) (gtr_32 _ (List.mem_of_getElem? (i := 14) rfl)) (gtr_1 _ (List.mem_of_getElem? (i := 5) rfl)) wc_X12_differ
set_option maxHeartbeats 4000000 in
set_option maxRecDepth 100000 in
theorem k_X12_addsBetter_0 {E : ET} {F : FT} {fo : Option HS} (hC : Cx E F 3 cX12_addsBetter RX12 GT) (hO : Ro F rm_X12_addsBetter) (hR : RV E F fo) (hf : fo ≠ none) (t : Nat) (ht1 : kd t = 12) (ht2 : AL E t) (x1 : Int32) (x2 : Int32) (σ : HS) (h : f_X12_addsBetter t x1 x2 σ = fo) : G E F 0 [(0, .ref (E.2.2.1 t)), (1, .int x1), (2, .int x2)] [] σ := by
    refine g_aload_n hC dX12_addsBetter_0 rfl 0 rfl ?_
    refine g_aload_n hC dX12_addsBetter_1 rfl 0 rfl ?_
    refine g_iload_n hC dX12_addsBetter_2 rfl 1 rfl ?_
    refine g_iload_n hC dX12_addsBetter_3 rfl 2 rfl ?_
    refine g_iconst (v := 0) hC dX12_addsBetter_4 (by decide) ?_
    obtain ⟨q1, hq1, h⟩ := bd_of h hf
    refine g_cVJ (As := [.int x1, .int x2, .int 0]) hC hO (c_X12_differ _ hC.2.2.2.2.2.2.1 t ht1 ht2 x1 x2 0 σ (nn_of hq1)) gc_X12_246 (xk_X12_differ _ (Nat.le_of_ble_eq_true rfl) (Nat.le_of_ble_eq_true rfl)) cr12 ht1 ht2 rfl (Nat.le_of_ble_eq_true rfl) dX12_addsBetter_5 hq1 ?_
    refine g_aload_n hC dX12_addsBetter_8 rfl 0 rfl ?_
    refine g_iload_n hC dX12_addsBetter_9 rfl 1 rfl ?_
    refine g_iload_n hC dX12_addsBetter_10 rfl 2 rfl ?_
    refine g_iconst (v := 1) hC dX12_addsBetter_11 (by decide) ?_
    obtain ⟨q2, hq2, h⟩ := bd_of h hf
    refine g_cVJ (As := [.int x1, .int x2, .int 1]) hC hO (c_X12_differ _ hC.2.2.2.2.2.2.1 t ht1 ht2 x1 x2 1 q1.2 (nn_of hq2)) gc_X12_246 (xk_X12_differ _ (Nat.le_of_ble_eq_true rfl) (Nat.le_of_ble_eq_true rfl)) cr12 ht1 ht2 rfl (Nat.le_of_ble_eq_true rfl) dX12_addsBetter_12 hq2 ?_
    refine g_aload_n hC dX12_addsBetter_15 rfl 0 rfl ?_
    refine g_iload_n hC dX12_addsBetter_16 rfl 1 rfl ?_
    refine g_iload_n hC dX12_addsBetter_17 rfl 2 rfl ?_
    refine g_iconst (v := 2) hC dX12_addsBetter_18 (by decide) ?_
    obtain ⟨q3, hq3, h⟩ := bd_of h hf
    refine g_cVJ (As := [.int x1, .int x2, .int 2]) hC hO (c_X12_differ _ hC.2.2.2.2.2.2.1 t ht1 ht2 x1 x2 2 q2.2 (nn_of hq3)) gc_X12_246 (xk_X12_differ _ (Nat.le_of_ble_eq_true rfl) (Nat.le_of_ble_eq_true rfl)) cr12 ht1 ht2 rfl (Nat.le_of_ble_eq_true rfl) dX12_addsBetter_19 hq3 ?_
    refine g_aload_n hC dX12_addsBetter_22 rfl 0 rfl ?_
    refine g_iload_n hC dX12_addsBetter_23 rfl 1 rfl ?_
    refine g_iload_n hC dX12_addsBetter_24 rfl 2 rfl ?_
    refine g_iconst (v := 3) hC dX12_addsBetter_25 (by decide) ?_
    obtain ⟨q4, hq4, h⟩ := bd_of h hf
    refine g_cVJ (As := [.int x1, .int x2, .int 3]) hC hO (c_X12_differ _ hC.2.2.2.2.2.2.1 t ht1 ht2 x1 x2 3 q3.2 (nn_of hq4)) gc_X12_246 (xk_X12_differ _ (Nat.le_of_ble_eq_true rfl) (Nat.le_of_ble_eq_true rfl)) cr12 ht1 ht2 rfl (Nat.le_of_ble_eq_true rfl) dX12_addsBetter_26 hq4 ?_
    obtain ⟨q5, hq5, h⟩ := bd_of h hf
    refine g_cVV (As := [.long q1.1, .long q2.1, .long q3.1, .long q4.1]) hC hO (c_X12_addsRow _ hC.2.2.2.2.2.2.1 t ht1 ht2 q1.1 q2.1 q3.1 q4.1 q4.2 (nn_of hq5)) gc_X12_236 (xk_X12_addsRow _ (Nat.le_of_ble_eq_true rfl) (Nat.le_of_ble_eq_true rfl)) cr12 ht1 ht2 rfl (Nat.le_of_ble_eq_true rfl) dX12_addsBetter_29 hq5 ?_
    exact g_vret hC hR dX12_addsBetter_32 h
theorem xk_X12_addsBetter (R : Room) (h1 : 3 + 1 ≤ R.frames) (h2 : 138 ≤ R.locals) : xw R yX12_addsBetter w_X12_addsBetter GT cX12_addsBetter 3 none rm_X12_addsBetter 2 := ⟨rfl, rfl, rfl, h1, h2, ⟨by decide, by decide⟩, by decide +kernel⟩
theorem c_X12_addsBetter (E : ET) (hE : EO E) (t : Nat) (ht1 : kd t = 12) (ht2 : AL E t) (x1 : Int32) (x2 : Int32) (σ : HS) (hn : f_X12_addsBetter t x1 x2 σ ≠ none) : CoV E yX12_addsBetter w_X12_addsBetter rm_X12_addsBetter [.ref (E.2.2.1 t), .int x1, .int x2] σ (f_X12_addsBetter t x1 x2 σ) := CoV.of (lv := [(0, .ref (E.2.2.1 t)), (1, .int x1), (2, .int x2)]) hE (plainFor_of_name (by decide)) rfl (Nat.le_of_ble_eq_true rfl) rfl (fun F hC hO hR => k_X12_addsBetter_0 hC hO hR hn t ht1 ht2 x1 x2 σ rfl)
def rm_X12_addsSaying : Room := { frames := 4, cells := 0, slots := 0, locals := 138 }
theorem wc_X12_addsPair : Cond.code yX12_addsPair cX12_addsPair 7 none ∈ GT := gtr_31 _ (List.mem_of_getElem? (i := 22) rfl)
theorem gc_X12_250 : GoodIn GT (wsV RX12 250 RX12 yX12_addsPair w_X12_addsPair) := gi_V (gtr_31 _ (List.mem_of_getElem? (i := 19) rfl)) (gtr_31 _ (List.mem_of_getElem? (i := 20) rfl)) (gtr_31 _ (List.mem_of_getElem? (i := 21) rfl)) (gtr_1 _ (List.mem_of_getElem? (i := 5) rfl)) wc_X12_addsPair
theorem cl_X12_52 : Cond.constantLong RX12 52 (2) ∈ GT := gtr_9 _ (List.mem_of_getElem? (i := 5) rfl)
theorem wc_X12_addsShare : Cond.code yX12_addsShare cX12_addsShare 5 none ∈ GT := gtr_32 _ (List.mem_of_getElem? (i := 2) rfl)
theorem gc_X12_254 : GoodIn GT (wsV RX12 254 RX12 yX12_addsShare w_X12_addsShare) := gi_V (gtr_31 _ (List.mem_of_getElem? (i := 23) rfl)) (gtr_32 _ (List.mem_of_getElem? (i := 0) rfl)) (gtr_32 _ (List.mem_of_getElem? (i := 1) rfl)) (gtr_1 _ (List.mem_of_getElem? (i := 5) rfl)) wc_X12_addsShare
theorem cl_X12_258 : Cond.constantLong RX12 258 (-1) ∈ GT := gtr_31 _ (List.mem_of_getElem? (i := 18) rfl)
theorem wc_X12_addsBetter : Cond.code yX12_addsBetter cX12_addsBetter 3 none ∈ GT := gtr_32 _ (List.mem_of_getElem? (i := 11) rfl)
theorem gc_X12_260 : GoodIn GT (wsV RX12 260 RX12 yX12_addsBetter w_X12_addsBetter) := gi_V (gtr_32 _ (List.mem_of_getElem? (i := 8) rfl)) (gtr_32 _ (List.mem_of_getElem? (i := 9) rfl)) (gtr_32 _ (List.mem_of_getElem? (i := 10) rfl)) (gtr_1 _ (List.mem_of_getElem? (i := 5) rfl)) wc_X12_addsBetter
set_option maxHeartbeats 4000000 in
set_option maxRecDepth 100000 in
theorem k_X12_addsSaying_159 {E : ET} {F : FT} {fo : Option HS} (hC : Cx E F 4 cX12_addsSaying RX12 GT) (hO : Ro F rm_X12_addsSaying) (hR : RV E F fo) (hf : fo ≠ none) (σ : HS) (h : f_X12_addsSaying_159 σ = fo) : G E F 159 [] [] σ := by
    exact g_vret hC hR dX12_addsSaying_159 h
set_option maxHeartbeats 4000000 in
set_option maxRecDepth 100000 in
theorem k_X12_addsSaying_0 {E : ET} {F : FT} {fo : Option HS} (hC : Cx E F 4 cX12_addsSaying RX12 GT) (hO : Ro F rm_X12_addsSaying) (hR : RV E F fo) (hf : fo ≠ none) (t : Nat) (ht1 : kd t = 12) (ht2 : AL E t) (x1 : Int32) (σ : HS) (h : f_X12_addsSaying t x1 σ = fo) : G E F 0 [(0, .ref (E.2.2.1 t)), (1, .int x1)] [] σ := by
    refine g_aload_n hC dX12_addsSaying_0 rfl 0 rfl ?_
    refine g_getR (cj := 14) (k := 18) hC cr12 ui_12 ht1 ht2 (by decide) fl_X12_94 rfl rfl dX12_addsSaying_1 h hf (fun a1 ea1 ka1 na1 h => ?_)
    refine g_iload_n hC dX12_addsSaying_4 rfl 1 rfl ?_
    refine g_iald hC ka1 na1 dX12_addsSaying_5 h hf (fun h => ?_)
    refine g_istore_n (lv' := [(2, .int (σ.1 a1 x1.toNatClampNeg)), (0, .ref (E.2.2.1 t)), (1, .int x1)]) hC dX12_addsSaying_6 rfl (by decide) rfl ?_
    refine g_aload_n hC dX12_addsSaying_7 rfl 1 rfl ?_
    refine g_getR (cj := 14) (k := 19) hC cr12 ui_12 ht1 ht2 (by decide) fl_X12_97 rfl rfl dX12_addsSaying_8 h hf (fun a2 ea2 ka2 na2 h => ?_)
    refine g_iload_n hC dX12_addsSaying_11 rfl 2 rfl ?_
    refine g_iald hC ka2 na2 dX12_addsSaying_12 h hf (fun h => ?_)
    refine g_istore_n (lv' := [(3, .int (σ.1 a2 x1.toNatClampNeg)), (2, .int (σ.1 a1 x1.toNatClampNeg)), (0, .ref (E.2.2.1 t)), (1, .int x1)]) hC dX12_addsSaying_13 rfl (by decide) rfl ?_
    refine g_aload_n hC dX12_addsSaying_14 rfl 2 rfl ?_
    refine g_getR (cj := 14) (k := 15) hC cr12 ui_12 ht1 ht2 (by decide) fl_X12_85 rfl rfl dX12_addsSaying_15 h hf (fun a3 ea3 ka3 na3 h => ?_)
    refine g_iload_n hC dX12_addsSaying_18 rfl 3 rfl ?_
    refine g_iald hC ka3 na3 dX12_addsSaying_19 h hf (fun h => ?_)
    by_cases cs3 : (σ.1 a3 x1.toNatClampNeg) = 3
    · have h := ife_p cs3 h
      refine g_tin (tgt := 56) hC dX12_addsSaying_20 (by rw [cs3]; decide) (by rw [cs3]; decide) (by rw [cs3]; rfl) (by decide) ?_
      refine g_aload_n hC dX12_addsSaying_56 rfl 2 rfl ?_
      refine g_iload_n hC dX12_addsSaying_57 rfl 1 rfl ?_
      refine g_lconst (v := 1) hC dX12_addsSaying_58 (by decide) ?_
      refine g_iload_n hC dX12_addsSaying_59 rfl 0 rfl ?_
      refine g_lconst (v := 1) hC dX12_addsSaying_60 (by decide) ?_
      obtain ⟨q4, hq4, h⟩ := bd_of h hf
      refine g_cVV (As := [.int (σ.1 a1 x1.toNatClampNeg), .long 1, .int (σ.1 a2 x1.toNatClampNeg), .long 1]) hC hO (c_X12_addsPair _ hC.2.2.2.2.2.2.1 t ht1 ht2 (σ.1 a1 x1.toNatClampNeg) 1 (σ.1 a2 x1.toNatClampNeg) 1 σ (nn_of hq4)) gc_X12_250 (xk_X12_addsPair _ (Nat.le_of_ble_eq_true rfl) (Nat.le_of_ble_eq_true rfl)) cr12 ht1 ht2 rfl (Nat.le_of_ble_eq_true rfl) dX12_addsSaying_61 hq4 ?_
      refine g_goto (tgt := 159) hC dX12_addsSaying_64 (by decide) ?_
      exact g_sub [] rfl (k_X12_addsSaying_159 hC hO hR hf q4 h)
    have h := ife_n cs3 h
    by_cases cs4 : (σ.1 a3 x1.toNatClampNeg) = 4
    · have h := ife_p cs4 h
      refine g_tin (tgt := 67) hC dX12_addsSaying_20 (by rw [cs4]; decide) (by rw [cs4]; decide) (by rw [cs4]; rfl) (by decide) ?_
      refine g_aload_n hC dX12_addsSaying_67 rfl 2 rfl ?_
      refine g_iload_n hC dX12_addsSaying_68 rfl 1 rfl ?_
      refine g_lconst (v := 1) hC dX12_addsSaying_69 (by decide) ?_
      refine g_iload_n hC dX12_addsSaying_70 rfl 0 rfl ?_
      refine g_ldc2 (v := 2) hC cl_X12_52 dX12_addsSaying_71 ?_
      obtain ⟨q5, hq5, h⟩ := bd_of h hf
      refine g_cVV (As := [.int (σ.1 a1 x1.toNatClampNeg), .long 1, .int (σ.1 a2 x1.toNatClampNeg), .long 2]) hC hO (c_X12_addsPair _ hC.2.2.2.2.2.2.1 t ht1 ht2 (σ.1 a1 x1.toNatClampNeg) 1 (σ.1 a2 x1.toNatClampNeg) 2 σ (nn_of hq5)) gc_X12_250 (xk_X12_addsPair _ (Nat.le_of_ble_eq_true rfl) (Nat.le_of_ble_eq_true rfl)) cr12 ht1 ht2 rfl (Nat.le_of_ble_eq_true rfl) dX12_addsSaying_74 hq5 ?_
      refine g_goto (tgt := 159) hC dX12_addsSaying_77 (by decide) ?_
      exact g_sub [] rfl (k_X12_addsSaying_159 hC hO hR hf q5 h)
    have h := ife_n cs4 h
    by_cases cs5 : (σ.1 a3 x1.toNatClampNeg) = 5
    · have h := ife_p cs5 h
      refine g_tin (tgt := 80) hC dX12_addsSaying_20 (by rw [cs5]; decide) (by rw [cs5]; decide) (by rw [cs5]; rfl) (by decide) ?_
      refine g_aload_n hC dX12_addsSaying_80 rfl 2 rfl ?_
      refine g_iload_n hC dX12_addsSaying_81 rfl 1 rfl ?_
      refine g_aload_n hC dX12_addsSaying_82 rfl 2 rfl ?_
      refine g_getR (cj := 14) (k := 16) hC cr12 ui_12 ht1 ht2 (by decide) fl_X12_88 rfl rfl dX12_addsSaying_83 h hf (fun a6 ea6 ka6 na6 h => ?_)
      refine g_iload_n hC dX12_addsSaying_86 rfl 3 rfl ?_
      refine g_iald hC ka6 na6 dX12_addsSaying_87 h hf (fun h => ?_)
      refine g_i2l hC dX12_addsSaying_88 ?_
      refine g_iload_n hC dX12_addsSaying_89 rfl 0 rfl ?_
      refine g_aload_n hC dX12_addsSaying_90 rfl 2 rfl ?_
      refine g_getR (cj := 14) (k := 17) hC cr12 ui_12 ht1 ht2 (by decide) fl_X12_91 rfl rfl dX12_addsSaying_91 h hf (fun a7 ea7 ka7 na7 h => ?_)
      refine g_iload_n hC dX12_addsSaying_94 rfl 3 rfl ?_
      refine g_iald hC ka7 na7 dX12_addsSaying_95 h hf (fun h => ?_)
      refine g_i2l hC dX12_addsSaying_96 ?_
      obtain ⟨q8, hq8, h⟩ := bd_of h hf
      refine g_cVV (As := [.int (σ.1 a1 x1.toNatClampNeg), .long ((σ.1 a6 x1.toNatClampNeg).toInt64), .int (σ.1 a2 x1.toNatClampNeg), .long ((σ.1 a7 x1.toNatClampNeg).toInt64)]) hC hO (c_X12_addsPair _ hC.2.2.2.2.2.2.1 t ht1 ht2 (σ.1 a1 x1.toNatClampNeg) ((σ.1 a6 x1.toNatClampNeg).toInt64) (σ.1 a2 x1.toNatClampNeg) ((σ.1 a7 x1.toNatClampNeg).toInt64) σ (nn_of hq8)) gc_X12_250 (xk_X12_addsPair _ (Nat.le_of_ble_eq_true rfl) (Nat.le_of_ble_eq_true rfl)) cr12 ht1 ht2 rfl (Nat.le_of_ble_eq_true rfl) dX12_addsSaying_97 hq8 ?_
      refine g_goto (tgt := 159) hC dX12_addsSaying_100 (by decide) ?_
      exact g_sub [] rfl (k_X12_addsSaying_159 hC hO hR hf q8 h)
    have h := ife_n cs5 h
    by_cases cs6 : (σ.1 a3 x1.toNatClampNeg) = 6
    · have h := ife_p cs6 h
      refine g_tin (tgt := 103) hC dX12_addsSaying_20 (by rw [cs6]; decide) (by rw [cs6]; decide) (by rw [cs6]; rfl) (by decide) ?_
      refine g_aload_n hC dX12_addsSaying_103 rfl 2 rfl ?_
      refine g_iload_n hC dX12_addsSaying_104 rfl 1 rfl ?_
      refine g_aload_n hC dX12_addsSaying_105 rfl 2 rfl ?_
      refine g_getR (cj := 14) (k := 16) hC cr12 ui_12 ht1 ht2 (by decide) fl_X12_88 rfl rfl dX12_addsSaying_106 h hf (fun a9 ea9 ka9 na9 h => ?_)
      refine g_iload_n hC dX12_addsSaying_109 rfl 3 rfl ?_
      refine g_iald hC ka9 na9 dX12_addsSaying_110 h hf (fun h => ?_)
      refine g_lconst (v := 1) hC dX12_addsSaying_111 (by decide) ?_
      obtain ⟨q10, hq10, h⟩ := bd_of h hf
      refine g_cVV (As := [.int (σ.1 a1 x1.toNatClampNeg), .int (σ.1 a9 x1.toNatClampNeg), .long 1]) hC hO (c_X12_addsShare _ hC.2.2.2.2.2.2.1 t ht1 ht2 (σ.1 a1 x1.toNatClampNeg) (σ.1 a9 x1.toNatClampNeg) 1 σ (nn_of hq10)) gc_X12_254 (xk_X12_addsShare _ (Nat.le_of_ble_eq_true rfl) (Nat.le_of_ble_eq_true rfl)) cr12 ht1 ht2 rfl (Nat.le_of_ble_eq_true rfl) dX12_addsSaying_112 hq10 ?_
      refine g_goto (tgt := 159) hC dX12_addsSaying_115 (by decide) ?_
      exact g_sub [] rfl (k_X12_addsSaying_159 hC hO hR hf q10 h)
    have h := ife_n cs6 h
    by_cases cs7 : (σ.1 a3 x1.toNatClampNeg) = 7
    · have h := ife_p cs7 h
      refine g_tin (tgt := 118) hC dX12_addsSaying_20 (by rw [cs7]; decide) (by rw [cs7]; decide) (by rw [cs7]; rfl) (by decide) ?_
      refine g_aload_n hC dX12_addsSaying_118 rfl 2 rfl ?_
      refine g_iload_n hC dX12_addsSaying_119 rfl 1 rfl ?_
      refine g_aload_n hC dX12_addsSaying_120 rfl 2 rfl ?_
      refine g_getR (cj := 14) (k := 16) hC cr12 ui_12 ht1 ht2 (by decide) fl_X12_88 rfl rfl dX12_addsSaying_121 h hf (fun a11 ea11 ka11 na11 h => ?_)
      refine g_iload_n hC dX12_addsSaying_124 rfl 3 rfl ?_
      refine g_iald hC ka11 na11 dX12_addsSaying_125 h hf (fun h => ?_)
      refine g_ldc2 (v := (-1)) hC cl_X12_258 dX12_addsSaying_126 ?_
      obtain ⟨q12, hq12, h⟩ := bd_of h hf
      refine g_cVV (As := [.int (σ.1 a1 x1.toNatClampNeg), .int (σ.1 a11 x1.toNatClampNeg), .long (-1)]) hC hO (c_X12_addsShare _ hC.2.2.2.2.2.2.1 t ht1 ht2 (σ.1 a1 x1.toNatClampNeg) (σ.1 a11 x1.toNatClampNeg) (-1) σ (nn_of hq12)) gc_X12_254 (xk_X12_addsShare _ (Nat.le_of_ble_eq_true rfl) (Nat.le_of_ble_eq_true rfl)) cr12 ht1 ht2 rfl (Nat.le_of_ble_eq_true rfl) dX12_addsSaying_129 hq12 ?_
      refine g_goto (tgt := 159) hC dX12_addsSaying_132 (by decide) ?_
      exact g_sub [] rfl (k_X12_addsSaying_159 hC hO hR hf q12 h)
    have h := ife_n cs7 h
    refine g_tout (tgt := 135) hC dX12_addsSaying_20 (sw_out 3 7 (by decide) (by decide) (fun k h1 h2 => by rcases (show k = 3 ∨ k = 4 ∨ k = 5 ∨ k = 6 ∨ k = 7 by omega) with rfl | rfl | rfl | rfl | rfl <;> assumption)) (by decide) ?_
    refine g_aload_n hC dX12_addsSaying_135 rfl 2 rfl ?_
    refine g_getR (cj := 16) (k := 21) hC cr12 ui_12 ht1 ht2 (by decide) fl_X12_100 rfl rfl dX12_addsSaying_136 h hf (fun a13 ea13 ka13 na13 h => ?_)
    refine g_iload_n hC dX12_addsSaying_139 rfl 1 rfl ?_
    refine g_zald hC ka13 na13 dX12_addsSaying_140 h hf (fun h => ?_)
    refine g_if_eq (tgt := 159) hC dX12_addsSaying_141 (by decide) h (fun c141 h => ?_) (fun c141 h => ?_)
    · exact g_sub [] rfl (k_X12_addsSaying_159 hC hO hR hf σ h)
    · refine g_aload_n hC dX12_addsSaying_144 rfl 2 rfl ?_
      refine g_getR (cj := 16) (k := 21) hC cr12 ui_12 ht1 ht2 (by decide) fl_X12_100 rfl rfl dX12_addsSaying_145 h hf (fun a14 ea14 ka14 na14 h => ?_)
      refine g_iload_n hC dX12_addsSaying_148 rfl 0 rfl ?_
      refine g_zald hC ka14 na14 dX12_addsSaying_149 h hf (fun h => ?_)
      refine g_if_eq (tgt := 159) hC dX12_addsSaying_150 (by decide) h (fun c150 h => ?_) (fun c150 h => ?_)
      · exact g_sub [] rfl (k_X12_addsSaying_159 hC hO hR hf σ h)
      · refine g_aload_n hC dX12_addsSaying_153 rfl 2 rfl ?_
        refine g_iload_n hC dX12_addsSaying_154 rfl 1 rfl ?_
        refine g_iload_n hC dX12_addsSaying_155 rfl 0 rfl ?_
        obtain ⟨q15, hq15, h⟩ := bd_of h hf
        refine g_cVV (As := [.int (σ.1 a1 x1.toNatClampNeg), .int (σ.1 a2 x1.toNatClampNeg)]) hC hO (c_X12_addsBetter _ hC.2.2.2.2.2.2.1 t ht1 ht2 (σ.1 a1 x1.toNatClampNeg) (σ.1 a2 x1.toNatClampNeg) σ (nn_of hq15)) gc_X12_260 (xk_X12_addsBetter _ (Nat.le_of_ble_eq_true rfl) (Nat.le_of_ble_eq_true rfl)) cr12 ht1 ht2 rfl (Nat.le_of_ble_eq_true rfl) dX12_addsSaying_156 hq15 ?_
        exact g_sub [] rfl (k_X12_addsSaying_159 hC hO hR hf q15 h)
theorem xk_X12_addsSaying (R : Room) (h1 : 4 + 1 ≤ R.frames) (h2 : 173 ≤ R.locals) : xw R yX12_addsSaying w_X12_addsSaying GT cX12_addsSaying 4 none rm_X12_addsSaying 1 := ⟨rfl, rfl, rfl, h1, h2, ⟨by decide, by decide⟩, by decide +kernel⟩
theorem c_X12_addsSaying (E : ET) (hE : EO E) (t : Nat) (ht1 : kd t = 12) (ht2 : AL E t) (x1 : Int32) (σ : HS) (hn : f_X12_addsSaying t x1 σ ≠ none) : CoV E yX12_addsSaying w_X12_addsSaying rm_X12_addsSaying [.ref (E.2.2.1 t), .int x1] σ (f_X12_addsSaying t x1 σ) := CoV.of (lv := [(0, .ref (E.2.2.1 t)), (1, .int x1)]) hE (plainFor_of_name (by decide)) rfl (Nat.le_of_ble_eq_true rfl) rfl (fun F hC hO hR => k_X12_addsSaying_0 hC hO hR hn t ht1 ht2 x1 σ rfl)
def rm_X12_isHeard : Room := { frames := 0, cells := 0, slots := 0, locals := 0 }
set_option maxHeartbeats 4000000 in
set_option maxRecDepth 100000 in
theorem k_X12_isHeard_22 {E : ET} {F : FT} {fo : Option (Int32 × HS)} (hC : Cx E F 2 cX12_isHeard RX12 GT) (hO : Ro F rm_X12_isHeard) (hR : RI E F .boolean fo) (hf : fo ≠ none) (s0 : Int32) (σ : HS) (h : f_X12_isHeard_22 s0 σ = fo) : G E F 22 [] [.int s0] σ := by
    obtain ⟨hz, h⟩ := zr_of h hf
    exact g_iret hC hR dX12_isHeard_22 hz h
set_option maxHeartbeats 4000000 in
set_option maxRecDepth 100000 in
theorem k_X12_isHeard_0 {E : ET} {F : FT} {fo : Option (Int32 × HS)} (hC : Cx E F 2 cX12_isHeard RX12 GT) (hO : Ro F rm_X12_isHeard) (hR : RI E F .boolean fo) (hf : fo ≠ none) (t : Nat) (ht1 : kd t = 12) (ht2 : AL E t) (x1 : Int32) (σ : HS) (h : f_X12_isHeard t x1 σ = fo) : G E F 0 [(0, .ref (E.2.2.1 t)), (1, .int x1)] [] σ := by
    refine g_aload_n hC dX12_isHeard_0 rfl 0 rfl ?_
    refine g_getI (k := 23) hC cr12 ui_12 ht1 ht2 (by decide) fl_X12_207 rfl rfl dX12_isHeard_1 ?_
    refine g_aload_n hC dX12_isHeard_4 rfl 0 rfl ?_
    refine g_getR (cj := 14) (k := 14) hC cr12 ui_12 ht1 ht2 (by decide) fl_X12_82 rfl rfl dX12_isHeard_5 h hf (fun a1 ea1 ka1 na1 h => ?_)
    refine g_iload_n hC dX12_isHeard_8 rfl 1 rfl ?_
    refine g_iald hC ka1 na1 dX12_isHeard_9 h hf (fun h => ?_)
    refine g_ishr hC dX12_isHeard_10 ?_
    refine g_iconst (v := 1) hC dX12_isHeard_11 (by decide) ?_
    refine g_iand hC dX12_isHeard_12 ?_
    refine g_iconst (v := 1) hC dX12_isHeard_13 (by decide) ?_
    refine g_icmp_ne (tgt := 21) hC dX12_isHeard_14 (by decide) h (fun c14 h => ?_) (fun c14 h => ?_)
    · refine g_iconst (v := 0) hC dX12_isHeard_21 (by decide) ?_
      exact g_sub [] rfl (k_X12_isHeard_22 hC hO hR hf 0 σ h)
    · refine g_iconst (v := 1) hC dX12_isHeard_17 (by decide) ?_
      refine g_goto (tgt := 22) hC dX12_isHeard_18 (by decide) ?_
      exact g_sub [] rfl (k_X12_isHeard_22 hC hO hR hf 1 σ h)
theorem xk_X12_isHeard (R : Room) (h1 : 0 + 1 ≤ R.frames) (h2 : 33 ≤ R.locals) : xw R yX12_isHeard w_X12_isHeard GT cX12_isHeard 2 (some .boolean) rm_X12_isHeard 1 := ⟨rfl, rfl, rfl, h1, h2, ⟨by decide, by decide⟩, by decide +kernel⟩
theorem c_X12_isHeard (E : ET) (hE : EO E) (t : Nat) (ht1 : kd t = 12) (ht2 : AL E t) (x1 : Int32) (σ : HS) (hn : f_X12_isHeard t x1 σ ≠ none) : CoI E yX12_isHeard w_X12_isHeard rm_X12_isHeard [.ref (E.2.2.1 t), .int x1] σ (f_X12_isHeard t x1 σ) := CoI.of (lv := [(0, .ref (E.2.2.1 t)), (1, .int x1)]) hE (plainFor_of_name (by decide)) rfl (Nat.le_of_ble_eq_true rfl) rfl (fun F hC hO hR => k_X12_isHeard_0 hC hO hR hn t ht1 ht2 x1 σ rfl)
def rm_X12_beginsRows : Room := { frames := 1, cells := 0, slots := 0, locals := 40 }
set_option maxHeartbeats 4000000 in
set_option maxRecDepth 100000 in
theorem k_X12_beginsRows_7 {E : ET} {F : FT} {fo : Option HS} (hC : Cx E F 2 cX12_beginsRows RX12 GT) (hO : Ro F rm_X12_beginsRows) (hR : RV E F fo) (hf : fo ≠ none) (t : Nat) (ht1 : kd t = 12) (ht2 : AL E t) : ∀ (n : Nat) (x1 : Int32) (σ : HS), f_X12_beginsRows_7 t n x1 σ = fo → G E F 7 [(0, .ref (E.2.2.1 t)), (1, .int x1)] [] σ := by
  intro n
  induction n with
  | zero =>
    intro x1 σ h
    exact absurd (h.symm.trans rfl) hf
  | succ n ih =>
    intro x1 σ h
    refine g_iload_n hC dX12_beginsRows_7 rfl 1 rfl ?_
    refine g_aload_n hC dX12_beginsRows_8 rfl 0 rfl ?_
    refine g_getI (k := 20) hC cr12 ui_12 ht1 ht2 (by decide) fl_X12_193 rfl rfl dX12_beginsRows_9 ?_
    refine g_icmp_ge (tgt := 49) hC dX12_beginsRows_12 (by decide) h (fun c12 h => ?_) (fun c12 h => ?_)
    · exact g_vret hC hR dX12_beginsRows_49 h
    · refine g_aload_n hC dX12_beginsRows_15 rfl 0 rfl ?_
      refine g_iload_n hC dX12_beginsRows_16 rfl 1 rfl ?_
      refine g_iconst (v := 0) hC dX12_beginsRows_17 (by decide) ?_
      refine g_lconst (v := 1) hC dX12_beginsRows_18 (by decide) ?_
      obtain ⟨q1, hq1, h⟩ := bd_of h hf
      refine g_cSJ (As := [.int x1, .int 0, .long 1]) hC hO (c_X12_one _ hC.2.2.2.2.2.2.1 x1 0 1 σ (nn_of hq1)) gc_X12_232 (xk_X12_one _ (Nat.le_of_ble_eq_true rfl) (Nat.le_of_ble_eq_true rfl)) rfl (Nat.le_of_ble_eq_true rfl) dX12_beginsRows_19 hq1 ?_
      refine g_iload_n hC dX12_beginsRows_22 rfl 1 rfl ?_
      refine g_iconst (v := 1) hC dX12_beginsRows_23 (by decide) ?_
      refine g_lconst (v := 1) hC dX12_beginsRows_24 (by decide) ?_
      obtain ⟨q2, hq2, h⟩ := bd_of h hf
      refine g_cSJ (As := [.int x1, .int 1, .long 1]) hC hO (c_X12_one _ hC.2.2.2.2.2.2.1 x1 1 1 q1.2 (nn_of hq2)) gc_X12_232 (xk_X12_one _ (Nat.le_of_ble_eq_true rfl) (Nat.le_of_ble_eq_true rfl)) rfl (Nat.le_of_ble_eq_true rfl) dX12_beginsRows_25 hq2 ?_
      refine g_iload_n hC dX12_beginsRows_28 rfl 1 rfl ?_
      refine g_iconst (v := 2) hC dX12_beginsRows_29 (by decide) ?_
      refine g_lconst (v := 1) hC dX12_beginsRows_30 (by decide) ?_
      obtain ⟨q3, hq3, h⟩ := bd_of h hf
      refine g_cSJ (As := [.int x1, .int 2, .long 1]) hC hO (c_X12_one _ hC.2.2.2.2.2.2.1 x1 2 1 q2.2 (nn_of hq3)) gc_X12_232 (xk_X12_one _ (Nat.le_of_ble_eq_true rfl) (Nat.le_of_ble_eq_true rfl)) rfl (Nat.le_of_ble_eq_true rfl) dX12_beginsRows_31 hq3 ?_
      refine g_iload_n hC dX12_beginsRows_34 rfl 1 rfl ?_
      refine g_iconst (v := 3) hC dX12_beginsRows_35 (by decide) ?_
      refine g_lconst (v := 1) hC dX12_beginsRows_36 (by decide) ?_
      obtain ⟨q4, hq4, h⟩ := bd_of h hf
      refine g_cSJ (As := [.int x1, .int 3, .long 1]) hC hO (c_X12_one _ hC.2.2.2.2.2.2.1 x1 3 1 q3.2 (nn_of hq4)) gc_X12_232 (xk_X12_one _ (Nat.le_of_ble_eq_true rfl) (Nat.le_of_ble_eq_true rfl)) rfl (Nat.le_of_ble_eq_true rfl) dX12_beginsRows_37 hq4 ?_
      obtain ⟨q5, hq5, h⟩ := bd_of h hf
      refine g_cVV (As := [.long q1.1, .long q2.1, .long q3.1, .long q4.1]) hC hO (c_X12_addsRow _ hC.2.2.2.2.2.2.1 t ht1 ht2 q1.1 q2.1 q3.1 q4.1 q4.2 (nn_of hq5)) gc_X12_236 (xk_X12_addsRow _ (Nat.le_of_ble_eq_true rfl) (Nat.le_of_ble_eq_true rfl)) cr12 ht1 ht2 rfl (Nat.le_of_ble_eq_true rfl) dX12_beginsRows_40 hq5 ?_
      refine g_iinc (v := x1 + 1) (lv' := [(1, .int (x1 + 1)), (0, .ref (E.2.2.1 t))]) hC dX12_beginsRows_43 1 rfl rfl (by decide) rfl ?_
      refine g_goto (tgt := 7) hC dX12_beginsRows_46 (by decide) ?_
      exact g_sub [1, 0] rfl (ih (x1 + 1) q5 h)
set_option maxHeartbeats 4000000 in
set_option maxRecDepth 100000 in
theorem k_X12_beginsRows_0 {E : ET} {F : FT} {fo : Option HS} (hC : Cx E F 2 cX12_beginsRows RX12 GT) (hO : Ro F rm_X12_beginsRows) (hR : RV E F fo) (hf : fo ≠ none) (t : Nat) (ht1 : kd t = 12) (ht2 : AL E t) (σ : HS) (h : f_X12_beginsRows t σ = fo) : G E F 0 [(0, .ref (E.2.2.1 t))] [] σ := by
    refine g_aload_n hC dX12_beginsRows_0 rfl 0 rfl ?_
    refine g_iconst (v := 0) hC dX12_beginsRows_1 (by decide) ?_
    refine g_putI (k := 26) hC cr12 ui_12 tyX12_ok nmX12 ht1 ht2 (by decide) fl_X12_229 rfl rfl rfl rfl dX12_beginsRows_2 ?_
    refine g_iconst (v := 0) hC dX12_beginsRows_5 (by decide) ?_
    refine g_istore_n (lv' := [(1, .int 0), (0, .ref (E.2.2.1 t))]) hC dX12_beginsRows_6 rfl (by decide) rfl ?_
    exact g_sub [1, 0] rfl (k_X12_beginsRows_7 hC hO hR hf t ht1 ht2 FU 0 (sI σ t 26 0) h)
theorem xk_X12_beginsRows (R : Room) (h1 : 1 + 1 ≤ R.frames) (h2 : 73 ≤ R.locals) : xw R yX12_beginsRows w_X12_beginsRows GT cX12_beginsRows 2 none rm_X12_beginsRows 0 := ⟨rfl, rfl, rfl, h1, h2, ⟨by decide, by decide⟩, by decide +kernel⟩
theorem c_X12_beginsRows (E : ET) (hE : EO E) (t : Nat) (ht1 : kd t = 12) (ht2 : AL E t) (σ : HS) (hn : f_X12_beginsRows t σ ≠ none) : CoV E yX12_beginsRows w_X12_beginsRows rm_X12_beginsRows [.ref (E.2.2.1 t)] σ (f_X12_beginsRows t σ) := CoV.of (lv := [(0, .ref (E.2.2.1 t))]) hE (plainFor_of_name (by decide)) rfl (Nat.le_of_ble_eq_true rfl) rfl (fun F hC hO hR => k_X12_beginsRows_0 hC hO hR hn t ht1 ht2 σ rfl)
def rm_X12_laysRows : Room := { frames := 5, cells := 0, slots := 0, locals := 173 }
theorem wc_X12_beginsRows : Cond.code yX12_beginsRows cX12_beginsRows 2 none ∈ GT := gtr_31 _ (List.mem_of_getElem? (i := 5) rfl)
theorem gc_X12_264 : GoodIn GT (wsV RX12 264 RX12 yX12_beginsRows w_X12_beginsRows) := gi_V (gtr_31 _ (List.mem_of_getElem? (i := 2) rfl)) (gtr_31 _ (List.mem_of_getElem? (i := 3) rfl)) (gtr_31 _ (List.mem_of_getElem? (i := 4) rfl)) (gtr_1 _ (List.mem_of_getElem? (i := 5) rfl)) wc_X12_beginsRows
theorem wc_X12_addsSaying : Cond.code yX12_addsSaying cX12_addsSaying 4 none ∈ GT := gtr_31 _ (List.mem_of_getElem? (i := 17) rfl)
theorem gc_X12_267 : GoodIn GT (wsV RX12 267 RX12 yX12_addsSaying w_X12_addsSaying) := gi_V (gtr_31 _ (List.mem_of_getElem? (i := 14) rfl)) (gtr_31 _ (List.mem_of_getElem? (i := 15) rfl)) (gtr_31 _ (List.mem_of_getElem? (i := 16) rfl)) (gtr_1 _ (List.mem_of_getElem? (i := 5) rfl)) wc_X12_addsSaying
set_option maxHeartbeats 4000000 in
set_option maxRecDepth 100000 in
theorem k_X12_laysRows_30 {E : ET} {F : FT} {fo : Option HS} (hC : Cx E F 3 cX12_laysRows RX12 GT) (hO : Ro F rm_X12_laysRows) (hR : RV E F fo) (hf : fo ≠ none) (t : Nat) (ht1 : kd t = 12) (ht2 : AL E t) (x1 : Int32) (x2 : Int32) (r6 : Int32 → HS → Option HS) (h6 : ∀ (x2 : Int32) (σ : HS), r6 x2 σ = fo → G E F 6 [(0, .ref (E.2.2.1 t)), (1, .int x1), (2, .int x2)] [] σ) (σ : HS) (h : f_X12_laysRows_30 r6 t x1 x2 σ = fo) : G E F 30 [(0, .ref (E.2.2.1 t)), (1, .int x1), (2, .int x2)] [] σ := by
    refine g_iinc (v := x2 + 1) (lv' := [(2, .int (x2 + 1)), (0, .ref (E.2.2.1 t)), (1, .int x1)]) hC dX12_laysRows_30 2 rfl rfl (by decide) rfl ?_
    refine g_goto (tgt := 6) hC dX12_laysRows_33 (by decide) ?_
    exact g_sub [1, 2, 0] rfl (h6 (x2 + 1) σ h)
set_option maxHeartbeats 4000000 in
set_option maxRecDepth 100000 in
theorem k_X12_laysRows_6 {E : ET} {F : FT} {fo : Option HS} (hC : Cx E F 3 cX12_laysRows RX12 GT) (hO : Ro F rm_X12_laysRows) (hR : RV E F fo) (hf : fo ≠ none) (t : Nat) (ht1 : kd t = 12) (ht2 : AL E t) (x1 : Int32) : ∀ (n : Nat) (x2 : Int32) (σ : HS), f_X12_laysRows_6 t x1 n x2 σ = fo → G E F 6 [(0, .ref (E.2.2.1 t)), (1, .int x1), (2, .int x2)] [] σ := by
  intro n
  induction n with
  | zero =>
    intro x2 σ h
    exact absurd (h.symm.trans rfl) hf
  | succ n ih =>
    intro x2 σ h
    refine g_iload_n hC dX12_laysRows_6 rfl 2 rfl ?_
    refine g_aload_n hC dX12_laysRows_7 rfl 0 rfl ?_
    refine g_getR (cj := 14) (k := 13) hC cr12 ui_12 ht1 ht2 (by decide) fl_X12_79 rfl rfl dX12_laysRows_8 h hf (fun a1 ea1 ka1 na1 h => ?_)
    refine g_iconst (v := 0) hC dX12_laysRows_11 (by decide) ?_
    refine g_iald hC ka1 na1 dX12_laysRows_12 h hf (fun h => ?_)
    refine g_icmp_ge (tgt := 36) hC dX12_laysRows_13 (by decide) h (fun c13 h => ?_) (fun c13 h => ?_)
    · exact g_vret hC hR dX12_laysRows_36 h
    · refine g_iload_n hC dX12_laysRows_16 rfl 1 rfl ?_
      refine g_iload_n hC dX12_laysRows_17 rfl 2 rfl ?_
      refine g_ishr hC dX12_laysRows_18 ?_
      refine g_iconst (v := 1) hC dX12_laysRows_19 (by decide) ?_
      refine g_iand hC dX12_laysRows_20 ?_
      refine g_iconst (v := 1) hC dX12_laysRows_21 (by decide) ?_
      refine g_icmp_ne (tgt := 30) hC dX12_laysRows_22 (by decide) h (fun c22 h => ?_) (fun c22 h => ?_)
      · exact g_sub [0, 1, 2] rfl (k_X12_laysRows_30 hC hO hR hf t ht1 ht2 x1 x2 (f_X12_laysRows_6 t x1 n) ih σ h)
      · refine g_aload_n hC dX12_laysRows_25 rfl 0 rfl ?_
        refine g_iload_n hC dX12_laysRows_26 rfl 2 rfl ?_
        obtain ⟨q2, hq2, h⟩ := bd_of h hf
        refine g_cVV (As := [.int x2]) hC hO (c_X12_addsSaying _ hC.2.2.2.2.2.2.1 t ht1 ht2 x2 σ (nn_of hq2)) gc_X12_267 (xk_X12_addsSaying _ (Nat.le_of_ble_eq_true rfl) (Nat.le_of_ble_eq_true rfl)) cr12 ht1 ht2 rfl (Nat.le_of_ble_eq_true rfl) dX12_laysRows_27 hq2 ?_
        exact g_sub [0, 1, 2] rfl (k_X12_laysRows_30 hC hO hR hf t ht1 ht2 x1 x2 (f_X12_laysRows_6 t x1 n) ih q2 h)
set_option maxHeartbeats 4000000 in
set_option maxRecDepth 100000 in
theorem k_X12_laysRows_0 {E : ET} {F : FT} {fo : Option HS} (hC : Cx E F 3 cX12_laysRows RX12 GT) (hO : Ro F rm_X12_laysRows) (hR : RV E F fo) (hf : fo ≠ none) (t : Nat) (ht1 : kd t = 12) (ht2 : AL E t) (x1 : Int32) (σ : HS) (h : f_X12_laysRows t x1 σ = fo) : G E F 0 [(0, .ref (E.2.2.1 t)), (1, .int x1)] [] σ := by
    refine g_aload_n hC dX12_laysRows_0 rfl 0 rfl ?_
    obtain ⟨q1, hq1, h⟩ := bd_of h hf
    refine g_cVV (As := []) hC hO (c_X12_beginsRows _ hC.2.2.2.2.2.2.1 t ht1 ht2 σ (nn_of hq1)) gc_X12_264 (xk_X12_beginsRows _ (Nat.le_of_ble_eq_true rfl) (Nat.le_of_ble_eq_true rfl)) cr12 ht1 ht2 rfl (Nat.le_of_ble_eq_true rfl) dX12_laysRows_1 hq1 ?_
    refine g_iconst (v := 0) hC dX12_laysRows_4 (by decide) ?_
    refine g_istore_n (lv' := [(2, .int 0), (0, .ref (E.2.2.1 t)), (1, .int x1)]) hC dX12_laysRows_5 rfl (by decide) rfl ?_
    exact g_sub [1, 2, 0] rfl (k_X12_laysRows_6 hC hO hR hf t ht1 ht2 x1 FU 0 q1 h)
theorem xk_X12_laysRows (R : Room) (h1 : 5 + 1 ≤ R.frames) (h2 : 207 ≤ R.locals) : xw R yX12_laysRows w_X12_laysRows GT cX12_laysRows 3 none rm_X12_laysRows 1 := ⟨rfl, rfl, rfl, h1, h2, ⟨by decide, by decide⟩, by decide +kernel⟩
theorem c_X12_laysRows (E : ET) (hE : EO E) (t : Nat) (ht1 : kd t = 12) (ht2 : AL E t) (x1 : Int32) (σ : HS) (hn : f_X12_laysRows t x1 σ ≠ none) : CoV E yX12_laysRows w_X12_laysRows rm_X12_laysRows [.ref (E.2.2.1 t), .int x1] σ (f_X12_laysRows t x1 σ) := CoV.of (lv := [(0, .ref (E.2.2.1 t)), (1, .int x1)]) hE (plainFor_of_name (by decide)) rfl (Nat.le_of_ble_eq_true rfl) rfl (fun F hC hO hR => k_X12_laysRows_0 hC hO hR hn t ht1 ht2 x1 σ rfl)
def rm_X12_heard : Room := { frames := 1, cells := 0, slots := 0, locals := 33 }
theorem wc_X12_isHeard : Cond.code yX12_isHeard cX12_isHeard 2 (some .boolean) ∈ GT := gtr_30 _ (List.mem_of_getElem? (i := 21) rfl)
theorem gc_X12_270 : GoodIn GT (wsV RX12 270 RX12 yX12_isHeard w_X12_isHeard) := gi_V (gtr_30 _ (List.mem_of_getElem? (i := 18) rfl)) (gtr_30 _ (List.mem_of_getElem? (i := 19) rfl)) (gtr_30 _ (List.mem_of_getElem? (i := 20) rfl)) (gtr_1 _ (List.mem_of_getElem? (i := 5) rfl)) wc_X12_isHeard
set_option maxHeartbeats 4000000 in
set_option maxRecDepth 100000 in
theorem k_X12_heard_30 {E : ET} {F : FT} {fo : Option (Int32 × HS)} (hC : Cx E F 3 cX12_heard RX12 GT) (hO : Ro F rm_X12_heard) (hR : RI E F .int fo) (hf : fo ≠ none) (t : Nat) (ht1 : kd t = 12) (ht2 : AL E t) (x2 : Int32) (s0 : Int32) (s1 : Int32) (r4 : Int32 → Int32 → HS → Option (Int32 × HS)) (h4 : ∀ (x1 : Int32) (x2 : Int32) (σ : HS), r4 x1 x2 σ = fo → G E F 4 [(0, .ref (E.2.2.1 t)), (1, .int x1), (2, .int x2)] [] σ) (σ : HS) (h : f_X12_heard_30 r4 t x2 s0 s1 σ = fo) : G E F 30 [(0, .ref (E.2.2.1 t)), (2, .int x2)] [.int s0, .int s1] σ := by
    refine g_ior hC dX12_heard_30 ?_
    refine g_istore_n (lv' := [(1, .int (s1 ||| s0)), (0, .ref (E.2.2.1 t)), (2, .int x2)]) hC dX12_heard_31 rfl (by decide) rfl ?_
    refine g_iinc (v := x2 + 1) (lv' := [(2, .int (x2 + 1)), (1, .int (s1 ||| s0)), (0, .ref (E.2.2.1 t))]) hC dX12_heard_32 2 rfl rfl (by decide) rfl ?_
    refine g_goto (tgt := 4) hC dX12_heard_35 (by decide) ?_
    exact g_sub [2, 1, 0] rfl (h4 (s1 ||| s0) (x2 + 1) σ h)
set_option maxHeartbeats 4000000 in
set_option maxRecDepth 100000 in
theorem k_X12_heard_4 {E : ET} {F : FT} {fo : Option (Int32 × HS)} (hC : Cx E F 3 cX12_heard RX12 GT) (hO : Ro F rm_X12_heard) (hR : RI E F .int fo) (hf : fo ≠ none) (t : Nat) (ht1 : kd t = 12) (ht2 : AL E t) : ∀ (n : Nat) (x1 : Int32) (x2 : Int32) (σ : HS), f_X12_heard_4 t n x1 x2 σ = fo → G E F 4 [(0, .ref (E.2.2.1 t)), (1, .int x1), (2, .int x2)] [] σ := by
  intro n
  induction n with
  | zero =>
    intro x1 x2 σ h
    exact absurd (h.symm.trans rfl) hf
  | succ n ih =>
    intro x1 x2 σ h
    refine g_iload_n hC dX12_heard_4 rfl 2 rfl ?_
    refine g_aload_n hC dX12_heard_5 rfl 0 rfl ?_
    refine g_getR (cj := 14) (k := 13) hC cr12 ui_12 ht1 ht2 (by decide) fl_X12_79 rfl rfl dX12_heard_6 h hf (fun a1 ea1 ka1 na1 h => ?_)
    refine g_iconst (v := 0) hC dX12_heard_9 (by decide) ?_
    refine g_iald hC ka1 na1 dX12_heard_10 h hf (fun h => ?_)
    refine g_icmp_ge (tgt := 38) hC dX12_heard_11 (by decide) h (fun c11 h => ?_) (fun c11 h => ?_)
    · refine g_iload_n hC dX12_heard_38 rfl 1 rfl ?_
      exact g_iret hC hR dX12_heard_39 rfl h
    · refine g_iload_n hC dX12_heard_14 rfl 1 rfl ?_
      refine g_aload_n hC dX12_heard_15 rfl 0 rfl ?_
      refine g_iload_n hC dX12_heard_16 rfl 2 rfl ?_
      obtain ⟨q2, hq2, h⟩ := bd_of h hf
      refine g_cVI (As := [.int x2]) hC hO (c_X12_isHeard _ hC.2.2.2.2.2.2.1 t ht1 ht2 x2 σ (nn_of hq2)) gc_X12_270 (xk_X12_isHeard _ (Nat.le_of_ble_eq_true rfl) (Nat.le_of_ble_eq_true rfl)) cr12 ht1 ht2 rfl (Nat.le_of_ble_eq_true rfl) dX12_heard_17 hq2 ?_
      refine g_if_eq (tgt := 29) hC dX12_heard_20 (by decide) h (fun c20 h => ?_) (fun c20 h => ?_)
      · refine g_iconst (v := 0) hC dX12_heard_29 (by decide) ?_
        exact g_sub [0, 2] rfl (k_X12_heard_30 hC hO hR hf t ht1 ht2 x2 0 x1 (f_X12_heard_4 t n) ih q2.2 h)
      · refine g_iconst (v := 1) hC dX12_heard_23 (by decide) ?_
        refine g_iload_n hC dX12_heard_24 rfl 2 rfl ?_
        refine g_ishl hC dX12_heard_25 ?_
        refine g_goto (tgt := 30) hC dX12_heard_26 (by decide) ?_
        exact g_sub [0, 2] rfl (k_X12_heard_30 hC hO hR hf t ht1 ht2 x2 ((1 : Int32) <<< (x2 &&& 31)) x1 (f_X12_heard_4 t n) ih q2.2 h)
set_option maxHeartbeats 4000000 in
set_option maxRecDepth 100000 in
theorem k_X12_heard_0 {E : ET} {F : FT} {fo : Option (Int32 × HS)} (hC : Cx E F 3 cX12_heard RX12 GT) (hO : Ro F rm_X12_heard) (hR : RI E F .int fo) (hf : fo ≠ none) (t : Nat) (ht1 : kd t = 12) (ht2 : AL E t) (σ : HS) (h : f_X12_heard t σ = fo) : G E F 0 [(0, .ref (E.2.2.1 t))] [] σ := by
    refine g_iconst (v := 0) hC dX12_heard_0 (by decide) ?_
    refine g_istore_n (lv' := [(1, .int 0), (0, .ref (E.2.2.1 t))]) hC dX12_heard_1 rfl (by decide) rfl ?_
    refine g_iconst (v := 0) hC dX12_heard_2 (by decide) ?_
    refine g_istore_n (lv' := [(2, .int 0), (1, .int 0), (0, .ref (E.2.2.1 t))]) hC dX12_heard_3 rfl (by decide) rfl ?_
    exact g_sub [2, 1, 0] rfl (k_X12_heard_4 hC hO hR hf t ht1 ht2 FU 0 0 σ h)
theorem xk_X12_heard (R : Room) (h1 : 1 + 1 ≤ R.frames) (h2 : 67 ≤ R.locals) : xw R yX12_heard w_X12_heard GT cX12_heard 3 (some .int) rm_X12_heard 0 := ⟨rfl, rfl, rfl, h1, h2, ⟨by decide, by decide⟩, by decide +kernel⟩
theorem c_X12_heard (E : ET) (hE : EO E) (t : Nat) (ht1 : kd t = 12) (ht2 : AL E t) (σ : HS) (hn : f_X12_heard t σ ≠ none) : CoI E yX12_heard w_X12_heard rm_X12_heard [.ref (E.2.2.1 t)] σ (f_X12_heard t σ) := CoI.of (lv := [(0, .ref (E.2.2.1 t))]) hE (plainFor_of_name (by decide)) rfl (Nat.le_of_ble_eq_true rfl) rfl (fun F hC hO hR => k_X12_heard_0 hC hO hR hn t ht1 ht2 σ rfl)
def rm_X12_common : Room := { frames := 0, cells := 0, slots := 0, locals := 0 }
set_option maxHeartbeats 4000000 in
set_option maxRecDepth 100000 in
theorem k_X12_common_28 {E : ET} {F : FT} {fo : Option (Int64 × HS)} (hC : Cx E F 10 cX12_common RX12 GT) (hO : Ro F rm_X12_common) (hR : RJ E F fo) (hf : fo ≠ none) : ∀ (n : Nat) (x4 : Int64) (x6 : Int64) (σ : HS), f_X12_common_28 n x4 x6 σ = fo → G E F 28 [(4, .long x4), (6, .long x6)] [] σ := by
  intro n
  induction n with
  | zero =>
    intro x4 x6 σ h
    exact absurd (h.symm.trans rfl) hf
  | succ n ih =>
    intro x4 x6 σ h
    refine g_lload hC dX12_common_28 1 rfl ?_
    refine g_lconst (v := 0) hC dX12_common_30 (by decide) ?_
    refine g_lc_eq (tgt := 53) hC dX12_common_31 dX12_common_32 (by decide) h (fun c31 h => ?_) (fun c31 h => ?_)
    · refine g_lload hC dX12_common_53 0 rfl ?_
      exact g_lret hC hR dX12_common_55 h
    · refine g_lload hC dX12_common_35 0 rfl ?_
      refine g_lload hC dX12_common_37 1 rfl ?_
      obtain ⟨hz39, h⟩ := nz_of h hf
      refine g_lrem hC dX12_common_39 hz39 ?_
      refine g_lstore (lv' := [(8, .long (x4 - x4 / x6 * x6)), (4, .long x4), (6, .long x6)]) hC dX12_common_40 (by decide) rfl ?_
      refine g_lload hC dX12_common_42 2 rfl ?_
      refine g_lstore (lv' := [(4, .long x6), (8, .long (x4 - x4 / x6 * x6)), (6, .long x6)]) hC dX12_common_44 (by decide) rfl ?_
      refine g_lload hC dX12_common_46 1 rfl ?_
      refine g_lstore (lv' := [(6, .long (x4 - x4 / x6 * x6)), (4, .long x6), (8, .long (x4 - x4 / x6 * x6))]) hC dX12_common_48 (by decide) rfl ?_
      refine g_goto (tgt := 28) hC dX12_common_50 (by decide) ?_
      exact g_sub [1, 0] rfl (ih x6 (x4 - x4 / x6 * x6) σ h)
set_option maxHeartbeats 4000000 in
set_option maxRecDepth 100000 in
theorem k_X12_common_26 {E : ET} {F : FT} {fo : Option (Int64 × HS)} (hC : Cx E F 10 cX12_common RX12 GT) (hO : Ro F rm_X12_common) (hR : RJ E F fo) (hf : fo ≠ none) (x4 : Int64) (s0 : Int64) (σ : HS) (h : f_X12_common_26 x4 s0 σ = fo) : G E F 26 [(4, .long x4)] [.long s0] σ := by
    refine g_lstore (lv' := [(6, .long s0), (4, .long x4)]) hC dX12_common_26 (by decide) rfl ?_
    exact g_sub [1, 0] rfl (k_X12_common_28 hC hO hR hf FU x4 s0 σ h)
set_option maxHeartbeats 4000000 in
set_option maxRecDepth 100000 in
theorem k_X12_common_12 {E : ET} {F : FT} {fo : Option (Int64 × HS)} (hC : Cx E F 10 cX12_common RX12 GT) (hO : Ro F rm_X12_common) (hR : RJ E F fo) (hf : fo ≠ none) (x2 : Int64) (s0 : Int64) (σ : HS) (h : f_X12_common_12 x2 s0 σ = fo) : G E F 12 [(2, .long x2)] [.long s0] σ := by
    refine g_lstore (lv' := [(4, .long s0), (2, .long x2)]) hC dX12_common_12 (by decide) rfl ?_
    refine g_lload_n hC dX12_common_14 rfl 1 rfl ?_
    refine g_lconst (v := 0) hC dX12_common_15 (by decide) ?_
    refine g_lc_ge (tgt := 25) hC dX12_common_16 dX12_common_17 (by decide) h (fun c16 h => ?_) (fun c16 h => ?_)
    · refine g_lload_n hC dX12_common_25 rfl 1 rfl ?_
      exact g_sub [0] rfl (k_X12_common_26 hC hO hR hf s0 x2 σ h)
    · refine g_lload_n hC dX12_common_20 rfl 1 rfl ?_
      refine g_lneg hC dX12_common_21 ?_
      refine g_goto (tgt := 26) hC dX12_common_22 (by decide) ?_
      exact g_sub [0] rfl (k_X12_common_26 hC hO hR hf s0 (-x2) σ h)
set_option maxHeartbeats 4000000 in
set_option maxRecDepth 100000 in
theorem k_X12_common_0 {E : ET} {F : FT} {fo : Option (Int64 × HS)} (hC : Cx E F 10 cX12_common RX12 GT) (hO : Ro F rm_X12_common) (hR : RJ E F fo) (hf : fo ≠ none) (x0 : Int64) (x2 : Int64) (σ : HS) (h : f_X12_common x0 x2 σ = fo) : G E F 0 [(0, .long x0), (2, .long x2)] [] σ := by
    refine g_lload_n hC dX12_common_0 rfl 0 rfl ?_
    refine g_lconst (v := 0) hC dX12_common_1 (by decide) ?_
    refine g_lc_ge (tgt := 11) hC dX12_common_2 dX12_common_3 (by decide) h (fun c2 h => ?_) (fun c2 h => ?_)
    · refine g_lload_n hC dX12_common_11 rfl 0 rfl ?_
      exact g_sub [1] rfl (k_X12_common_12 hC hO hR hf x2 x0 σ h)
    · refine g_lload_n hC dX12_common_6 rfl 0 rfl ?_
      refine g_lneg hC dX12_common_7 ?_
      refine g_goto (tgt := 12) hC dX12_common_8 (by decide) ?_
      exact g_sub [1] rfl (k_X12_common_12 hC hO hR hf x2 (-x0) σ h)
theorem xk_X12_common (R : Room) (h1 : 0 + 1 ≤ R.frames) (h2 : 41 ≤ R.locals) : xw R yX12_common w_X12_common GT cX12_common 10 (some .long) rm_X12_common 2 := ⟨rfl, rfl, rfl, h1, h2, ⟨by decide, by decide⟩, by decide +kernel⟩
theorem c_X12_common (E : ET) (hE : EO E) (x0 : Int64) (x2 : Int64) (σ : HS) (hn : f_X12_common x0 x2 σ ≠ none) : CoJ E yX12_common w_X12_common rm_X12_common [.long x0, .long x2] σ (f_X12_common x0 x2 σ) := CoJ.of (lv := [(0, .long x0), (2, .long x2)]) hE (plainFor_of_name (by decide)) rfl (Nat.le_of_ble_eq_true rfl) rfl (fun F hC hO hR => k_X12_common_0 hC hO hR hn x0 x2 σ rfl)
def rm_X12_times : Room := { frames := 0, cells := 0, slots := 0, locals := 0 }
theorem fl_X12_118 : Cond.fieldLink RX12 118 "EveryMeasureModel" (TX12 30).2.1 (TX12 30).2.2.1 ∈ GT := gtr_10 _ (List.mem_of_getElem? (i := 6) rfl)
set_option maxHeartbeats 4000000 in
set_option maxRecDepth 100000 in
theorem k_X12_times_6 {E : ET} {F : FT} {fo : Option (Int64 × HS)} (hC : Cx E F 7 cX12_times RX12 GT) (hO : Ro F rm_X12_times) (hR : RJ E F fo) (hf : fo ≠ none) (t : Nat) (ht1 : kd t = 12) (ht2 : AL E t) (x1 : Int32) (x2 : Int32) (x3 : Int32) : ∀ (n : Nat) (x4 : Int64) (x6 : Int32) (σ : HS), f_X12_times_6 t x1 x2 x3 n x4 x6 σ = fo → G E F 6 [(0, .ref (E.2.2.1 t)), (1, .int x1), (2, .int x2), (3, .int x3), (4, .long x4), (6, .int x6)] [] σ := by
  intro n
  induction n with
  | zero =>
    intro x4 x6 σ h
    exact absurd (h.symm.trans rfl) hf
  | succ n ih =>
    intro x4 x6 σ h
    refine g_iload hC dX12_times_6 5 rfl ?_
    refine g_aload_n hC dX12_times_8 rfl 0 rfl ?_
    refine g_getI (k := 20) hC cr12 ui_12 ht1 ht2 (by decide) fl_X12_193 rfl rfl dX12_times_9 ?_
    refine g_icmp_ge (tgt := 54) hC dX12_times_12 (by decide) h (fun c12 h => ?_) (fun c12 h => ?_)
    · refine g_lload hC dX12_times_54 4 rfl ?_
      exact g_lret hC hR dX12_times_56 h
    · refine g_lload hC dX12_times_15 4 rfl ?_
      refine g_aload_n hC dX12_times_17 rfl 0 rfl ?_
      refine g_getR (cj := 15) (k := 27) hC cr12 ui_12 ht1 ht2 (by decide) fl_X12_109 rfl rfl dX12_times_18 h hf (fun a1 ea1 ka1 na1 h => ?_)
      refine g_iconst (v := 4) hC dX12_times_21 (by decide) ?_
      refine g_iload_n hC dX12_times_22 rfl 1 rfl ?_
      refine g_imul hC dX12_times_23 ?_
      refine g_iload hC dX12_times_24 5 rfl ?_
      refine g_iadd hC dX12_times_26 ?_
      refine g_lald hC ka1 na1 dX12_times_27 h hf (fun h => ?_)
      refine g_aload_n hC dX12_times_28 rfl 0 rfl ?_
      refine g_getR (cj := 15) (k := 30) hC cr12 ui_12 ht1 ht2 (by decide) fl_X12_118 rfl rfl dX12_times_29 h hf (fun a2 ea2 ka2 na2 h => ?_)
      refine g_iconst (v := 4) hC dX12_times_32 (by decide) ?_
      refine g_bipush (v := 72) hC dX12_times_33 (by decide) ?_
      refine g_iload_n hC dX12_times_35 rfl 2 rfl ?_
      refine g_imul hC dX12_times_36 ?_
      refine g_iload_n hC dX12_times_37 rfl 3 rfl ?_
      refine g_iadd hC dX12_times_38 ?_
      refine g_imul hC dX12_times_39 ?_
      refine g_iload hC dX12_times_40 5 rfl ?_
      refine g_iadd hC dX12_times_42 ?_
      refine g_lald hC ka2 na2 dX12_times_43 h hf (fun h => ?_)
      refine g_lmul hC dX12_times_44 ?_
      refine g_ladd hC dX12_times_45 ?_
      refine g_lstore (lv' := [(4, .long (x4 + ((σ.2.1 a1 (((4 : Int32) * x1) + x6).toNatClampNeg) * (σ.2.1 a2 (((4 : Int32) * (((72 : Int32) * x2) + x3)) + x6).toNatClampNeg)))), (0, .ref (E.2.2.1 t)), (1, .int x1), (2, .int x2), (3, .int x3), (6, .int x6)]) hC dX12_times_46 (by decide) rfl ?_
      refine g_iinc (v := x6 + 1) (lv' := [(6, .int (x6 + 1)), (4, .long (x4 + ((σ.2.1 a1 (((4 : Int32) * x1) + x6).toNatClampNeg) * (σ.2.1 a2 (((4 : Int32) * (((72 : Int32) * x2) + x3)) + x6).toNatClampNeg)))), (0, .ref (E.2.2.1 t)), (1, .int x1), (2, .int x2), (3, .int x3)]) hC dX12_times_48 5 rfl rfl (by decide) rfl ?_
      refine g_goto (tgt := 6) hC dX12_times_51 (by decide) ?_
      exact g_sub [2, 3, 4, 5, 1, 0] rfl (ih (x4 + ((σ.2.1 a1 (((4 : Int32) * x1) + x6).toNatClampNeg) * (σ.2.1 a2 (((4 : Int32) * (((72 : Int32) * x2) + x3)) + x6).toNatClampNeg))) (x6 + 1) σ h)
set_option maxHeartbeats 4000000 in
set_option maxRecDepth 100000 in
theorem k_X12_times_0 {E : ET} {F : FT} {fo : Option (Int64 × HS)} (hC : Cx E F 7 cX12_times RX12 GT) (hO : Ro F rm_X12_times) (hR : RJ E F fo) (hf : fo ≠ none) (t : Nat) (ht1 : kd t = 12) (ht2 : AL E t) (x1 : Int32) (x2 : Int32) (x3 : Int32) (σ : HS) (h : f_X12_times t x1 x2 x3 σ = fo) : G E F 0 [(0, .ref (E.2.2.1 t)), (1, .int x1), (2, .int x2), (3, .int x3)] [] σ := by
    refine g_lconst (v := 0) hC dX12_times_0 (by decide) ?_
    refine g_lstore (lv' := [(4, .long 0), (0, .ref (E.2.2.1 t)), (1, .int x1), (2, .int x2), (3, .int x3)]) hC dX12_times_1 (by decide) rfl ?_
    refine g_iconst (v := 0) hC dX12_times_3 (by decide) ?_
    refine g_istore (lv' := [(6, .int 0), (4, .long 0), (0, .ref (E.2.2.1 t)), (1, .int x1), (2, .int x2), (3, .int x3)]) hC dX12_times_4 (by decide) rfl ?_
    exact g_sub [2, 3, 4, 5, 1, 0] rfl (k_X12_times_6 hC hO hR hf t ht1 ht2 x1 x2 x3 FU 0 0 σ h)
theorem xk_X12_times (R : Room) (h1 : 0 + 1 ≤ R.frames) (h2 : 38 ≤ R.locals) : xw R yX12_times w_X12_times GT cX12_times 7 (some .long) rm_X12_times 3 := ⟨rfl, rfl, rfl, h1, h2, ⟨by decide, by decide⟩, by decide +kernel⟩
theorem c_X12_times (E : ET) (hE : EO E) (t : Nat) (ht1 : kd t = 12) (ht2 : AL E t) (x1 : Int32) (x2 : Int32) (x3 : Int32) (σ : HS) (hn : f_X12_times t x1 x2 x3 σ ≠ none) : CoJ E yX12_times w_X12_times rm_X12_times [.ref (E.2.2.1 t), .int x1, .int x2, .int x3] σ (f_X12_times t x1 x2 x3 σ) := CoJ.of (lv := [(0, .ref (E.2.2.1 t)), (1, .int x1), (2, .int x2), (3, .int x3)]) hE (plainFor_of_name (by decide)) rfl (Nat.le_of_ble_eq_true rfl) rfl (fun F hC hO hR => k_X12_times_0 hC hO hR hn t ht1 ht2 x1 x2 x3 σ rfl)
def rm_X12_two : Room := { frames := 0, cells := 0, slots := 0, locals := 0 }
set_option maxHeartbeats 4000000 in
set_option maxRecDepth 100000 in
theorem k_X12_two_0 {E : ET} {F : FT} {fo : Option (Int64 × HS)} (hC : Cx E F 8 cX12_two RX12 GT) (hO : Ro F rm_X12_two) (hR : RJ E F fo) (hf : fo ≠ none) (x0 : Int64) (x2 : Int64) (x4 : Int64) (x6 : Int64) (σ : HS) (h : f_X12_two x0 x2 x4 x6 σ = fo) : G E F 0 [(0, .long x0), (2, .long x2), (4, .long x4), (6, .long x6)] [] σ := by
    refine g_lload_n hC dX12_two_0 rfl 0 rfl ?_
    refine g_lload hC dX12_two_1 3 rfl ?_
    refine g_lmul hC dX12_two_3 ?_
    refine g_lload_n hC dX12_two_4 rfl 1 rfl ?_
    refine g_lload hC dX12_two_5 2 rfl ?_
    refine g_lmul hC dX12_two_7 ?_
    refine g_lsub hC dX12_two_8 ?_
    exact g_lret hC hR dX12_two_9 h
theorem xk_X12_two (R : Room) (h1 : 0 + 1 ≤ R.frames) (h2 : 39 ≤ R.locals) : xw R yX12_two w_X12_two GT cX12_two 8 (some .long) rm_X12_two 4 := ⟨rfl, rfl, rfl, h1, h2, ⟨by decide, by decide⟩, by decide +kernel⟩
theorem c_X12_two (E : ET) (hE : EO E) (x0 : Int64) (x2 : Int64) (x4 : Int64) (x6 : Int64) (σ : HS) (hn : f_X12_two x0 x2 x4 x6 σ ≠ none) : CoJ E yX12_two w_X12_two rm_X12_two [.long x0, .long x2, .long x4, .long x6] σ (f_X12_two x0 x2 x4 x6 σ) := CoJ.of (lv := [(0, .long x0), (2, .long x2), (4, .long x4), (6, .long x6)]) hE (plainFor_of_name (by decide)) rfl (Nat.le_of_ble_eq_true rfl) rfl (fun F hC hO hR => k_X12_two_0 hC hO hR hn x0 x2 x4 x6 σ rfl)
def rm_X12_three : Room := { frames := 1, cells := 0, slots := 0, locals := 39 }
theorem wc_X12_two : Cond.code yX12_two cX12_two 8 (some .long) ∈ GT := gtr_33 _ (List.mem_of_getElem? (i := 22) rfl)
theorem gc_X12_273 : GoodIn GT (va_wsS RX12 273 yX12_two w_X12_two) := gi_S (gtr_33 _ (List.mem_of_getElem? (i := 20) rfl)) (gtr_33 _ (List.mem_of_getElem? (i := 21) rfl)) (gtr_1 _ (List.mem_of_getElem? (i := 5) rfl)) wc_X12_two
set_option maxHeartbeats 4000000 in
set_option maxRecDepth 100000 in
theorem k_X12_three_0 {E : ET} {F : FT} {fo : Option (Int64 × HS)} (hC : Cx E F 13 cX12_three RX12 GT) (hO : Ro F rm_X12_three) (hR : RJ E F fo) (hf : fo ≠ none) (t : Nat) (ht1 : kd t = 12) (ht2 : AL E t) (x1 : Int32) (x2 : Int32) (x3 : Int32) (x4 : Int32) (x5 : Int32) (x6 : Int32) (σ : HS) (h : f_X12_three t x1 x2 x3 x4 x5 x6 σ = fo) : G E F 0 [(0, .ref (E.2.2.1 t)), (1, .int x1), (2, .int x2), (3, .int x3), (4, .int x4), (5, .int x5), (6, .int x6)] [] σ := by
    refine g_aload_n hC dX12_three_0 rfl 0 rfl ?_
    refine g_getR (cj := 15) (k := 27) hC cr12 ui_12 ht1 ht2 (by decide) fl_X12_109 rfl rfl dX12_three_1 h hf (fun a1 ea1 ka1 na1 h => ?_)
    refine g_iconst (v := 4) hC dX12_three_4 (by decide) ?_
    refine g_iload_n hC dX12_three_5 rfl 1 rfl ?_
    refine g_imul hC dX12_three_6 ?_
    refine g_iload hC dX12_three_7 4 rfl ?_
    refine g_iadd hC dX12_three_9 ?_
    refine g_lald hC ka1 na1 dX12_three_10 h hf (fun h => ?_)
    refine g_aload_n hC dX12_three_11 rfl 0 rfl ?_
    refine g_getR (cj := 15) (k := 27) hC cr12 ui_12 ht1 ht2 (by decide) fl_X12_109 rfl rfl dX12_three_12 h hf (fun a2 ea2 ka2 na2 h => ?_)
    refine g_iconst (v := 4) hC dX12_three_15 (by decide) ?_
    refine g_iload_n hC dX12_three_16 rfl 2 rfl ?_
    refine g_imul hC dX12_three_17 ?_
    refine g_iload hC dX12_three_18 5 rfl ?_
    refine g_iadd hC dX12_three_20 ?_
    refine g_lald hC ka2 na2 dX12_three_21 h hf (fun h => ?_)
    refine g_aload_n hC dX12_three_22 rfl 0 rfl ?_
    refine g_getR (cj := 15) (k := 27) hC cr12 ui_12 ht1 ht2 (by decide) fl_X12_109 rfl rfl dX12_three_23 h hf (fun a3 ea3 ka3 na3 h => ?_)
    refine g_iconst (v := 4) hC dX12_three_26 (by decide) ?_
    refine g_iload_n hC dX12_three_27 rfl 2 rfl ?_
    refine g_imul hC dX12_three_28 ?_
    refine g_iload hC dX12_three_29 6 rfl ?_
    refine g_iadd hC dX12_three_31 ?_
    refine g_lald hC ka3 na3 dX12_three_32 h hf (fun h => ?_)
    refine g_aload_n hC dX12_three_33 rfl 0 rfl ?_
    refine g_getR (cj := 15) (k := 27) hC cr12 ui_12 ht1 ht2 (by decide) fl_X12_109 rfl rfl dX12_three_34 h hf (fun a4 ea4 ka4 na4 h => ?_)
    refine g_iconst (v := 4) hC dX12_three_37 (by decide) ?_
    refine g_iload_n hC dX12_three_38 rfl 3 rfl ?_
    refine g_imul hC dX12_three_39 ?_
    refine g_iload hC dX12_three_40 5 rfl ?_
    refine g_iadd hC dX12_three_42 ?_
    refine g_lald hC ka4 na4 dX12_three_43 h hf (fun h => ?_)
    refine g_aload_n hC dX12_three_44 rfl 0 rfl ?_
    refine g_getR (cj := 15) (k := 27) hC cr12 ui_12 ht1 ht2 (by decide) fl_X12_109 rfl rfl dX12_three_45 h hf (fun a5 ea5 ka5 na5 h => ?_)
    refine g_iconst (v := 4) hC dX12_three_48 (by decide) ?_
    refine g_iload_n hC dX12_three_49 rfl 3 rfl ?_
    refine g_imul hC dX12_three_50 ?_
    refine g_iload hC dX12_three_51 6 rfl ?_
    refine g_iadd hC dX12_three_53 ?_
    refine g_lald hC ka5 na5 dX12_three_54 h hf (fun h => ?_)
    obtain ⟨q6, hq6, h⟩ := bd_of h hf
    refine g_cSJ (As := [.long (σ.2.1 a2 (((4 : Int32) * x2) + x5).toNatClampNeg), .long (σ.2.1 a3 (((4 : Int32) * x2) + x6).toNatClampNeg), .long (σ.2.1 a4 (((4 : Int32) * x3) + x5).toNatClampNeg), .long (σ.2.1 a5 (((4 : Int32) * x3) + x6).toNatClampNeg)]) hC hO (c_X12_two _ hC.2.2.2.2.2.2.1 (σ.2.1 a2 (((4 : Int32) * x2) + x5).toNatClampNeg) (σ.2.1 a3 (((4 : Int32) * x2) + x6).toNatClampNeg) (σ.2.1 a4 (((4 : Int32) * x3) + x5).toNatClampNeg) (σ.2.1 a5 (((4 : Int32) * x3) + x6).toNatClampNeg) σ (nn_of hq6)) gc_X12_273 (xk_X12_two _ (Nat.le_of_ble_eq_true rfl) (Nat.le_of_ble_eq_true rfl)) rfl (Nat.le_of_ble_eq_true rfl) dX12_three_55 hq6 ?_
    refine g_lmul hC dX12_three_58 ?_
    refine g_lstore (lv' := [(7, .long ((σ.2.1 a1 (((4 : Int32) * x1) + x4).toNatClampNeg) * q6.1)), (0, .ref (E.2.2.1 t)), (1, .int x1), (2, .int x2), (3, .int x3), (4, .int x4), (5, .int x5), (6, .int x6)]) hC dX12_three_59 (by decide) rfl ?_
    refine g_aload_n hC dX12_three_61 rfl 1 rfl ?_
    refine g_getR (cj := 15) (k := 27) hC cr12 ui_12 ht1 ht2 (by decide) fl_X12_109 rfl rfl dX12_three_62 h hf (fun a7 ea7 ka7 na7 h => ?_)
    refine g_iconst (v := 4) hC dX12_three_65 (by decide) ?_
    refine g_iload_n hC dX12_three_66 rfl 2 rfl ?_
    refine g_imul hC dX12_three_67 ?_
    refine g_iload hC dX12_three_68 6 rfl ?_
    refine g_iadd hC dX12_three_70 ?_
    refine g_lald hC ka7 na7 dX12_three_71 h hf (fun h => ?_)
    refine g_aload_n hC dX12_three_72 rfl 1 rfl ?_
    refine g_getR (cj := 15) (k := 27) hC cr12 ui_12 ht1 ht2 (by decide) fl_X12_109 rfl rfl dX12_three_73 h hf (fun a8 ea8 ka8 na8 h => ?_)
    refine g_iconst (v := 4) hC dX12_three_76 (by decide) ?_
    refine g_iload_n hC dX12_three_77 rfl 3 rfl ?_
    refine g_imul hC dX12_three_78 ?_
    refine g_iload hC dX12_three_79 5 rfl ?_
    refine g_iadd hC dX12_three_81 ?_
    refine g_lald hC ka8 na8 dX12_three_82 h hf (fun h => ?_)
    refine g_aload_n hC dX12_three_83 rfl 1 rfl ?_
    refine g_getR (cj := 15) (k := 27) hC cr12 ui_12 ht1 ht2 (by decide) fl_X12_109 rfl rfl dX12_three_84 h hf (fun a9 ea9 ka9 na9 h => ?_)
    refine g_iconst (v := 4) hC dX12_three_87 (by decide) ?_
    refine g_iload_n hC dX12_three_88 rfl 3 rfl ?_
    refine g_imul hC dX12_three_89 ?_
    refine g_iload hC dX12_three_90 7 rfl ?_
    refine g_iadd hC dX12_three_92 ?_
    refine g_lald hC ka9 na9 dX12_three_93 h hf (fun h => ?_)
    refine g_aload_n hC dX12_three_94 rfl 1 rfl ?_
    refine g_getR (cj := 15) (k := 27) hC cr12 ui_12 ht1 ht2 (by decide) fl_X12_109 rfl rfl dX12_three_95 h hf (fun a10 ea10 ka10 na10 h => ?_)
    refine g_iconst (v := 4) hC dX12_three_98 (by decide) ?_
    refine g_iload_n hC dX12_three_99 rfl 4 rfl ?_
    refine g_imul hC dX12_three_100 ?_
    refine g_iload hC dX12_three_101 5 rfl ?_
    refine g_iadd hC dX12_three_103 ?_
    refine g_lald hC ka10 na10 dX12_three_104 h hf (fun h => ?_)
    refine g_aload_n hC dX12_three_105 rfl 1 rfl ?_
    refine g_getR (cj := 15) (k := 27) hC cr12 ui_12 ht1 ht2 (by decide) fl_X12_109 rfl rfl dX12_three_106 h hf (fun a11 ea11 ka11 na11 h => ?_)
    refine g_iconst (v := 4) hC dX12_three_109 (by decide) ?_
    refine g_iload_n hC dX12_three_110 rfl 4 rfl ?_
    refine g_imul hC dX12_three_111 ?_
    refine g_iload hC dX12_three_112 7 rfl ?_
    refine g_iadd hC dX12_three_114 ?_
    refine g_lald hC ka11 na11 dX12_three_115 h hf (fun h => ?_)
    obtain ⟨q12, hq12, h⟩ := bd_of h hf
    refine g_cSJ (As := [.long (q6.2.2.1 a8 (((4 : Int32) * x2) + x4).toNatClampNeg), .long (q6.2.2.1 a9 (((4 : Int32) * x2) + x6).toNatClampNeg), .long (q6.2.2.1 a10 (((4 : Int32) * x3) + x4).toNatClampNeg), .long (q6.2.2.1 a11 (((4 : Int32) * x3) + x6).toNatClampNeg)]) hC hO (c_X12_two _ hC.2.2.2.2.2.2.1 (q6.2.2.1 a8 (((4 : Int32) * x2) + x4).toNatClampNeg) (q6.2.2.1 a9 (((4 : Int32) * x2) + x6).toNatClampNeg) (q6.2.2.1 a10 (((4 : Int32) * x3) + x4).toNatClampNeg) (q6.2.2.1 a11 (((4 : Int32) * x3) + x6).toNatClampNeg) q6.2 (nn_of hq12)) gc_X12_273 (xk_X12_two _ (Nat.le_of_ble_eq_true rfl) (Nat.le_of_ble_eq_true rfl)) rfl (Nat.le_of_ble_eq_true rfl) dX12_three_116 hq12 ?_
    refine g_lmul hC dX12_three_119 ?_
    refine g_lstore (lv' := [(9, .long ((q6.2.2.1 a7 (((4 : Int32) * x1) + x5).toNatClampNeg) * q12.1)), (7, .long ((σ.2.1 a1 (((4 : Int32) * x1) + x4).toNatClampNeg) * q6.1)), (0, .ref (E.2.2.1 t)), (1, .int x1), (2, .int x2), (3, .int x3), (4, .int x4), (5, .int x5), (6, .int x6)]) hC dX12_three_120 (by decide) rfl ?_
    refine g_aload_n hC dX12_three_122 rfl 2 rfl ?_
    refine g_getR (cj := 15) (k := 27) hC cr12 ui_12 ht1 ht2 (by decide) fl_X12_109 rfl rfl dX12_three_123 h hf (fun a13 ea13 ka13 na13 h => ?_)
    refine g_iconst (v := 4) hC dX12_three_126 (by decide) ?_
    refine g_iload_n hC dX12_three_127 rfl 3 rfl ?_
    refine g_imul hC dX12_three_128 ?_
    refine g_iload hC dX12_three_129 8 rfl ?_
    refine g_iadd hC dX12_three_131 ?_
    refine g_lald hC ka13 na13 dX12_three_132 h hf (fun h => ?_)
    refine g_aload_n hC dX12_three_133 rfl 2 rfl ?_
    refine g_getR (cj := 15) (k := 27) hC cr12 ui_12 ht1 ht2 (by decide) fl_X12_109 rfl rfl dX12_three_134 h hf (fun a14 ea14 ka14 na14 h => ?_)
    refine g_iconst (v := 4) hC dX12_three_137 (by decide) ?_
    refine g_iload_n hC dX12_three_138 rfl 4 rfl ?_
    refine g_imul hC dX12_three_139 ?_
    refine g_iload hC dX12_three_140 6 rfl ?_
    refine g_iadd hC dX12_three_142 ?_
    refine g_lald hC ka14 na14 dX12_three_143 h hf (fun h => ?_)
    refine g_aload_n hC dX12_three_144 rfl 2 rfl ?_
    refine g_getR (cj := 15) (k := 27) hC cr12 ui_12 ht1 ht2 (by decide) fl_X12_109 rfl rfl dX12_three_145 h hf (fun a15 ea15 ka15 na15 h => ?_)
    refine g_iconst (v := 4) hC dX12_three_148 (by decide) ?_
    refine g_iload_n hC dX12_three_149 rfl 4 rfl ?_
    refine g_imul hC dX12_three_150 ?_
    refine g_iload hC dX12_three_151 7 rfl ?_
    refine g_iadd hC dX12_three_153 ?_
    refine g_lald hC ka15 na15 dX12_three_154 h hf (fun h => ?_)
    refine g_aload_n hC dX12_three_155 rfl 2 rfl ?_
    refine g_getR (cj := 15) (k := 27) hC cr12 ui_12 ht1 ht2 (by decide) fl_X12_109 rfl rfl dX12_three_156 h hf (fun a16 ea16 ka16 na16 h => ?_)
    refine g_iconst (v := 4) hC dX12_three_159 (by decide) ?_
    refine g_iload_n hC dX12_three_160 rfl 5 rfl ?_
    refine g_imul hC dX12_three_161 ?_
    refine g_iload hC dX12_three_162 6 rfl ?_
    refine g_iadd hC dX12_three_164 ?_
    refine g_lald hC ka16 na16 dX12_three_165 h hf (fun h => ?_)
    refine g_aload_n hC dX12_three_166 rfl 2 rfl ?_
    refine g_getR (cj := 15) (k := 27) hC cr12 ui_12 ht1 ht2 (by decide) fl_X12_109 rfl rfl dX12_three_167 h hf (fun a17 ea17 ka17 na17 h => ?_)
    refine g_iconst (v := 4) hC dX12_three_170 (by decide) ?_
    refine g_iload_n hC dX12_three_171 rfl 5 rfl ?_
    refine g_imul hC dX12_three_172 ?_
    refine g_iload hC dX12_three_173 7 rfl ?_
    refine g_iadd hC dX12_three_175 ?_
    refine g_lald hC ka17 na17 dX12_three_176 h hf (fun h => ?_)
    obtain ⟨q18, hq18, h⟩ := bd_of h hf
    refine g_cSJ (As := [.long (q12.2.2.1 a14 (((4 : Int32) * x2) + x4).toNatClampNeg), .long (q12.2.2.1 a15 (((4 : Int32) * x2) + x5).toNatClampNeg), .long (q12.2.2.1 a16 (((4 : Int32) * x3) + x4).toNatClampNeg), .long (q12.2.2.1 a17 (((4 : Int32) * x3) + x5).toNatClampNeg)]) hC hO (c_X12_two _ hC.2.2.2.2.2.2.1 (q12.2.2.1 a14 (((4 : Int32) * x2) + x4).toNatClampNeg) (q12.2.2.1 a15 (((4 : Int32) * x2) + x5).toNatClampNeg) (q12.2.2.1 a16 (((4 : Int32) * x3) + x4).toNatClampNeg) (q12.2.2.1 a17 (((4 : Int32) * x3) + x5).toNatClampNeg) q12.2 (nn_of hq18)) gc_X12_273 (xk_X12_two _ (Nat.le_of_ble_eq_true rfl) (Nat.le_of_ble_eq_true rfl)) rfl (Nat.le_of_ble_eq_true rfl) dX12_three_177 hq18 ?_
    refine g_lmul hC dX12_three_180 ?_
    refine g_lstore (lv' := [(11, .long ((q12.2.2.1 a13 (((4 : Int32) * x1) + x6).toNatClampNeg) * q18.1)), (9, .long ((q6.2.2.1 a7 (((4 : Int32) * x1) + x5).toNatClampNeg) * q12.1)), (7, .long ((σ.2.1 a1 (((4 : Int32) * x1) + x4).toNatClampNeg) * q6.1)), (0, .ref (E.2.2.1 t)), (1, .int x1), (2, .int x2), (3, .int x3), (4, .int x4), (5, .int x5), (6, .int x6)]) hC dX12_three_181 (by decide) rfl ?_
    refine g_lload hC dX12_three_183 2 rfl ?_
    refine g_lload hC dX12_three_185 1 rfl ?_
    refine g_lsub hC dX12_three_187 ?_
    refine g_lload hC dX12_three_188 0 rfl ?_
    refine g_ladd hC dX12_three_190 ?_
    exact g_lret hC hR dX12_three_191 h
theorem xk_X12_three (R : Room) (h1 : 1 + 1 ≤ R.frames) (h2 : 83 ≤ R.locals) : xw R yX12_three w_X12_three GT cX12_three 13 (some .long) rm_X12_three 6 := ⟨rfl, rfl, rfl, h1, h2, ⟨by decide, by decide⟩, by decide +kernel⟩
theorem c_X12_three (E : ET) (hE : EO E) (t : Nat) (ht1 : kd t = 12) (ht2 : AL E t) (x1 : Int32) (x2 : Int32) (x3 : Int32) (x4 : Int32) (x5 : Int32) (x6 : Int32) (σ : HS) (hn : f_X12_three t x1 x2 x3 x4 x5 x6 σ ≠ none) : CoJ E yX12_three w_X12_three rm_X12_three [.ref (E.2.2.1 t), .int x1, .int x2, .int x3, .int x4, .int x5, .int x6] σ (f_X12_three t x1 x2 x3 x4 x5 x6 σ) := CoJ.of (lv := [(0, .ref (E.2.2.1 t)), (1, .int x1), (2, .int x2), (3, .int x3), (4, .int x4), (5, .int x5), (6, .int x6)]) hE (plainFor_of_name (by decide)) rfl (Nat.le_of_ble_eq_true rfl) rfl (fun F hC hO hR => k_X12_three_0 hC hO hR hn t ht1 ht2 x1 x2 x3 x4 x5 x6 σ rfl)
def rm_X12_crosses : Room := { frames := 2, cells := 0, slots := 0, locals := 83 }
theorem fl_X12_121 : Cond.fieldLink RX12 121 "EveryMeasureModel" (TX12 31).2.1 (TX12 31).2.2.1 ∈ GT := gtr_10 _ (List.mem_of_getElem? (i := 7) rfl)
theorem wc_X12_three : Cond.code yX12_three cX12_three 13 (some .long) ∈ GT := gtr_34 _ (List.mem_of_getElem? (i := 2) rfl)
theorem gc_X12_277 : GoodIn GT (wsV RX12 277 RX12 yX12_three w_X12_three) := gi_V (gtr_33 _ (List.mem_of_getElem? (i := 23) rfl)) (gtr_34 _ (List.mem_of_getElem? (i := 0) rfl)) (gtr_34 _ (List.mem_of_getElem? (i := 1) rfl)) (gtr_1 _ (List.mem_of_getElem? (i := 5) rfl)) wc_X12_three
set_option maxHeartbeats 4000000 in
set_option maxRecDepth 100000 in
theorem k_X12_crosses_300 {E : ET} {F : FT} {fo : Option HS} (hC : Cx E F 5 cX12_crosses RX12 GT) (hO : Ro F rm_X12_crosses) (hR : RV E F fo) (hf : fo ≠ none) (σ : HS) (h : f_X12_crosses_300 σ = fo) : G E F 300 [] [] σ := by
    exact g_vret hC hR dX12_crosses_300 h
set_option maxHeartbeats 4000000 in
set_option maxRecDepth 100000 in
theorem k_X12_crosses_3 {E : ET} {F : FT} {fo : Option HS} (hC : Cx E F 5 cX12_crosses RX12 GT) (hO : Ro F rm_X12_crosses) (hR : RV E F fo) (hf : fo ≠ none) (t : Nat) (ht1 : kd t = 12) (ht2 : AL E t) (x1 : Int32) (x2 : Int32) (x3 : Int32) : ∀ (n : Nat) (x4 : Int32) (σ : HS), f_X12_crosses_3 t x1 x2 x3 n x4 σ = fo → G E F 3 [(0, .ref (E.2.2.1 t)), (1, .int x1), (2, .int x2), (3, .int x3), (4, .int x4)] [] σ := by
  intro n
  induction n with
  | zero =>
    intro x4 σ h
    exact absurd (h.symm.trans rfl) hf
  | succ n ih =>
    intro x4 σ h
    refine g_iload hC dX12_crosses_3 4 rfl ?_
    refine g_iconst (v := 4) hC dX12_crosses_5 (by decide) ?_
    refine g_icmp_ge (tgt := 23) hC dX12_crosses_6 (by decide) h (fun c6 h => ?_) (fun c6 h => ?_)
    · refine g_aload_n hC dX12_crosses_23 rfl 0 rfl ?_
      refine g_getI (k := 20) hC cr12 ui_12 ht1 ht2 (by decide) fl_X12_193 rfl rfl dX12_crosses_24 ?_
      refine g_iconst (v := 1) hC dX12_crosses_27 (by decide) ?_
      refine g_icmp_ne (tgt := 41) hC dX12_crosses_28 (by decide) h (fun c28 h => ?_) (fun c28 h => ?_)
      · refine g_aload_n hC dX12_crosses_41 rfl 0 rfl ?_
        refine g_getI (k := 20) hC cr12 ui_12 ht1 ht2 (by decide) fl_X12_193 rfl rfl dX12_crosses_42 ?_
        refine g_iconst (v := 2) hC dX12_crosses_45 (by decide) ?_
        refine g_icmp_ne (tgt := 83) hC dX12_crosses_46 (by decide) h (fun c46 h => ?_) (fun c46 h => ?_)
        · refine g_aload_n hC dX12_crosses_83 rfl 0 rfl ?_
          refine g_getI (k := 20) hC cr12 ui_12 ht1 ht2 (by decide) fl_X12_193 rfl rfl dX12_crosses_84 ?_
          refine g_iconst (v := 3) hC dX12_crosses_87 (by decide) ?_
          refine g_icmp_ne (tgt := 234) hC dX12_crosses_88 (by decide) h (fun c88 h => ?_) (fun c88 h => ?_)
          · refine g_aload_n hC dX12_crosses_234 rfl 0 rfl ?_
            refine g_getR (cj := 15) (k := 31) hC cr12 ui_12 ht1 ht2 (by decide) fl_X12_121 rfl rfl dX12_crosses_235 h hf (fun a1 ea1 ka1 na1 h => ?_)
            refine g_iconst (v := 0) hC dX12_crosses_238 (by decide) ?_
            refine g_aload_n hC dX12_crosses_239 rfl 0 rfl ?_
            refine g_iload_n hC dX12_crosses_240 rfl 1 rfl ?_
            refine g_iload_n hC dX12_crosses_241 rfl 2 rfl ?_
            refine g_iload_n hC dX12_crosses_242 rfl 3 rfl ?_
            refine g_iconst (v := 1) hC dX12_crosses_243 (by decide) ?_
            refine g_iconst (v := 2) hC dX12_crosses_244 (by decide) ?_
            refine g_iconst (v := 3) hC dX12_crosses_245 (by decide) ?_
            obtain ⟨q2, hq2, h⟩ := bd_of h hf
            refine g_cVJ (As := [.int x1, .int x2, .int x3, .int 1, .int 2, .int 3]) hC hO (c_X12_three _ hC.2.2.2.2.2.2.1 t ht1 ht2 x1 x2 x3 1 2 3 σ (nn_of hq2)) gc_X12_277 (xk_X12_three _ (Nat.le_of_ble_eq_true rfl) (Nat.le_of_ble_eq_true rfl)) cr12 ht1 ht2 rfl (Nat.le_of_ble_eq_true rfl) dX12_crosses_246 hq2 ?_
            refine g_last hC ka1 na1 dX12_crosses_249 h hf (fun h => ?_)
            refine g_aload_n hC dX12_crosses_250 rfl 0 rfl ?_
            refine g_getR (cj := 15) (k := 31) hC cr12 ui_12 ht1 ht2 (by decide) fl_X12_121 rfl rfl dX12_crosses_251 h hf (fun a3 ea3 ka3 na3 h => ?_)
            refine g_iconst (v := 1) hC dX12_crosses_254 (by decide) ?_
            refine g_aload_n hC dX12_crosses_255 rfl 0 rfl ?_
            refine g_iload_n hC dX12_crosses_256 rfl 1 rfl ?_
            refine g_iload_n hC dX12_crosses_257 rfl 2 rfl ?_
            refine g_iload_n hC dX12_crosses_258 rfl 3 rfl ?_
            refine g_iconst (v := 0) hC dX12_crosses_259 (by decide) ?_
            refine g_iconst (v := 2) hC dX12_crosses_260 (by decide) ?_
            refine g_iconst (v := 3) hC dX12_crosses_261 (by decide) ?_
            obtain ⟨q4, hq4, h⟩ := bd_of h hf
            refine g_cVJ (As := [.int x1, .int x2, .int x3, .int 0, .int 2, .int 3]) hC hO (c_X12_three _ hC.2.2.2.2.2.2.1 t ht1 ht2 x1 x2 x3 0 2 3 (sJ q2.2 a1 (0 : Int32).toNatClampNeg q2.1) (nn_of hq4)) gc_X12_277 (xk_X12_three _ (Nat.le_of_ble_eq_true rfl) (Nat.le_of_ble_eq_true rfl)) cr12 ht1 ht2 rfl (Nat.le_of_ble_eq_true rfl) dX12_crosses_262 hq4 ?_
            refine g_lneg hC dX12_crosses_265 ?_
            refine g_last hC ka3 na3 dX12_crosses_266 h hf (fun h => ?_)
            refine g_aload_n hC dX12_crosses_267 rfl 0 rfl ?_
            refine g_getR (cj := 15) (k := 31) hC cr12 ui_12 ht1 ht2 (by decide) fl_X12_121 rfl rfl dX12_crosses_268 h hf (fun a5 ea5 ka5 na5 h => ?_)
            refine g_iconst (v := 2) hC dX12_crosses_271 (by decide) ?_
            refine g_aload_n hC dX12_crosses_272 rfl 0 rfl ?_
            refine g_iload_n hC dX12_crosses_273 rfl 1 rfl ?_
            refine g_iload_n hC dX12_crosses_274 rfl 2 rfl ?_
            refine g_iload_n hC dX12_crosses_275 rfl 3 rfl ?_
            refine g_iconst (v := 0) hC dX12_crosses_276 (by decide) ?_
            refine g_iconst (v := 1) hC dX12_crosses_277 (by decide) ?_
            refine g_iconst (v := 3) hC dX12_crosses_278 (by decide) ?_
            obtain ⟨q6, hq6, h⟩ := bd_of h hf
            refine g_cVJ (As := [.int x1, .int x2, .int x3, .int 0, .int 1, .int 3]) hC hO (c_X12_three _ hC.2.2.2.2.2.2.1 t ht1 ht2 x1 x2 x3 0 1 3 (sJ q4.2 a3 (1 : Int32).toNatClampNeg (-q4.1)) (nn_of hq6)) gc_X12_277 (xk_X12_three _ (Nat.le_of_ble_eq_true rfl) (Nat.le_of_ble_eq_true rfl)) cr12 ht1 ht2 rfl (Nat.le_of_ble_eq_true rfl) dX12_crosses_279 hq6 ?_
            refine g_last hC ka5 na5 dX12_crosses_282 h hf (fun h => ?_)
            refine g_aload_n hC dX12_crosses_283 rfl 0 rfl ?_
            refine g_getR (cj := 15) (k := 31) hC cr12 ui_12 ht1 ht2 (by decide) fl_X12_121 rfl rfl dX12_crosses_284 h hf (fun a7 ea7 ka7 na7 h => ?_)
            refine g_iconst (v := 3) hC dX12_crosses_287 (by decide) ?_
            refine g_aload_n hC dX12_crosses_288 rfl 0 rfl ?_
            refine g_iload_n hC dX12_crosses_289 rfl 1 rfl ?_
            refine g_iload_n hC dX12_crosses_290 rfl 2 rfl ?_
            refine g_iload_n hC dX12_crosses_291 rfl 3 rfl ?_
            refine g_iconst (v := 0) hC dX12_crosses_292 (by decide) ?_
            refine g_iconst (v := 1) hC dX12_crosses_293 (by decide) ?_
            refine g_iconst (v := 2) hC dX12_crosses_294 (by decide) ?_
            obtain ⟨q8, hq8, h⟩ := bd_of h hf
            refine g_cVJ (As := [.int x1, .int x2, .int x3, .int 0, .int 1, .int 2]) hC hO (c_X12_three _ hC.2.2.2.2.2.2.1 t ht1 ht2 x1 x2 x3 0 1 2 (sJ q6.2 a5 (2 : Int32).toNatClampNeg q6.1) (nn_of hq8)) gc_X12_277 (xk_X12_three _ (Nat.le_of_ble_eq_true rfl) (Nat.le_of_ble_eq_true rfl)) cr12 ht1 ht2 rfl (Nat.le_of_ble_eq_true rfl) dX12_crosses_295 hq8 ?_
            refine g_lneg hC dX12_crosses_298 ?_
            refine g_last hC ka7 na7 dX12_crosses_299 h hf (fun h => ?_)
            exact g_sub [] rfl (k_X12_crosses_300 hC hO hR hf (sJ q8.2 a7 (3 : Int32).toNatClampNeg (-q8.1)) h)
          · refine g_aload_n hC dX12_crosses_91 rfl 0 rfl ?_
            refine g_getR (cj := 15) (k := 31) hC cr12 ui_12 ht1 ht2 (by decide) fl_X12_121 rfl rfl dX12_crosses_92 h hf (fun a9 ea9 ka9 na9 h => ?_)
            refine g_iconst (v := 0) hC dX12_crosses_95 (by decide) ?_
            refine g_aload_n hC dX12_crosses_96 rfl 0 rfl ?_
            refine g_getR (cj := 15) (k := 27) hC cr12 ui_12 ht1 ht2 (by decide) fl_X12_109 rfl rfl dX12_crosses_97 h hf (fun a10 ea10 ka10 na10 h => ?_)
            refine g_iconst (v := 4) hC dX12_crosses_100 (by decide) ?_
            refine g_iload_n hC dX12_crosses_101 rfl 1 rfl ?_
            refine g_imul hC dX12_crosses_102 ?_
            refine g_iconst (v := 1) hC dX12_crosses_103 (by decide) ?_
            refine g_iadd hC dX12_crosses_104 ?_
            refine g_lald hC ka10 na10 dX12_crosses_105 h hf (fun h => ?_)
            refine g_aload_n hC dX12_crosses_106 rfl 0 rfl ?_
            refine g_getR (cj := 15) (k := 27) hC cr12 ui_12 ht1 ht2 (by decide) fl_X12_109 rfl rfl dX12_crosses_107 h hf (fun a11 ea11 ka11 na11 h => ?_)
            refine g_iconst (v := 4) hC dX12_crosses_110 (by decide) ?_
            refine g_iload_n hC dX12_crosses_111 rfl 1 rfl ?_
            refine g_imul hC dX12_crosses_112 ?_
            refine g_iconst (v := 2) hC dX12_crosses_113 (by decide) ?_
            refine g_iadd hC dX12_crosses_114 ?_
            refine g_lald hC ka11 na11 dX12_crosses_115 h hf (fun h => ?_)
            refine g_aload_n hC dX12_crosses_116 rfl 0 rfl ?_
            refine g_getR (cj := 15) (k := 27) hC cr12 ui_12 ht1 ht2 (by decide) fl_X12_109 rfl rfl dX12_crosses_117 h hf (fun a12 ea12 ka12 na12 h => ?_)
            refine g_iconst (v := 4) hC dX12_crosses_120 (by decide) ?_
            refine g_iload_n hC dX12_crosses_121 rfl 2 rfl ?_
            refine g_imul hC dX12_crosses_122 ?_
            refine g_iconst (v := 1) hC dX12_crosses_123 (by decide) ?_
            refine g_iadd hC dX12_crosses_124 ?_
            refine g_lald hC ka12 na12 dX12_crosses_125 h hf (fun h => ?_)
            refine g_aload_n hC dX12_crosses_126 rfl 0 rfl ?_
            refine g_getR (cj := 15) (k := 27) hC cr12 ui_12 ht1 ht2 (by decide) fl_X12_109 rfl rfl dX12_crosses_127 h hf (fun a13 ea13 ka13 na13 h => ?_)
            refine g_iconst (v := 4) hC dX12_crosses_130 (by decide) ?_
            refine g_iload_n hC dX12_crosses_131 rfl 2 rfl ?_
            refine g_imul hC dX12_crosses_132 ?_
            refine g_iconst (v := 2) hC dX12_crosses_133 (by decide) ?_
            refine g_iadd hC dX12_crosses_134 ?_
            refine g_lald hC ka13 na13 dX12_crosses_135 h hf (fun h => ?_)
            obtain ⟨q14, hq14, h⟩ := bd_of h hf
            refine g_cSJ (As := [.long (σ.2.1 a10 (((4 : Int32) * x1) + 1).toNatClampNeg), .long (σ.2.1 a11 (((4 : Int32) * x1) + 2).toNatClampNeg), .long (σ.2.1 a12 (((4 : Int32) * x2) + 1).toNatClampNeg), .long (σ.2.1 a13 (((4 : Int32) * x2) + 2).toNatClampNeg)]) hC hO (c_X12_two _ hC.2.2.2.2.2.2.1 (σ.2.1 a10 (((4 : Int32) * x1) + 1).toNatClampNeg) (σ.2.1 a11 (((4 : Int32) * x1) + 2).toNatClampNeg) (σ.2.1 a12 (((4 : Int32) * x2) + 1).toNatClampNeg) (σ.2.1 a13 (((4 : Int32) * x2) + 2).toNatClampNeg) σ (nn_of hq14)) gc_X12_273 (xk_X12_two _ (Nat.le_of_ble_eq_true rfl) (Nat.le_of_ble_eq_true rfl)) rfl (Nat.le_of_ble_eq_true rfl) dX12_crosses_136 hq14 ?_
            refine g_last hC ka9 na9 dX12_crosses_139 h hf (fun h => ?_)
            refine g_aload_n hC dX12_crosses_140 rfl 0 rfl ?_
            refine g_getR (cj := 15) (k := 31) hC cr12 ui_12 ht1 ht2 (by decide) fl_X12_121 rfl rfl dX12_crosses_141 h hf (fun a15 ea15 ka15 na15 h => ?_)
            refine g_iconst (v := 1) hC dX12_crosses_144 (by decide) ?_
            refine g_aload_n hC dX12_crosses_145 rfl 0 rfl ?_
            refine g_getR (cj := 15) (k := 27) hC cr12 ui_12 ht1 ht2 (by decide) fl_X12_109 rfl rfl dX12_crosses_146 h hf (fun a16 ea16 ka16 na16 h => ?_)
            refine g_iconst (v := 4) hC dX12_crosses_149 (by decide) ?_
            refine g_iload_n hC dX12_crosses_150 rfl 1 rfl ?_
            refine g_imul hC dX12_crosses_151 ?_
            refine g_lald hC ka16 na16 dX12_crosses_152 h hf (fun h => ?_)
            refine g_aload_n hC dX12_crosses_153 rfl 0 rfl ?_
            refine g_getR (cj := 15) (k := 27) hC cr12 ui_12 ht1 ht2 (by decide) fl_X12_109 rfl rfl dX12_crosses_154 h hf (fun a17 ea17 ka17 na17 h => ?_)
            refine g_iconst (v := 4) hC dX12_crosses_157 (by decide) ?_
            refine g_iload_n hC dX12_crosses_158 rfl 1 rfl ?_
            refine g_imul hC dX12_crosses_159 ?_
            refine g_iconst (v := 2) hC dX12_crosses_160 (by decide) ?_
            refine g_iadd hC dX12_crosses_161 ?_
            refine g_lald hC ka17 na17 dX12_crosses_162 h hf (fun h => ?_)
            refine g_aload_n hC dX12_crosses_163 rfl 0 rfl ?_
            refine g_getR (cj := 15) (k := 27) hC cr12 ui_12 ht1 ht2 (by decide) fl_X12_109 rfl rfl dX12_crosses_164 h hf (fun a18 ea18 ka18 na18 h => ?_)
            refine g_iconst (v := 4) hC dX12_crosses_167 (by decide) ?_
            refine g_iload_n hC dX12_crosses_168 rfl 2 rfl ?_
            refine g_imul hC dX12_crosses_169 ?_
            refine g_lald hC ka18 na18 dX12_crosses_170 h hf (fun h => ?_)
            refine g_aload_n hC dX12_crosses_171 rfl 0 rfl ?_
            refine g_getR (cj := 15) (k := 27) hC cr12 ui_12 ht1 ht2 (by decide) fl_X12_109 rfl rfl dX12_crosses_172 h hf (fun a19 ea19 ka19 na19 h => ?_)
            refine g_iconst (v := 4) hC dX12_crosses_175 (by decide) ?_
            refine g_iload_n hC dX12_crosses_176 rfl 2 rfl ?_
            refine g_imul hC dX12_crosses_177 ?_
            refine g_iconst (v := 2) hC dX12_crosses_178 (by decide) ?_
            refine g_iadd hC dX12_crosses_179 ?_
            refine g_lald hC ka19 na19 dX12_crosses_180 h hf (fun h => ?_)
            obtain ⟨q20, hq20, h⟩ := bd_of h hf
            refine g_cSJ (As := [.long ((sJ q14.2 a9 (0 : Int32).toNatClampNeg q14.1).2.1 a16 ((4 : Int32) * x1).toNatClampNeg), .long ((sJ q14.2 a9 (0 : Int32).toNatClampNeg q14.1).2.1 a17 (((4 : Int32) * x1) + 2).toNatClampNeg), .long ((sJ q14.2 a9 (0 : Int32).toNatClampNeg q14.1).2.1 a18 ((4 : Int32) * x2).toNatClampNeg), .long ((sJ q14.2 a9 (0 : Int32).toNatClampNeg q14.1).2.1 a19 (((4 : Int32) * x2) + 2).toNatClampNeg)]) hC hO (c_X12_two _ hC.2.2.2.2.2.2.1 ((sJ q14.2 a9 (0 : Int32).toNatClampNeg q14.1).2.1 a16 ((4 : Int32) * x1).toNatClampNeg) ((sJ q14.2 a9 (0 : Int32).toNatClampNeg q14.1).2.1 a17 (((4 : Int32) * x1) + 2).toNatClampNeg) ((sJ q14.2 a9 (0 : Int32).toNatClampNeg q14.1).2.1 a18 ((4 : Int32) * x2).toNatClampNeg) ((sJ q14.2 a9 (0 : Int32).toNatClampNeg q14.1).2.1 a19 (((4 : Int32) * x2) + 2).toNatClampNeg) (sJ q14.2 a9 (0 : Int32).toNatClampNeg q14.1) (nn_of hq20)) gc_X12_273 (xk_X12_two _ (Nat.le_of_ble_eq_true rfl) (Nat.le_of_ble_eq_true rfl)) rfl (Nat.le_of_ble_eq_true rfl) dX12_crosses_181 hq20 ?_
            refine g_lneg hC dX12_crosses_184 ?_
            refine g_last hC ka15 na15 dX12_crosses_185 h hf (fun h => ?_)
            refine g_aload_n hC dX12_crosses_186 rfl 0 rfl ?_
            refine g_getR (cj := 15) (k := 31) hC cr12 ui_12 ht1 ht2 (by decide) fl_X12_121 rfl rfl dX12_crosses_187 h hf (fun a21 ea21 ka21 na21 h => ?_)
            refine g_iconst (v := 2) hC dX12_crosses_190 (by decide) ?_
            refine g_aload_n hC dX12_crosses_191 rfl 0 rfl ?_
            refine g_getR (cj := 15) (k := 27) hC cr12 ui_12 ht1 ht2 (by decide) fl_X12_109 rfl rfl dX12_crosses_192 h hf (fun a22 ea22 ka22 na22 h => ?_)
            refine g_iconst (v := 4) hC dX12_crosses_195 (by decide) ?_
            refine g_iload_n hC dX12_crosses_196 rfl 1 rfl ?_
            refine g_imul hC dX12_crosses_197 ?_
            refine g_lald hC ka22 na22 dX12_crosses_198 h hf (fun h => ?_)
            refine g_aload_n hC dX12_crosses_199 rfl 0 rfl ?_
            refine g_getR (cj := 15) (k := 27) hC cr12 ui_12 ht1 ht2 (by decide) fl_X12_109 rfl rfl dX12_crosses_200 h hf (fun a23 ea23 ka23 na23 h => ?_)
            refine g_iconst (v := 4) hC dX12_crosses_203 (by decide) ?_
            refine g_iload_n hC dX12_crosses_204 rfl 1 rfl ?_
            refine g_imul hC dX12_crosses_205 ?_
            refine g_iconst (v := 1) hC dX12_crosses_206 (by decide) ?_
            refine g_iadd hC dX12_crosses_207 ?_
            refine g_lald hC ka23 na23 dX12_crosses_208 h hf (fun h => ?_)
            refine g_aload_n hC dX12_crosses_209 rfl 0 rfl ?_
            refine g_getR (cj := 15) (k := 27) hC cr12 ui_12 ht1 ht2 (by decide) fl_X12_109 rfl rfl dX12_crosses_210 h hf (fun a24 ea24 ka24 na24 h => ?_)
            refine g_iconst (v := 4) hC dX12_crosses_213 (by decide) ?_
            refine g_iload_n hC dX12_crosses_214 rfl 2 rfl ?_
            refine g_imul hC dX12_crosses_215 ?_
            refine g_lald hC ka24 na24 dX12_crosses_216 h hf (fun h => ?_)
            refine g_aload_n hC dX12_crosses_217 rfl 0 rfl ?_
            refine g_getR (cj := 15) (k := 27) hC cr12 ui_12 ht1 ht2 (by decide) fl_X12_109 rfl rfl dX12_crosses_218 h hf (fun a25 ea25 ka25 na25 h => ?_)
            refine g_iconst (v := 4) hC dX12_crosses_221 (by decide) ?_
            refine g_iload_n hC dX12_crosses_222 rfl 2 rfl ?_
            refine g_imul hC dX12_crosses_223 ?_
            refine g_iconst (v := 1) hC dX12_crosses_224 (by decide) ?_
            refine g_iadd hC dX12_crosses_225 ?_
            refine g_lald hC ka25 na25 dX12_crosses_226 h hf (fun h => ?_)
            obtain ⟨q26, hq26, h⟩ := bd_of h hf
            refine g_cSJ (As := [.long ((sJ q20.2 a15 (1 : Int32).toNatClampNeg (-q20.1)).2.1 a22 ((4 : Int32) * x1).toNatClampNeg), .long ((sJ q20.2 a15 (1 : Int32).toNatClampNeg (-q20.1)).2.1 a23 (((4 : Int32) * x1) + 1).toNatClampNeg), .long ((sJ q20.2 a15 (1 : Int32).toNatClampNeg (-q20.1)).2.1 a24 ((4 : Int32) * x2).toNatClampNeg), .long ((sJ q20.2 a15 (1 : Int32).toNatClampNeg (-q20.1)).2.1 a25 (((4 : Int32) * x2) + 1).toNatClampNeg)]) hC hO (c_X12_two _ hC.2.2.2.2.2.2.1 ((sJ q20.2 a15 (1 : Int32).toNatClampNeg (-q20.1)).2.1 a22 ((4 : Int32) * x1).toNatClampNeg) ((sJ q20.2 a15 (1 : Int32).toNatClampNeg (-q20.1)).2.1 a23 (((4 : Int32) * x1) + 1).toNatClampNeg) ((sJ q20.2 a15 (1 : Int32).toNatClampNeg (-q20.1)).2.1 a24 ((4 : Int32) * x2).toNatClampNeg) ((sJ q20.2 a15 (1 : Int32).toNatClampNeg (-q20.1)).2.1 a25 (((4 : Int32) * x2) + 1).toNatClampNeg) (sJ q20.2 a15 (1 : Int32).toNatClampNeg (-q20.1)) (nn_of hq26)) gc_X12_273 (xk_X12_two _ (Nat.le_of_ble_eq_true rfl) (Nat.le_of_ble_eq_true rfl)) rfl (Nat.le_of_ble_eq_true rfl) dX12_crosses_227 hq26 ?_
            refine g_last hC ka21 na21 dX12_crosses_230 h hf (fun h => ?_)
            refine g_goto (tgt := 300) hC dX12_crosses_231 (by decide) ?_
            exact g_sub [] rfl (k_X12_crosses_300 hC hO hR hf (sJ q26.2 a21 (2 : Int32).toNatClampNeg q26.1) h)
        · refine g_aload_n hC dX12_crosses_49 rfl 0 rfl ?_
          refine g_getR (cj := 15) (k := 31) hC cr12 ui_12 ht1 ht2 (by decide) fl_X12_121 rfl rfl dX12_crosses_50 h hf (fun a27 ea27 ka27 na27 h => ?_)
          refine g_iconst (v := 0) hC dX12_crosses_53 (by decide) ?_
          refine g_aload_n hC dX12_crosses_54 rfl 0 rfl ?_
          refine g_getR (cj := 15) (k := 27) hC cr12 ui_12 ht1 ht2 (by decide) fl_X12_109 rfl rfl dX12_crosses_55 h hf (fun a28 ea28 ka28 na28 h => ?_)
          refine g_iconst (v := 4) hC dX12_crosses_58 (by decide) ?_
          refine g_iload_n hC dX12_crosses_59 rfl 1 rfl ?_
          refine g_imul hC dX12_crosses_60 ?_
          refine g_iconst (v := 1) hC dX12_crosses_61 (by decide) ?_
          refine g_iadd hC dX12_crosses_62 ?_
          refine g_lald hC ka28 na28 dX12_crosses_63 h hf (fun h => ?_)
          refine g_last hC ka27 na27 dX12_crosses_64 h hf (fun h => ?_)
          refine g_aload_n hC dX12_crosses_65 rfl 0 rfl ?_
          refine g_getR (cj := 15) (k := 31) hC cr12 ui_12 ht1 ht2 (by decide) fl_X12_121 rfl rfl dX12_crosses_66 h hf (fun a29 ea29 ka29 na29 h => ?_)
          refine g_iconst (v := 1) hC dX12_crosses_69 (by decide) ?_
          refine g_aload_n hC dX12_crosses_70 rfl 0 rfl ?_
          refine g_getR (cj := 15) (k := 27) hC cr12 ui_12 ht1 ht2 (by decide) fl_X12_109 rfl rfl dX12_crosses_71 h hf (fun a30 ea30 ka30 na30 h => ?_)
          refine g_iconst (v := 4) hC dX12_crosses_74 (by decide) ?_
          refine g_iload_n hC dX12_crosses_75 rfl 1 rfl ?_
          refine g_imul hC dX12_crosses_76 ?_
          refine g_lald hC ka30 na30 dX12_crosses_77 h hf (fun h => ?_)
          refine g_lneg hC dX12_crosses_78 ?_
          refine g_last hC ka29 na29 dX12_crosses_79 h hf (fun h => ?_)
          refine g_goto (tgt := 300) hC dX12_crosses_80 (by decide) ?_
          exact g_sub [] rfl (k_X12_crosses_300 hC hO hR hf (sJ (sJ σ a27 (0 : Int32).toNatClampNeg (σ.2.1 a28 (((4 : Int32) * x1) + 1).toNatClampNeg)) a29 (1 : Int32).toNatClampNeg (-((sJ σ a27 (0 : Int32).toNatClampNeg (σ.2.1 a28 (((4 : Int32) * x1) + 1).toNatClampNeg)).2.1 a30 ((4 : Int32) * x1).toNatClampNeg))) h)
      · refine g_aload_n hC dX12_crosses_31 rfl 0 rfl ?_
        refine g_getR (cj := 15) (k := 31) hC cr12 ui_12 ht1 ht2 (by decide) fl_X12_121 rfl rfl dX12_crosses_32 h hf (fun a31 ea31 ka31 na31 h => ?_)
        refine g_iconst (v := 0) hC dX12_crosses_35 (by decide) ?_
        refine g_lconst (v := 1) hC dX12_crosses_36 (by decide) ?_
        refine g_last hC ka31 na31 dX12_crosses_37 h hf (fun h => ?_)
        refine g_goto (tgt := 300) hC dX12_crosses_38 (by decide) ?_
        exact g_sub [] rfl (k_X12_crosses_300 hC hO hR hf (sJ σ a31 (0 : Int32).toNatClampNeg 1) h)
    · refine g_aload_n hC dX12_crosses_9 rfl 0 rfl ?_
      refine g_getR (cj := 15) (k := 31) hC cr12 ui_12 ht1 ht2 (by decide) fl_X12_121 rfl rfl dX12_crosses_10 h hf (fun a32 ea32 ka32 na32 h => ?_)
      refine g_iload hC dX12_crosses_13 4 rfl ?_
      refine g_lconst (v := 0) hC dX12_crosses_15 (by decide) ?_
      refine g_last hC ka32 na32 dX12_crosses_16 h hf (fun h => ?_)
      refine g_iinc (v := x4 + 1) (lv' := [(4, .int (x4 + 1)), (0, .ref (E.2.2.1 t)), (1, .int x1), (2, .int x2), (3, .int x3)]) hC dX12_crosses_17 4 rfl rfl (by decide) rfl ?_
      refine g_goto (tgt := 3) hC dX12_crosses_20 (by decide) ?_
      exact g_sub [1, 2, 3, 4, 0] rfl (ih (x4 + 1) (sJ σ a32 x4.toNatClampNeg 0) h)
set_option maxHeartbeats 4000000 in
set_option maxRecDepth 100000 in
theorem k_X12_crosses_0 {E : ET} {F : FT} {fo : Option HS} (hC : Cx E F 5 cX12_crosses RX12 GT) (hO : Ro F rm_X12_crosses) (hR : RV E F fo) (hf : fo ≠ none) (t : Nat) (ht1 : kd t = 12) (ht2 : AL E t) (x1 : Int32) (x2 : Int32) (x3 : Int32) (σ : HS) (h : f_X12_crosses t x1 x2 x3 σ = fo) : G E F 0 [(0, .ref (E.2.2.1 t)), (1, .int x1), (2, .int x2), (3, .int x3)] [] σ := by
    refine g_iconst (v := 0) hC dX12_crosses_0 (by decide) ?_
    refine g_istore (lv' := [(4, .int 0), (0, .ref (E.2.2.1 t)), (1, .int x1), (2, .int x2), (3, .int x3)]) hC dX12_crosses_1 (by decide) rfl ?_
    exact g_sub [1, 2, 3, 4, 0] rfl (k_X12_crosses_3 hC hO hR hf t ht1 ht2 x1 x2 x3 FU 0 σ h)
theorem xk_X12_crosses (R : Room) (h1 : 2 + 1 ≤ R.frames) (h2 : 119 ≤ R.locals) : xw R yX12_crosses w_X12_crosses GT cX12_crosses 5 none rm_X12_crosses 3 := ⟨rfl, rfl, rfl, h1, h2, ⟨by decide, by decide⟩, by decide +kernel⟩
theorem c_X12_crosses (E : ET) (hE : EO E) (t : Nat) (ht1 : kd t = 12) (ht2 : AL E t) (x1 : Int32) (x2 : Int32) (x3 : Int32) (σ : HS) (hn : f_X12_crosses t x1 x2 x3 σ ≠ none) : CoV E yX12_crosses w_X12_crosses rm_X12_crosses [.ref (E.2.2.1 t), .int x1, .int x2, .int x3] σ (f_X12_crosses t x1 x2 x3 σ) := CoV.of (lv := [(0, .ref (E.2.2.1 t)), (1, .int x1), (2, .int x2), (3, .int x3)]) hE (plainFor_of_name (by decide)) rfl (Nat.le_of_ble_eq_true rfl) rfl (fun F hC hO hR => k_X12_crosses_0 hC hO hR hn t ht1 ht2 x1 x2 x3 σ rfl)
def rm_X12_keepsFound : Room := { frames := 1, cells := 0, slots := 0, locals := 41 }
theorem fl_X12_112 : Cond.fieldLink RX12 112 "EveryMeasureModel" (TX12 28).2.1 (TX12 28).2.2.1 ∈ GT := gtr_10 _ (List.mem_of_getElem? (i := 4) rfl)
theorem wc_X12_times : Cond.code yX12_times cX12_times 7 (some .long) ∈ GT := gtr_34 _ (List.mem_of_getElem? (i := 10) rfl)
theorem gc_X12_285 : GoodIn GT (wsV RX12 285 RX12 yX12_times w_X12_times) := gi_V (gtr_34 _ (List.mem_of_getElem? (i := 7) rfl)) (gtr_34 _ (List.mem_of_getElem? (i := 8) rfl)) (gtr_34 _ (List.mem_of_getElem? (i := 9) rfl)) (gtr_1 _ (List.mem_of_getElem? (i := 5) rfl)) wc_X12_times
theorem wc_X12_common : Cond.code yX12_common cX12_common 10 (some .long) ∈ GT := gtr_30 _ (List.mem_of_getElem? (i := 3) rfl)
theorem gc_X12_281 : GoodIn GT (va_wsS RX12 281 yX12_common w_X12_common) := gi_S (gtr_30 _ (List.mem_of_getElem? (i := 1) rfl)) (gtr_30 _ (List.mem_of_getElem? (i := 2) rfl)) (gtr_1 _ (List.mem_of_getElem? (i := 5) rfl)) wc_X12_common
set_option maxHeartbeats 4000000 in
set_option maxRecDepth 100000 in
theorem k_X12_keepsFound_223 {E : ET} {F : FT} {fo : Option HS} (hC : Cx E F 11 cX12_keepsFound RX12 GT) (hO : Ro F rm_X12_keepsFound) (hR : RV E F fo) (hf : fo ≠ none) (t : Nat) (ht1 : kd t = 12) (ht2 : AL E t) (x1 : Int32) (x6 : Int32) (x7 : Int32) (x8 : Int32) (x10 : Int32) (s0 : Int32) (r160 : Int32 → HS → Option HS) (h160 : ∀ (x8 : Int32) (σ : HS), r160 x8 σ = fo → G E F 160 [(0, .ref (E.2.2.1 t)), (1, .int x1), (6, .int x6), (7, .int x7), (8, .int x8)] [] σ) (r173 : Int32 → Int32 → HS → Option HS) (h173 : ∀ (x9 : Int32) (x10 : Int32) (σ : HS), r173 x9 x10 σ = fo → G E F 173 [(0, .ref (E.2.2.1 t)), (1, .int x1), (6, .int x6), (7, .int x7), (8, .int x8), (9, .int x9), (10, .int x10)] [] σ) (σ : HS) (h : f_X12_keepsFound_223 r160 r173 t x1 x6 x7 x8 x10 s0 σ = fo) : G E F 223 [(0, .ref (E.2.2.1 t)), (1, .int x1), (6, .int x6), (7, .int x7), (8, .int x8), (10, .int x10)] [.int s0] σ := by
    refine g_istore (lv' := [(9, .int s0), (0, .ref (E.2.2.1 t)), (1, .int x1), (6, .int x6), (7, .int x7), (8, .int x8), (10, .int x10)]) hC dX12_keepsFound_223 (by decide) rfl ?_
    refine g_iinc (v := x10 + 1) (lv' := [(10, .int (x10 + 1)), (9, .int s0), (0, .ref (E.2.2.1 t)), (1, .int x1), (6, .int x6), (7, .int x7), (8, .int x8)]) hC dX12_keepsFound_225 6 rfl rfl (by decide) rfl ?_
    refine g_goto (tgt := 173) hC dX12_keepsFound_228 (by decide) ?_
    exact g_sub [2, 3, 4, 5, 6, 1, 0] rfl (h173 s0 (x10 + 1) σ h)
set_option maxHeartbeats 4000000 in
set_option maxRecDepth 100000 in
theorem k_X12_keepsFound_222 {E : ET} {F : FT} {fo : Option HS} (hC : Cx E F 11 cX12_keepsFound RX12 GT) (hO : Ro F rm_X12_keepsFound) (hR : RV E F fo) (hf : fo ≠ none) (t : Nat) (ht1 : kd t = 12) (ht2 : AL E t) (x1 : Int32) (x6 : Int32) (x7 : Int32) (x8 : Int32) (x10 : Int32) (r160 : Int32 → HS → Option HS) (h160 : ∀ (x8 : Int32) (σ : HS), r160 x8 σ = fo → G E F 160 [(0, .ref (E.2.2.1 t)), (1, .int x1), (6, .int x6), (7, .int x7), (8, .int x8)] [] σ) (r173 : Int32 → Int32 → HS → Option HS) (h173 : ∀ (x9 : Int32) (x10 : Int32) (σ : HS), r173 x9 x10 σ = fo → G E F 173 [(0, .ref (E.2.2.1 t)), (1, .int x1), (6, .int x6), (7, .int x7), (8, .int x8), (9, .int x9), (10, .int x10)] [] σ) (σ : HS) (h : f_X12_keepsFound_222 r160 r173 t x1 x6 x7 x8 x10 σ = fo) : G E F 222 [(0, .ref (E.2.2.1 t)), (1, .int x1), (6, .int x6), (7, .int x7), (8, .int x8), (10, .int x10)] [] σ := by
    refine g_iconst (v := 0) hC dX12_keepsFound_222 (by decide) ?_
    exact g_sub [0, 1, 2, 3, 4, 5] rfl (k_X12_keepsFound_223 hC hO hR hf t ht1 ht2 x1 x6 x7 x8 x10 0 r160 h160 r173 h173 σ h)
set_option maxHeartbeats 4000000 in
set_option maxRecDepth 100000 in
theorem k_X12_keepsFound_173 {E : ET} {F : FT} {fo : Option HS} (hC : Cx E F 11 cX12_keepsFound RX12 GT) (hO : Ro F rm_X12_keepsFound) (hR : RV E F fo) (hf : fo ≠ none) (t : Nat) (ht1 : kd t = 12) (ht2 : AL E t) (x1 : Int32) (x6 : Int32) (x7 : Int32) (x8 : Int32) (r160 : Int32 → HS → Option HS) (h160 : ∀ (x8 : Int32) (σ : HS), r160 x8 σ = fo → G E F 160 [(0, .ref (E.2.2.1 t)), (1, .int x1), (6, .int x6), (7, .int x7), (8, .int x8)] [] σ) : ∀ (n : Nat) (x9 : Int32) (x10 : Int32) (σ : HS), f_X12_keepsFound_173 t x1 x6 x7 x8 r160 n x9 x10 σ = fo → G E F 173 [(0, .ref (E.2.2.1 t)), (1, .int x1), (6, .int x6), (7, .int x7), (8, .int x8), (9, .int x9), (10, .int x10)] [] σ := by
  intro n
  induction n with
  | zero =>
    intro x9 x10 σ h
    exact absurd (h.symm.trans rfl) hf
  | succ n ih =>
    intro x9 x10 σ h
    refine g_iload hC dX12_keepsFound_173 6 rfl ?_
    refine g_aload_n hC dX12_keepsFound_175 rfl 0 rfl ?_
    refine g_getI (k := 20) hC cr12 ui_12 ht1 ht2 (by decide) fl_X12_193 rfl rfl dX12_keepsFound_176 ?_
    refine g_icmp_ge (tgt := 231) hC dX12_keepsFound_179 (by decide) h (fun c179 h => ?_) (fun c179 h => ?_)
    · refine g_iload hC dX12_keepsFound_231 5 rfl ?_
      refine g_if_eq (tgt := 237) hC dX12_keepsFound_233 (by decide) h (fun c233 h => ?_) (fun c233 h => ?_)
      · refine g_iinc (v := x8 + 1) (lv' := [(8, .int (x8 + 1)), (0, .ref (E.2.2.1 t)), (1, .int x1), (6, .int x6), (7, .int x7), (9, .int x9), (10, .int x10)]) hC dX12_keepsFound_237 4 rfl rfl (by decide) rfl ?_
        refine g_goto (tgt := 160) hC dX12_keepsFound_240 (by decide) ?_
        exact g_sub [1, 2, 3, 4, 0] rfl (h160 (x8 + 1) σ h)
      · exact g_vret hC hR dX12_keepsFound_236 h
    · refine g_iload hC dX12_keepsFound_182 5 rfl ?_
      refine g_if_eq (tgt := 222) hC dX12_keepsFound_184 (by decide) h (fun c184 h => ?_) (fun c184 h => ?_)
      · exact g_sub [0, 1, 2, 3, 4, 6] rfl (k_X12_keepsFound_222 hC hO hR hf t ht1 ht2 x1 x6 x7 x8 x10 r160 h160 (f_X12_keepsFound_173 t x1 x6 x7 x8 r160 n) ih σ h)
      · refine g_aload_n hC dX12_keepsFound_187 rfl 0 rfl ?_
        refine g_getR (cj := 15) (k := 30) hC cr12 ui_12 ht1 ht2 (by decide) fl_X12_118 rfl rfl dX12_keepsFound_188 h hf (fun a1 ea1 ka1 na1 h => ?_)
        refine g_iconst (v := 4) hC dX12_keepsFound_191 (by decide) ?_
        refine g_bipush (v := 72) hC dX12_keepsFound_192 (by decide) ?_
        refine g_iload_n hC dX12_keepsFound_194 rfl 1 rfl ?_
        refine g_imul hC dX12_keepsFound_195 ?_
        refine g_iload hC dX12_keepsFound_196 4 rfl ?_
        refine g_iadd hC dX12_keepsFound_198 ?_
        refine g_imul hC dX12_keepsFound_199 ?_
        refine g_iload hC dX12_keepsFound_200 6 rfl ?_
        refine g_iadd hC dX12_keepsFound_202 ?_
        refine g_lald hC ka1 na1 dX12_keepsFound_203 h hf (fun h => ?_)
        refine g_aload_n hC dX12_keepsFound_204 rfl 0 rfl ?_
        refine g_getR (cj := 15) (k := 30) hC cr12 ui_12 ht1 ht2 (by decide) fl_X12_118 rfl rfl dX12_keepsFound_205 h hf (fun a2 ea2 ka2 na2 h => ?_)
        refine g_iload hC dX12_keepsFound_208 3 rfl ?_
        refine g_iload hC dX12_keepsFound_210 6 rfl ?_
        refine g_iadd hC dX12_keepsFound_212 ?_
        refine g_lald hC ka2 na2 dX12_keepsFound_213 h hf (fun h => ?_)
        refine g_lc_ne (tgt := 222) hC dX12_keepsFound_214 dX12_keepsFound_215 (by decide) h (fun c214 h => ?_) (fun c214 h => ?_)
        · exact g_sub [0, 1, 2, 3, 4, 6] rfl (k_X12_keepsFound_222 hC hO hR hf t ht1 ht2 x1 x6 x7 x8 x10 r160 h160 (f_X12_keepsFound_173 t x1 x6 x7 x8 r160 n) ih σ h)
        · refine g_iconst (v := 1) hC dX12_keepsFound_218 (by decide) ?_
          refine g_goto (tgt := 223) hC dX12_keepsFound_219 (by decide) ?_
          exact g_sub [0, 1, 2, 3, 4, 6] rfl (k_X12_keepsFound_223 hC hO hR hf t ht1 ht2 x1 x6 x7 x8 x10 1 r160 h160 (f_X12_keepsFound_173 t x1 x6 x7 x8 r160 n) ih σ h)
set_option maxHeartbeats 4000000 in
set_option maxRecDepth 100000 in
theorem k_X12_keepsFound_160 {E : ET} {F : FT} {fo : Option HS} (hC : Cx E F 11 cX12_keepsFound RX12 GT) (hO : Ro F rm_X12_keepsFound) (hR : RV E F fo) (hf : fo ≠ none) (t : Nat) (ht1 : kd t = 12) (ht2 : AL E t) (x1 : Int32) (x6 : Int32) (x7 : Int32) : ∀ (n : Nat) (x8 : Int32) (σ : HS), f_X12_keepsFound_160 t x1 x6 x7 n x8 σ = fo → G E F 160 [(0, .ref (E.2.2.1 t)), (1, .int x1), (6, .int x6), (7, .int x7), (8, .int x8)] [] σ := by
  intro n
  induction n with
  | zero =>
    intro x8 σ h
    exact absurd (h.symm.trans rfl) hf
  | succ n ih =>
    intro x8 σ h
    refine g_iload hC dX12_keepsFound_160 4 rfl ?_
    refine g_iload hC dX12_keepsFound_162 2 rfl ?_
    refine g_icmp_ge (tgt := 243) hC dX12_keepsFound_164 (by decide) h (fun c164 h => ?_) (fun c164 h => ?_)
    · refine g_aload_n hC dX12_keepsFound_243 rfl 0 rfl ?_
      refine g_getR (cj := 14) (k := 28) hC cr12 ui_12 ht1 ht2 (by decide) fl_X12_112 rfl rfl dX12_keepsFound_244 h hf (fun a1 ea1 ka1 na1 h => ?_)
      refine g_iload_n hC dX12_keepsFound_247 rfl 1 rfl ?_
      refine g_dup2_11 hC dX12_keepsFound_248 rfl rfl ?_
      refine g_iald hC ka1 na1 dX12_keepsFound_249 h hf (fun h => ?_)
      refine g_iconst (v := 1) hC dX12_keepsFound_250 (by decide) ?_
      refine g_iadd hC dX12_keepsFound_251 ?_
      refine g_iast hC ka1 na1 dX12_keepsFound_252 h hf (fun h => ?_)
      exact g_vret hC hR dX12_keepsFound_253 h
    · refine g_iconst (v := 1) hC dX12_keepsFound_167 (by decide) ?_
      refine g_istore (lv' := [(9, .int 1), (0, .ref (E.2.2.1 t)), (1, .int x1), (6, .int x6), (7, .int x7), (8, .int x8)]) hC dX12_keepsFound_168 (by decide) rfl ?_
      refine g_iconst (v := 0) hC dX12_keepsFound_170 (by decide) ?_
      refine g_istore (lv' := [(10, .int 0), (9, .int 1), (0, .ref (E.2.2.1 t)), (1, .int x1), (6, .int x6), (7, .int x7), (8, .int x8)]) hC dX12_keepsFound_171 (by decide) rfl ?_
      exact g_sub [2, 3, 4, 5, 6, 1, 0] rfl (k_X12_keepsFound_173 hC hO hR hf t ht1 ht2 x1 x6 x7 x8 (f_X12_keepsFound_160 t x1 x6 x7 n) ih FU 1 0 σ h)
set_option maxHeartbeats 4000000 in
set_option maxRecDepth 100000 in
theorem k_X12_keepsFound_127 {E : ET} {F : FT} {fo : Option HS} (hC : Cx E F 11 cX12_keepsFound RX12 GT) (hO : Ro F rm_X12_keepsFound) (hR : RV E F fo) (hf : fo ≠ none) (t : Nat) (ht1 : kd t = 12) (ht2 : AL E t) (x1 : Int32) (x6 : Int32) (x7 : Int32) : ∀ (n : Nat) (x8 : Int32) (σ : HS), f_X12_keepsFound_127 t x1 x6 x7 n x8 σ = fo → G E F 127 [(0, .ref (E.2.2.1 t)), (1, .int x1), (6, .int x6), (7, .int x7), (8, .int x8)] [] σ := by
  intro n
  induction n with
  | zero =>
    intro x8 σ h
    exact absurd (h.symm.trans rfl) hf
  | succ n ih =>
    intro x8 σ h
    refine g_iload hC dX12_keepsFound_127 4 rfl ?_
    refine g_aload_n hC dX12_keepsFound_129 rfl 0 rfl ?_
    refine g_getI (k := 26) hC cr12 ui_12 ht1 ht2 (by decide) fl_X12_229 rfl rfl dX12_keepsFound_130 ?_
    refine g_icmp_ge (tgt := 157) hC dX12_keepsFound_133 (by decide) h (fun c133 h => ?_) (fun c133 h => ?_)
    · refine g_iconst (v := 0) hC dX12_keepsFound_157 (by decide) ?_
      refine g_istore (lv' := [(8, .int 0), (0, .ref (E.2.2.1 t)), (1, .int x1), (6, .int x6), (7, .int x7)]) hC dX12_keepsFound_158 (by decide) rfl ?_
      exact g_sub [1, 2, 3, 4, 0] rfl (k_X12_keepsFound_160 hC hO hR hf t ht1 ht2 x1 x6 x7 FU 0 σ h)
    · refine g_aload_n hC dX12_keepsFound_136 rfl 0 rfl ?_
      refine g_iload hC dX12_keepsFound_137 4 rfl ?_
      refine g_iload_n hC dX12_keepsFound_139 rfl 1 rfl ?_
      refine g_iload hC dX12_keepsFound_140 2 rfl ?_
      obtain ⟨q1, hq1, h⟩ := bd_of h hf
      refine g_cVJ (As := [.int x8, .int x1, .int x6]) hC hO (c_X12_times _ hC.2.2.2.2.2.2.1 t ht1 ht2 x8 x1 x6 σ (nn_of hq1)) gc_X12_285 (xk_X12_times _ (Nat.le_of_ble_eq_true rfl) (Nat.le_of_ble_eq_true rfl)) cr12 ht1 ht2 rfl (Nat.le_of_ble_eq_true rfl) dX12_keepsFound_142 hq1 ?_
      refine g_lconst (v := 0) hC dX12_keepsFound_145 (by decide) ?_
      refine g_lc_ge (tgt := 151) hC dX12_keepsFound_146 dX12_keepsFound_147 (by decide) h (fun c146 h => ?_) (fun c146 h => ?_)
      · refine g_iinc (v := x8 + 1) (lv' := [(8, .int (x8 + 1)), (0, .ref (E.2.2.1 t)), (1, .int x1), (6, .int x6), (7, .int x7)]) hC dX12_keepsFound_151 4 rfl rfl (by decide) rfl ?_
        refine g_goto (tgt := 127) hC dX12_keepsFound_154 (by decide) ?_
        exact g_sub [1, 2, 3, 4, 0] rfl (ih (x8 + 1) q1.2 h)
      · exact g_vret hC hR dX12_keepsFound_150 h
set_option maxHeartbeats 4000000 in
set_option maxRecDepth 100000 in
theorem k_X12_keepsFound_117 {E : ET} {F : FT} {fo : Option HS} (hC : Cx E F 11 cX12_keepsFound RX12 GT) (hO : Ro F rm_X12_keepsFound) (hR : RV E F fo) (hf : fo ≠ none) (t : Nat) (ht1 : kd t = 12) (ht2 : AL E t) (x1 : Int32) (x2 : Int64) (x4 : Int64) (x6 : Int32) (x7 : Int32) (x8 : Int32) (s0 : Int64) (s1 : Int32) (s2 : Nat) (hs2a : kd s2 = 15) (hs2b : AL E s2) (r73 : Int32 → HS → Option HS) (h73 : ∀ (x8 : Int32) (σ : HS), r73 x8 σ = fo → G E F 73 [(0, .ref (E.2.2.1 t)), (1, .int x1), (2, .long x2), (4, .long x4), (6, .int x6), (7, .int x7), (8, .int x8)] [] σ) (σ : HS) (h : f_X12_keepsFound_117 r73 t x1 x2 x4 x6 x7 x8 s0 s1 s2 σ = fo) : G E F 117 [(0, .ref (E.2.2.1 t)), (1, .int x1), (2, .long x2), (4, .long x4), (6, .int x6), (7, .int x7), (8, .int x8)] [.long s0, .int s1, .ref (E.2.2.1 s2)] σ := by
    refine g_last hC hs2a hs2b dX12_keepsFound_117 h hf (fun h => ?_)
    refine g_iinc (v := x8 + 1) (lv' := [(8, .int (x8 + 1)), (0, .ref (E.2.2.1 t)), (1, .int x1), (2, .long x2), (4, .long x4), (6, .int x6), (7, .int x7)]) hC dX12_keepsFound_118 6 rfl rfl (by decide) rfl ?_
    refine g_goto (tgt := 73) hC dX12_keepsFound_121 (by decide) ?_
    exact g_sub [1, 2, 3, 4, 5, 6, 0] rfl (h73 (x8 + 1) (sJ σ s2 s1.toNatClampNeg s0) h)
set_option maxHeartbeats 4000000 in
set_option maxRecDepth 100000 in
theorem k_X12_keepsFound_73 {E : ET} {F : FT} {fo : Option HS} (hC : Cx E F 11 cX12_keepsFound RX12 GT) (hO : Ro F rm_X12_keepsFound) (hR : RV E F fo) (hf : fo ≠ none) (t : Nat) (ht1 : kd t = 12) (ht2 : AL E t) (x1 : Int32) (x2 : Int64) (x4 : Int64) (x6 : Int32) (x7 : Int32) : ∀ (n : Nat) (x8 : Int32) (σ : HS), f_X12_keepsFound_73 t x1 x2 x4 x6 x7 n x8 σ = fo → G E F 73 [(0, .ref (E.2.2.1 t)), (1, .int x1), (2, .long x2), (4, .long x4), (6, .int x6), (7, .int x7), (8, .int x8)] [] σ := by
  intro n
  induction n with
  | zero =>
    intro x8 σ h
    exact absurd (h.symm.trans rfl) hf
  | succ n ih =>
    intro x8 σ h
    refine g_iload hC dX12_keepsFound_73 6 rfl ?_
    refine g_iconst (v := 4) hC dX12_keepsFound_75 (by decide) ?_
    refine g_icmp_ge (tgt := 124) hC dX12_keepsFound_76 (by decide) h (fun c76 h => ?_) (fun c76 h => ?_)
    · refine g_iconst (v := 0) hC dX12_keepsFound_124 (by decide) ?_
      refine g_istore (lv' := [(8, .int 0), (0, .ref (E.2.2.1 t)), (1, .int x1), (2, .long x2), (4, .long x4), (6, .int x6), (7, .int x7)]) hC dX12_keepsFound_125 (by decide) rfl ?_
      exact g_sub [1, 2, 5, 6, 0] rfl (k_X12_keepsFound_127 hC hO hR hf t ht1 ht2 x1 x6 x7 FU 0 σ h)
    · refine g_aload_n hC dX12_keepsFound_79 rfl 0 rfl ?_
      refine g_getR (cj := 15) (k := 30) hC cr12 ui_12 ht1 ht2 (by decide) fl_X12_118 rfl rfl dX12_keepsFound_80 h hf (fun a1 ea1 ka1 na1 h => ?_)
      refine g_iload hC dX12_keepsFound_83 5 rfl ?_
      refine g_iload hC dX12_keepsFound_85 6 rfl ?_
      refine g_iadd hC dX12_keepsFound_87 ?_
      refine g_lload hC dX12_keepsFound_88 3 rfl ?_
      refine g_lconst (v := 0) hC dX12_keepsFound_90 (by decide) ?_
      refine g_lc_ge (tgt := 108) hC dX12_keepsFound_91 dX12_keepsFound_92 (by decide) h (fun c91 h => ?_) (fun c91 h => ?_)
      · refine g_aload_n hC dX12_keepsFound_108 rfl 0 rfl ?_
        refine g_getR (cj := 15) (k := 31) hC cr12 ui_12 ht1 ht2 (by decide) fl_X12_121 rfl rfl dX12_keepsFound_109 h hf (fun a2 ea2 ka2 na2 h => ?_)
        refine g_iload hC dX12_keepsFound_112 6 rfl ?_
        refine g_lald hC ka2 na2 dX12_keepsFound_114 h hf (fun h => ?_)
        refine g_lload_n hC dX12_keepsFound_115 rfl 2 rfl ?_
        obtain ⟨hz116, h⟩ := nz_of h hf
        refine g_ldiv hC dX12_keepsFound_116 hz116 ?_
        exact g_sub [0, 1, 2, 3, 4, 5, 6] rfl (k_X12_keepsFound_117 hC hO hR hf t ht1 ht2 x1 x2 x4 x6 x7 x8 ((σ.2.1 a2 x8.toNatClampNeg) / x2) (x7 + x8) a1 ka1 na1 (f_X12_keepsFound_73 t x1 x2 x4 x6 x7 n) ih σ h)
      · refine g_aload_n hC dX12_keepsFound_95 rfl 0 rfl ?_
        refine g_getR (cj := 15) (k := 31) hC cr12 ui_12 ht1 ht2 (by decide) fl_X12_121 rfl rfl dX12_keepsFound_96 h hf (fun a3 ea3 ka3 na3 h => ?_)
        refine g_iload hC dX12_keepsFound_99 6 rfl ?_
        refine g_lald hC ka3 na3 dX12_keepsFound_101 h hf (fun h => ?_)
        refine g_lneg hC dX12_keepsFound_102 ?_
        refine g_lload_n hC dX12_keepsFound_103 rfl 2 rfl ?_
        obtain ⟨hz104, h⟩ := nz_of h hf
        refine g_ldiv hC dX12_keepsFound_104 hz104 ?_
        refine g_goto (tgt := 117) hC dX12_keepsFound_105 (by decide) ?_
        exact g_sub [0, 1, 2, 3, 4, 5, 6] rfl (k_X12_keepsFound_117 hC hO hR hf t ht1 ht2 x1 x2 x4 x6 x7 x8 ((-(σ.2.1 a3 x8.toNatClampNeg)) / x2) (x7 + x8) a1 ka1 na1 (f_X12_keepsFound_73 t x1 x2 x4 x6 x7 n) ih σ h)
set_option maxHeartbeats 4000000 in
set_option maxRecDepth 100000 in
theorem k_X12_keepsFound_8 {E : ET} {F : FT} {fo : Option HS} (hC : Cx E F 11 cX12_keepsFound RX12 GT) (hO : Ro F rm_X12_keepsFound) (hR : RV E F fo) (hf : fo ≠ none) (t : Nat) (ht1 : kd t = 12) (ht2 : AL E t) (x1 : Int32) : ∀ (n : Nat) (x2 : Int64) (x4 : Int64) (x6 : Int32) (σ : HS), f_X12_keepsFound_8 t x1 n x2 x4 x6 σ = fo → G E F 8 [(0, .ref (E.2.2.1 t)), (1, .int x1), (2, .long x2), (4, .long x4), (6, .int x6)] [] σ := by
  intro n
  induction n with
  | zero =>
    intro x2 x4 x6 σ h
    exact absurd (h.symm.trans rfl) hf
  | succ n ih =>
    intro x2 x4 x6 σ h
    refine g_iload hC dX12_keepsFound_8 4 rfl ?_
    refine g_iconst (v := 4) hC dX12_keepsFound_10 (by decide) ?_
    refine g_icmp_ge (tgt := 44) hC dX12_keepsFound_11 (by decide) h (fun c11 h => ?_) (fun c11 h => ?_)
    · refine g_lload_n hC dX12_keepsFound_44 rfl 2 rfl ?_
      refine g_lconst (v := 0) hC dX12_keepsFound_45 (by decide) ?_
      refine g_lc_ne (tgt := 51) hC dX12_keepsFound_46 dX12_keepsFound_47 (by decide) h (fun c46 h => ?_) (fun c46 h => ?_)
      · refine g_aload_n hC dX12_keepsFound_51 rfl 0 rfl ?_
        refine g_getR (cj := 14) (k := 28) hC cr12 ui_12 ht1 ht2 (by decide) fl_X12_112 rfl rfl dX12_keepsFound_52 h hf (fun a1 ea1 ka1 na1 h => ?_)
        refine g_iload_n hC dX12_keepsFound_55 rfl 1 rfl ?_
        refine g_iald hC ka1 na1 dX12_keepsFound_56 h hf (fun h => ?_)
        refine g_istore (lv' := [(6, .int (σ.1 a1 x1.toNatClampNeg)), (0, .ref (E.2.2.1 t)), (1, .int x1), (2, .long x2), (4, .long x4)]) hC dX12_keepsFound_57 (by decide) rfl ?_
        refine g_iconst (v := 4) hC dX12_keepsFound_59 (by decide) ?_
        refine g_bipush (v := 72) hC dX12_keepsFound_60 (by decide) ?_
        refine g_iload_n hC dX12_keepsFound_62 rfl 2 rfl ?_
        refine g_imul hC dX12_keepsFound_63 ?_
        refine g_iload hC dX12_keepsFound_64 0 rfl ?_
        refine g_iadd hC dX12_keepsFound_66 ?_
        refine g_imul hC dX12_keepsFound_67 ?_
        refine g_istore (lv' := [(7, .int ((4 : Int32) * (((72 : Int32) * x1) + (σ.1 a1 x1.toNatClampNeg)))), (6, .int (σ.1 a1 x1.toNatClampNeg)), (0, .ref (E.2.2.1 t)), (1, .int x1), (2, .long x2), (4, .long x4)]) hC dX12_keepsFound_68 (by decide) rfl ?_
        refine g_iconst (v := 0) hC dX12_keepsFound_70 (by decide) ?_
        refine g_istore (lv' := [(8, .int 0), (7, .int ((4 : Int32) * (((72 : Int32) * x1) + (σ.1 a1 x1.toNatClampNeg)))), (6, .int (σ.1 a1 x1.toNatClampNeg)), (0, .ref (E.2.2.1 t)), (1, .int x1), (2, .long x2), (4, .long x4)]) hC dX12_keepsFound_71 (by decide) rfl ?_
        exact g_sub [3, 4, 5, 6, 2, 1, 0] rfl (k_X12_keepsFound_73 hC hO hR hf t ht1 ht2 x1 x2 x4 (σ.1 a1 x1.toNatClampNeg) ((4 : Int32) * (((72 : Int32) * x1) + (σ.1 a1 x1.toNatClampNeg))) FU 0 σ h)
      · exact g_vret hC hR dX12_keepsFound_50 h
    · refine g_lload_n hC dX12_keepsFound_14 rfl 2 rfl ?_
      refine g_aload_n hC dX12_keepsFound_15 rfl 0 rfl ?_
      refine g_getR (cj := 15) (k := 31) hC cr12 ui_12 ht1 ht2 (by decide) fl_X12_121 rfl rfl dX12_keepsFound_16 h hf (fun a2 ea2 ka2 na2 h => ?_)
      refine g_iload hC dX12_keepsFound_19 4 rfl ?_
      refine g_lald hC ka2 na2 dX12_keepsFound_21 h hf (fun h => ?_)
      obtain ⟨q3, hq3, h⟩ := bd_of h hf
      refine g_cSJ (As := [.long x2, .long (σ.2.1 a2 x6.toNatClampNeg)]) hC hO (c_X12_common _ hC.2.2.2.2.2.2.1 x2 (σ.2.1 a2 x6.toNatClampNeg) σ (nn_of hq3)) gc_X12_281 (xk_X12_common _ (Nat.le_of_ble_eq_true rfl) (Nat.le_of_ble_eq_true rfl)) rfl (Nat.le_of_ble_eq_true rfl) dX12_keepsFound_22 hq3 ?_
      refine g_lstore_n (lv' := [(2, .long q3.1), (0, .ref (E.2.2.1 t)), (1, .int x1), (4, .long x4), (6, .int x6)]) hC dX12_keepsFound_25 rfl (by decide) rfl ?_
      refine g_lload hC dX12_keepsFound_26 3 rfl ?_
      refine g_aload_n hC dX12_keepsFound_28 rfl 1 rfl ?_
      refine g_getR (cj := 15) (k := 31) hC cr12 ui_12 ht1 ht2 (by decide) fl_X12_121 rfl rfl dX12_keepsFound_29 h hf (fun a4 ea4 ka4 na4 h => ?_)
      refine g_iload hC dX12_keepsFound_32 4 rfl ?_
      refine g_lald hC ka4 na4 dX12_keepsFound_34 h hf (fun h => ?_)
      refine g_ladd hC dX12_keepsFound_35 ?_
      refine g_lstore (lv' := [(4, .long (x4 + (q3.2.2.1 a4 x6.toNatClampNeg))), (2, .long q3.1), (0, .ref (E.2.2.1 t)), (1, .int x1), (6, .int x6)]) hC dX12_keepsFound_36 (by decide) rfl ?_
      refine g_iinc (v := x6 + 1) (lv' := [(6, .int (x6 + 1)), (4, .long (x4 + (q3.2.2.1 a4 x6.toNatClampNeg))), (2, .long q3.1), (0, .ref (E.2.2.1 t)), (1, .int x1)]) hC dX12_keepsFound_38 4 rfl rfl (by decide) rfl ?_
      refine g_goto (tgt := 8) hC dX12_keepsFound_41 (by decide) ?_
      exact g_sub [3, 4, 2, 1, 0] rfl (ih q3.1 (x4 + (q3.2.2.1 a4 x6.toNatClampNeg)) (x6 + 1) q3.2 h)
set_option maxHeartbeats 4000000 in
set_option maxRecDepth 100000 in
theorem k_X12_keepsFound_0 {E : ET} {F : FT} {fo : Option HS} (hC : Cx E F 11 cX12_keepsFound RX12 GT) (hO : Ro F rm_X12_keepsFound) (hR : RV E F fo) (hf : fo ≠ none) (t : Nat) (ht1 : kd t = 12) (ht2 : AL E t) (x1 : Int32) (σ : HS) (h : f_X12_keepsFound t x1 σ = fo) : G E F 0 [(0, .ref (E.2.2.1 t)), (1, .int x1)] [] σ := by
    refine g_lconst (v := 0) hC dX12_keepsFound_0 (by decide) ?_
    refine g_lstore_n (lv' := [(2, .long 0), (0, .ref (E.2.2.1 t)), (1, .int x1)]) hC dX12_keepsFound_1 rfl (by decide) rfl ?_
    refine g_lconst (v := 0) hC dX12_keepsFound_2 (by decide) ?_
    refine g_lstore (lv' := [(4, .long 0), (2, .long 0), (0, .ref (E.2.2.1 t)), (1, .int x1)]) hC dX12_keepsFound_3 (by decide) rfl ?_
    refine g_iconst (v := 0) hC dX12_keepsFound_5 (by decide) ?_
    refine g_istore (lv' := [(6, .int 0), (4, .long 0), (2, .long 0), (0, .ref (E.2.2.1 t)), (1, .int x1)]) hC dX12_keepsFound_6 (by decide) rfl ?_
    exact g_sub [3, 4, 2, 1, 0] rfl (k_X12_keepsFound_8 hC hO hR hf t ht1 ht2 x1 FU 0 0 0 σ h)
theorem xk_X12_keepsFound (R : Room) (h1 : 1 + 1 ≤ R.frames) (h2 : 83 ≤ R.locals) : xw R yX12_keepsFound w_X12_keepsFound GT cX12_keepsFound 11 none rm_X12_keepsFound 1 := ⟨rfl, rfl, rfl, h1, h2, ⟨by decide, by decide⟩, by decide +kernel⟩
theorem c_X12_keepsFound (E : ET) (hE : EO E) (t : Nat) (ht1 : kd t = 12) (ht2 : AL E t) (x1 : Int32) (σ : HS) (hn : f_X12_keepsFound t x1 σ ≠ none) : CoV E yX12_keepsFound w_X12_keepsFound rm_X12_keepsFound [.ref (E.2.2.1 t), .int x1] σ (f_X12_keepsFound t x1 σ) := CoV.of (lv := [(0, .ref (E.2.2.1 t)), (1, .int x1)]) hE (plainFor_of_name (by decide)) rfl (Nat.le_of_ble_eq_true rfl) rfl (fun F hC hO hR => k_X12_keepsFound_0 hC hO hR hn t ht1 ht2 x1 σ rfl)
def rm_X12_findCorners : Room := { frames := 3, cells := 0, slots := 0, locals := 119 }
theorem fl_X12_115 : Cond.fieldLink RX12 115 "EveryMeasureModel" (TX12 29).2.1 (TX12 29).2.2.1 ∈ GT := gtr_10 _ (List.mem_of_getElem? (i := 5) rfl)
theorem wc_X12_crosses : Cond.code yX12_crosses cX12_crosses 5 none ∈ GT := gtr_33 _ (List.mem_of_getElem? (i := 19) rfl)
theorem gc_X12_288 : GoodIn GT (wsV RX12 288 RX12 yX12_crosses w_X12_crosses) := gi_V (gtr_33 _ (List.mem_of_getElem? (i := 16) rfl)) (gtr_33 _ (List.mem_of_getElem? (i := 17) rfl)) (gtr_33 _ (List.mem_of_getElem? (i := 18) rfl)) (gtr_1 _ (List.mem_of_getElem? (i := 5) rfl)) wc_X12_crosses
theorem wc_X12_keepsFound : Cond.code yX12_keepsFound cX12_keepsFound 11 none ∈ GT := gtr_34 _ (List.mem_of_getElem? (i := 6) rfl)
theorem gc_X12_292 : GoodIn GT (wsV RX12 292 RX12 yX12_keepsFound w_X12_keepsFound) := gi_V (gtr_34 _ (List.mem_of_getElem? (i := 3) rfl)) (gtr_34 _ (List.mem_of_getElem? (i := 4) rfl)) (gtr_34 _ (List.mem_of_getElem? (i := 5) rfl)) (gtr_1 _ (List.mem_of_getElem? (i := 5) rfl)) wc_X12_keepsFound
set_option maxHeartbeats 4000000 in
set_option maxRecDepth 100000 in
theorem k_X12_findCorners_90 {E : ET} {F : FT} {fo : Option HS} (hC : Cx E F 4 cX12_findCorners RX12 GT) (hO : Ro F rm_X12_findCorners) (hR : RV E F fo) (hf : fo ≠ none) (t : Nat) (ht1 : kd t = 12) (ht2 : AL E t) (x1 : Int32) (x2 : Int32) (x3 : Int32) (s0 : Int32) (s1 : Int32) (r9 : Int32 → HS → Option HS) (h9 : ∀ (x1 : Int32) (σ : HS), r9 x1 σ = fo → G E F 9 [(0, .ref (E.2.2.1 t)), (1, .int x1)] [] σ) (r33 : Int32 → HS → Option HS) (h33 : ∀ (x2 : Int32) (σ : HS), r33 x2 σ = fo → G E F 33 [(0, .ref (E.2.2.1 t)), (1, .int x1), (2, .int x2)] [] σ) (r71 : Int32 → HS → Option HS) (h71 : ∀ (x3 : Int32) (σ : HS), r71 x3 σ = fo → G E F 71 [(0, .ref (E.2.2.1 t)), (1, .int x1), (2, .int x2), (3, .int x3)] [] σ) (σ : HS) (h : f_X12_findCorners_90 r9 r33 r71 t x1 x2 x3 s0 s1 σ = fo) : G E F 90 [(0, .ref (E.2.2.1 t)), (1, .int x1), (2, .int x2), (3, .int x3)] [.int s0, .int s1] σ := by
    refine g_icmp_ge (tgt := 111) hC dX12_findCorners_90 (by decide) h (fun c90 h => ?_) (fun c90 h => ?_)
    · refine g_iinc (v := x2 + 1) (lv' := [(2, .int (x2 + 1)), (0, .ref (E.2.2.1 t)), (1, .int x1), (3, .int x3)]) hC dX12_findCorners_111 2 rfl rfl (by decide) rfl ?_
      refine g_goto (tgt := 33) hC dX12_findCorners_114 (by decide) ?_
      exact g_sub [1, 2, 0] rfl (h33 (x2 + 1) σ h)
    · refine g_aload_n hC dX12_findCorners_93 rfl 0 rfl ?_
      refine g_iload_n hC dX12_findCorners_94 rfl 1 rfl ?_
      refine g_iload_n hC dX12_findCorners_95 rfl 2 rfl ?_
      refine g_iload_n hC dX12_findCorners_96 rfl 3 rfl ?_
      obtain ⟨q1, hq1, h⟩ := bd_of h hf
      refine g_cVV (As := [.int x1, .int x2, .int x3]) hC hO (c_X12_crosses _ hC.2.2.2.2.2.2.1 t ht1 ht2 x1 x2 x3 σ (nn_of hq1)) gc_X12_288 (xk_X12_crosses _ (Nat.le_of_ble_eq_true rfl) (Nat.le_of_ble_eq_true rfl)) cr12 ht1 ht2 rfl (Nat.le_of_ble_eq_true rfl) dX12_findCorners_97 hq1 ?_
      refine g_aload_n hC dX12_findCorners_100 rfl 0 rfl ?_
      refine g_iconst (v := 0) hC dX12_findCorners_101 (by decide) ?_
      obtain ⟨q2, hq2, h⟩ := bd_of h hf
      refine g_cVV (As := [.int 0]) hC hO (c_X12_keepsFound _ hC.2.2.2.2.2.2.1 t ht1 ht2 0 q1 (nn_of hq2)) gc_X12_292 (xk_X12_keepsFound _ (Nat.le_of_ble_eq_true rfl) (Nat.le_of_ble_eq_true rfl)) cr12 ht1 ht2 rfl (Nat.le_of_ble_eq_true rfl) dX12_findCorners_102 hq2 ?_
      refine g_iinc (v := x3 + 1) (lv' := [(3, .int (x3 + 1)), (0, .ref (E.2.2.1 t)), (1, .int x1), (2, .int x2)]) hC dX12_findCorners_105 3 rfl rfl (by decide) rfl ?_
      refine g_goto (tgt := 71) hC dX12_findCorners_108 (by decide) ?_
      exact g_sub [1, 2, 3, 0] rfl (h71 (x3 + 1) q2 h)
set_option maxHeartbeats 4000000 in
set_option maxRecDepth 100000 in
theorem k_X12_findCorners_71 {E : ET} {F : FT} {fo : Option HS} (hC : Cx E F 4 cX12_findCorners RX12 GT) (hO : Ro F rm_X12_findCorners) (hR : RV E F fo) (hf : fo ≠ none) (t : Nat) (ht1 : kd t = 12) (ht2 : AL E t) (x1 : Int32) (x2 : Int32) (r9 : Int32 → HS → Option HS) (h9 : ∀ (x1 : Int32) (σ : HS), r9 x1 σ = fo → G E F 9 [(0, .ref (E.2.2.1 t)), (1, .int x1)] [] σ) (r33 : Int32 → HS → Option HS) (h33 : ∀ (x2 : Int32) (σ : HS), r33 x2 σ = fo → G E F 33 [(0, .ref (E.2.2.1 t)), (1, .int x1), (2, .int x2)] [] σ) : ∀ (n : Nat) (x3 : Int32) (σ : HS), f_X12_findCorners_71 t x1 x2 r9 r33 n x3 σ = fo → G E F 71 [(0, .ref (E.2.2.1 t)), (1, .int x1), (2, .int x2), (3, .int x3)] [] σ := by
  intro n
  induction n with
  | zero =>
    intro x3 σ h
    exact absurd (h.symm.trans rfl) hf
  | succ n ih =>
    intro x3 σ h
    refine g_iload_n hC dX12_findCorners_71 rfl 3 rfl ?_
    refine g_aload_n hC dX12_findCorners_72 rfl 0 rfl ?_
    refine g_getI (k := 20) hC cr12 ui_12 ht1 ht2 (by decide) fl_X12_193 rfl rfl dX12_findCorners_73 ?_
    refine g_iconst (v := 4) hC dX12_findCorners_76 (by decide) ?_
    refine g_icmp_ge (tgt := 86) hC dX12_findCorners_77 (by decide) h (fun c77 h => ?_) (fun c77 h => ?_)
    · refine g_aload_n hC dX12_findCorners_86 rfl 0 rfl ?_
      refine g_getI (k := 26) hC cr12 ui_12 ht1 ht2 (by decide) fl_X12_229 rfl rfl dX12_findCorners_87 ?_
      exact g_sub [0, 1, 2, 3] rfl (k_X12_findCorners_90 hC hO hR hf t ht1 ht2 x1 x2 x3 (σ.1 t 26) x3 r9 h9 r33 h33 (f_X12_findCorners_71 t x1 x2 r9 r33 n) ih σ h)
    · refine g_iload_n hC dX12_findCorners_80 rfl 2 rfl ?_
      refine g_iconst (v := 1) hC dX12_findCorners_81 (by decide) ?_
      refine g_iadd hC dX12_findCorners_82 ?_
      refine g_goto (tgt := 90) hC dX12_findCorners_83 (by decide) ?_
      exact g_sub [0, 1, 2, 3] rfl (k_X12_findCorners_90 hC hO hR hf t ht1 ht2 x1 x2 x3 (x2 + 1) x3 r9 h9 r33 h33 (f_X12_findCorners_71 t x1 x2 r9 r33 n) ih σ h)
set_option maxHeartbeats 4000000 in
set_option maxRecDepth 100000 in
theorem k_X12_findCorners_70 {E : ET} {F : FT} {fo : Option HS} (hC : Cx E F 4 cX12_findCorners RX12 GT) (hO : Ro F rm_X12_findCorners) (hR : RV E F fo) (hf : fo ≠ none) (t : Nat) (ht1 : kd t = 12) (ht2 : AL E t) (x1 : Int32) (x2 : Int32) (s0 : Int32) (r9 : Int32 → HS → Option HS) (h9 : ∀ (x1 : Int32) (σ : HS), r9 x1 σ = fo → G E F 9 [(0, .ref (E.2.2.1 t)), (1, .int x1)] [] σ) (r33 : Int32 → HS → Option HS) (h33 : ∀ (x2 : Int32) (σ : HS), r33 x2 σ = fo → G E F 33 [(0, .ref (E.2.2.1 t)), (1, .int x1), (2, .int x2)] [] σ) (σ : HS) (h : f_X12_findCorners_70 r9 r33 t x1 x2 s0 σ = fo) : G E F 70 [(0, .ref (E.2.2.1 t)), (1, .int x1), (2, .int x2)] [.int s0] σ := by
    refine g_istore_n (lv' := [(3, .int s0), (0, .ref (E.2.2.1 t)), (1, .int x1), (2, .int x2)]) hC dX12_findCorners_70 rfl (by decide) rfl ?_
    exact g_sub [1, 2, 3, 0] rfl (k_X12_findCorners_71 hC hO hR hf t ht1 ht2 x1 x2 r9 h9 r33 h33 FU s0 σ h)
set_option maxHeartbeats 4000000 in
set_option maxRecDepth 100000 in
theorem k_X12_findCorners_52 {E : ET} {F : FT} {fo : Option HS} (hC : Cx E F 4 cX12_findCorners RX12 GT) (hO : Ro F rm_X12_findCorners) (hR : RV E F fo) (hf : fo ≠ none) (t : Nat) (ht1 : kd t = 12) (ht2 : AL E t) (x1 : Int32) (x2 : Int32) (s0 : Int32) (s1 : Int32) (r9 : Int32 → HS → Option HS) (h9 : ∀ (x1 : Int32) (σ : HS), r9 x1 σ = fo → G E F 9 [(0, .ref (E.2.2.1 t)), (1, .int x1)] [] σ) (r33 : Int32 → HS → Option HS) (h33 : ∀ (x2 : Int32) (σ : HS), r33 x2 σ = fo → G E F 33 [(0, .ref (E.2.2.1 t)), (1, .int x1), (2, .int x2)] [] σ) (σ : HS) (h : f_X12_findCorners_52 r9 r33 t x1 x2 s0 s1 σ = fo) : G E F 52 [(0, .ref (E.2.2.1 t)), (1, .int x1), (2, .int x2)] [.int s0, .int s1] σ := by
    refine g_icmp_ge (tgt := 117) hC dX12_findCorners_52 (by decide) h (fun c52 h => ?_) (fun c52 h => ?_)
    · refine g_iinc (v := x1 + 1) (lv' := [(1, .int (x1 + 1)), (0, .ref (E.2.2.1 t)), (2, .int x2)]) hC dX12_findCorners_117 1 rfl rfl (by decide) rfl ?_
      refine g_goto (tgt := 9) hC dX12_findCorners_120 (by decide) ?_
      exact g_sub [1, 0] rfl (h9 (x1 + 1) σ h)
    · refine g_aload_n hC dX12_findCorners_55 rfl 0 rfl ?_
      refine g_getI (k := 20) hC cr12 ui_12 ht1 ht2 (by decide) fl_X12_193 rfl rfl dX12_findCorners_56 ?_
      refine g_iconst (v := 4) hC dX12_findCorners_59 (by decide) ?_
      refine g_icmp_ge (tgt := 67) hC dX12_findCorners_60 (by decide) h (fun c60 h => ?_) (fun c60 h => ?_)
      · refine g_iload_n hC dX12_findCorners_67 rfl 2 rfl ?_
        refine g_iconst (v := 1) hC dX12_findCorners_68 (by decide) ?_
        refine g_iadd hC dX12_findCorners_69 ?_
        exact g_sub [0, 1, 2] rfl (k_X12_findCorners_70 hC hO hR hf t ht1 ht2 x1 x2 (x2 + 1) r9 h9 r33 h33 σ h)
      · refine g_iload_n hC dX12_findCorners_63 rfl 2 rfl ?_
        refine g_goto (tgt := 70) hC dX12_findCorners_64 (by decide) ?_
        exact g_sub [0, 1, 2] rfl (k_X12_findCorners_70 hC hO hR hf t ht1 ht2 x1 x2 x2 r9 h9 r33 h33 σ h)
set_option maxHeartbeats 4000000 in
set_option maxRecDepth 100000 in
theorem k_X12_findCorners_33 {E : ET} {F : FT} {fo : Option HS} (hC : Cx E F 4 cX12_findCorners RX12 GT) (hO : Ro F rm_X12_findCorners) (hR : RV E F fo) (hf : fo ≠ none) (t : Nat) (ht1 : kd t = 12) (ht2 : AL E t) (x1 : Int32) (r9 : Int32 → HS → Option HS) (h9 : ∀ (x1 : Int32) (σ : HS), r9 x1 σ = fo → G E F 9 [(0, .ref (E.2.2.1 t)), (1, .int x1)] [] σ) : ∀ (n : Nat) (x2 : Int32) (σ : HS), f_X12_findCorners_33 t x1 r9 n x2 σ = fo → G E F 33 [(0, .ref (E.2.2.1 t)), (1, .int x1), (2, .int x2)] [] σ := by
  intro n
  induction n with
  | zero =>
    intro x2 σ h
    exact absurd (h.symm.trans rfl) hf
  | succ n ih =>
    intro x2 σ h
    refine g_iload_n hC dX12_findCorners_33 rfl 2 rfl ?_
    refine g_aload_n hC dX12_findCorners_34 rfl 0 rfl ?_
    refine g_getI (k := 20) hC cr12 ui_12 ht1 ht2 (by decide) fl_X12_193 rfl rfl dX12_findCorners_35 ?_
    refine g_iconst (v := 3) hC dX12_findCorners_38 (by decide) ?_
    refine g_icmp_ge (tgt := 48) hC dX12_findCorners_39 (by decide) h (fun c39 h => ?_) (fun c39 h => ?_)
    · refine g_aload_n hC dX12_findCorners_48 rfl 0 rfl ?_
      refine g_getI (k := 26) hC cr12 ui_12 ht1 ht2 (by decide) fl_X12_229 rfl rfl dX12_findCorners_49 ?_
      exact g_sub [0, 1, 2] rfl (k_X12_findCorners_52 hC hO hR hf t ht1 ht2 x1 x2 (σ.1 t 26) x2 r9 h9 (f_X12_findCorners_33 t x1 r9 n) ih σ h)
    · refine g_iload_n hC dX12_findCorners_42 rfl 1 rfl ?_
      refine g_iconst (v := 1) hC dX12_findCorners_43 (by decide) ?_
      refine g_iadd hC dX12_findCorners_44 ?_
      refine g_goto (tgt := 52) hC dX12_findCorners_45 (by decide) ?_
      exact g_sub [0, 1, 2] rfl (k_X12_findCorners_52 hC hO hR hf t ht1 ht2 x1 x2 (x1 + 1) x2 r9 h9 (f_X12_findCorners_33 t x1 r9 n) ih σ h)
set_option maxHeartbeats 4000000 in
set_option maxRecDepth 100000 in
theorem k_X12_findCorners_32 {E : ET} {F : FT} {fo : Option HS} (hC : Cx E F 4 cX12_findCorners RX12 GT) (hO : Ro F rm_X12_findCorners) (hR : RV E F fo) (hf : fo ≠ none) (t : Nat) (ht1 : kd t = 12) (ht2 : AL E t) (x1 : Int32) (s0 : Int32) (r9 : Int32 → HS → Option HS) (h9 : ∀ (x1 : Int32) (σ : HS), r9 x1 σ = fo → G E F 9 [(0, .ref (E.2.2.1 t)), (1, .int x1)] [] σ) (σ : HS) (h : f_X12_findCorners_32 r9 t x1 s0 σ = fo) : G E F 32 [(0, .ref (E.2.2.1 t)), (1, .int x1)] [.int s0] σ := by
    refine g_istore_n (lv' := [(2, .int s0), (0, .ref (E.2.2.1 t)), (1, .int x1)]) hC dX12_findCorners_32 rfl (by decide) rfl ?_
    exact g_sub [1, 2, 0] rfl (k_X12_findCorners_33 hC hO hR hf t ht1 ht2 x1 r9 h9 FU s0 σ h)
set_option maxHeartbeats 4000000 in
set_option maxRecDepth 100000 in
theorem k_X12_findCorners_9 {E : ET} {F : FT} {fo : Option HS} (hC : Cx E F 4 cX12_findCorners RX12 GT) (hO : Ro F rm_X12_findCorners) (hR : RV E F fo) (hf : fo ≠ none) (t : Nat) (ht1 : kd t = 12) (ht2 : AL E t) : ∀ (n : Nat) (x1 : Int32) (σ : HS), f_X12_findCorners_9 t n x1 σ = fo → G E F 9 [(0, .ref (E.2.2.1 t)), (1, .int x1)] [] σ := by
  intro n
  induction n with
  | zero =>
    intro x1 σ h
    exact absurd (h.symm.trans rfl) hf
  | succ n ih =>
    intro x1 σ h
    refine g_iload_n hC dX12_findCorners_9 rfl 1 rfl ?_
    refine g_aload_n hC dX12_findCorners_10 rfl 0 rfl ?_
    refine g_getI (k := 26) hC cr12 ui_12 ht1 ht2 (by decide) fl_X12_229 rfl rfl dX12_findCorners_11 ?_
    refine g_icmp_ge (tgt := 123) hC dX12_findCorners_14 (by decide) h (fun c14 h => ?_) (fun c14 h => ?_)
    · refine g_aload_n hC dX12_findCorners_123 rfl 0 rfl ?_
      refine g_getR (cj := 14) (k := 29) hC cr12 ui_12 ht1 ht2 (by decide) fl_X12_115 rfl rfl dX12_findCorners_124 h hf (fun a1 ea1 ka1 na1 h => ?_)
      refine g_iconst (v := 0) hC dX12_findCorners_127 (by decide) ?_
      refine g_aload_n hC dX12_findCorners_128 rfl 0 rfl ?_
      refine g_getI (k := 26) hC cr12 ui_12 ht1 ht2 (by decide) fl_X12_229 rfl rfl dX12_findCorners_129 ?_
      refine g_iast hC ka1 na1 dX12_findCorners_132 h hf (fun h => ?_)
      exact g_vret hC hR dX12_findCorners_133 h
    · refine g_aload_n hC dX12_findCorners_17 rfl 0 rfl ?_
      refine g_getI (k := 20) hC cr12 ui_12 ht1 ht2 (by decide) fl_X12_193 rfl rfl dX12_findCorners_18 ?_
      refine g_iconst (v := 3) hC dX12_findCorners_21 (by decide) ?_
      refine g_icmp_ge (tgt := 29) hC dX12_findCorners_22 (by decide) h (fun c22 h => ?_) (fun c22 h => ?_)
      · refine g_iload_n hC dX12_findCorners_29 rfl 1 rfl ?_
        refine g_iconst (v := 1) hC dX12_findCorners_30 (by decide) ?_
        refine g_iadd hC dX12_findCorners_31 ?_
        exact g_sub [0, 1] rfl (k_X12_findCorners_32 hC hO hR hf t ht1 ht2 x1 (x1 + 1) (f_X12_findCorners_9 t n) ih σ h)
      · refine g_iload_n hC dX12_findCorners_25 rfl 1 rfl ?_
        refine g_goto (tgt := 32) hC dX12_findCorners_26 (by decide) ?_
        exact g_sub [0, 1] rfl (k_X12_findCorners_32 hC hO hR hf t ht1 ht2 x1 x1 (f_X12_findCorners_9 t n) ih σ h)
set_option maxHeartbeats 4000000 in
set_option maxRecDepth 100000 in
theorem k_X12_findCorners_0 {E : ET} {F : FT} {fo : Option HS} (hC : Cx E F 4 cX12_findCorners RX12 GT) (hO : Ro F rm_X12_findCorners) (hR : RV E F fo) (hf : fo ≠ none) (t : Nat) (ht1 : kd t = 12) (ht2 : AL E t) (σ : HS) (h : f_X12_findCorners t σ = fo) : G E F 0 [(0, .ref (E.2.2.1 t))] [] σ := by
    refine g_aload_n hC dX12_findCorners_0 rfl 0 rfl ?_
    refine g_getR (cj := 14) (k := 28) hC cr12 ui_12 ht1 ht2 (by decide) fl_X12_112 rfl rfl dX12_findCorners_1 h hf (fun a1 ea1 ka1 na1 h => ?_)
    refine g_iconst (v := 0) hC dX12_findCorners_4 (by decide) ?_
    refine g_iconst (v := 0) hC dX12_findCorners_5 (by decide) ?_
    refine g_iast hC ka1 na1 dX12_findCorners_6 h hf (fun h => ?_)
    refine g_iconst (v := 0) hC dX12_findCorners_7 (by decide) ?_
    refine g_istore_n (lv' := [(1, .int 0), (0, .ref (E.2.2.1 t))]) hC dX12_findCorners_8 rfl (by decide) rfl ?_
    exact g_sub [1, 0] rfl (k_X12_findCorners_9 hC hO hR hf t ht1 ht2 FU 0 (sI σ a1 (0 : Int32).toNatClampNeg 0) h)
theorem xk_X12_findCorners (R : Room) (h1 : 3 + 1 ≤ R.frames) (h2 : 154 ≤ R.locals) : xw R yX12_findCorners w_X12_findCorners GT cX12_findCorners 4 none rm_X12_findCorners 0 := ⟨rfl, rfl, rfl, h1, h2, ⟨by decide, by decide⟩, by decide +kernel⟩
theorem c_X12_findCorners (E : ET) (hE : EO E) (t : Nat) (ht1 : kd t = 12) (ht2 : AL E t) (σ : HS) (hn : f_X12_findCorners t σ ≠ none) : CoV E yX12_findCorners w_X12_findCorners rm_X12_findCorners [.ref (E.2.2.1 t)] σ (f_X12_findCorners t σ) := CoV.of (lv := [(0, .ref (E.2.2.1 t))]) hE (plainFor_of_name (by decide)) rfl (Nat.le_of_ble_eq_true rfl) rfl (fun F hC hO hR => k_X12_findCorners_0 hC hO hR hn t ht1 ht2 σ rfl)
def rm_X12_findMore : Room := { frames := 3, cells := 0, slots := 0, locals := 119 }
set_option maxHeartbeats 4000000 in
set_option maxRecDepth 100000 in
theorem k_X12_findMore_250 {E : ET} {F : FT} {fo : Option HS} (hC : Cx E F 6 cX12_findMore RX12 GT) (hO : Ro F rm_X12_findMore) (hR : RV E F fo) (hf : fo ≠ none) (t : Nat) (ht1 : kd t = 12) (ht2 : AL E t) (x1 : Int32) (σ : HS) (h : f_X12_findMore_250 t x1 σ = fo) : G E F 250 [(0, .ref (E.2.2.1 t)), (1, .int x1)] [] σ := by
    refine g_aload_n hC dX12_findMore_250 rfl 0 rfl ?_
    refine g_getR (cj := 14) (k := 29) hC cr12 ui_12 ht1 ht2 (by decide) fl_X12_115 rfl rfl dX12_findMore_251 h hf (fun a1 ea1 ka1 na1 h => ?_)
    refine g_iload_n hC dX12_findMore_254 rfl 1 rfl ?_
    refine g_aload_n hC dX12_findMore_255 rfl 0 rfl ?_
    refine g_getI (k := 26) hC cr12 ui_12 ht1 ht2 (by decide) fl_X12_229 rfl rfl dX12_findMore_256 ?_
    refine g_iast hC ka1 na1 dX12_findMore_259 h hf (fun h => ?_)
    exact g_vret hC hR dX12_findMore_260 h
set_option maxHeartbeats 4000000 in
set_option maxRecDepth 100000 in
theorem k_X12_findMore_233 {E : ET} {F : FT} {fo : Option HS} (hC : Cx E F 6 cX12_findMore RX12 GT) (hO : Ro F rm_X12_findMore) (hR : RV E F fo) (hf : fo ≠ none) (t : Nat) (ht1 : kd t = 12) (ht2 : AL E t) (x1 : Int32) (x2 : Int32) (x3 : Int32) (x4 : Int32) (x5 : Int32) (r128 : Int32 → HS → Option HS) (h128 : ∀ (x4 : Int32) (σ : HS), r128 x4 σ = fo → G E F 128 [(0, .ref (E.2.2.1 t)), (1, .int x1), (2, .int x2), (3, .int x3), (4, .int x4)] [] σ) (r165 : Int32 → HS → Option HS) (h165 : ∀ (x5 : Int32) (σ : HS), r165 x5 σ = fo → G E F 165 [(0, .ref (E.2.2.1 t)), (1, .int x1), (2, .int x2), (3, .int x3), (4, .int x4), (5, .int x5)] [] σ) (σ : HS) (h : f_X12_findMore_233 r128 r165 t x1 x2 x3 x4 x5 σ = fo) : G E F 233 [(0, .ref (E.2.2.1 t)), (1, .int x1), (2, .int x2), (3, .int x3), (4, .int x4), (5, .int x5)] [] σ := by
    refine g_aload_n hC dX12_findMore_233 rfl 0 rfl ?_
    refine g_iload_n hC dX12_findMore_234 rfl 1 rfl ?_
    obtain ⟨q1, hq1, h⟩ := bd_of h hf
    refine g_cVV (As := [.int x1]) hC hO (c_X12_keepsFound _ hC.2.2.2.2.2.2.1 t ht1 ht2 x1 σ (nn_of hq1)) gc_X12_292 (xk_X12_keepsFound _ (Nat.le_of_ble_eq_true rfl) (Nat.le_of_ble_eq_true rfl)) cr12 ht1 ht2 rfl (Nat.le_of_ble_eq_true rfl) dX12_findMore_235 hq1 ?_
    refine g_iinc (v := x5 + 1) (lv' := [(5, .int (x5 + 1)), (0, .ref (E.2.2.1 t)), (1, .int x1), (2, .int x2), (3, .int x3), (4, .int x4)]) hC dX12_findMore_238 5 rfl rfl (by decide) rfl ?_
    refine g_goto (tgt := 165) hC dX12_findMore_241 (by decide) ?_
    exact g_sub [1, 2, 3, 4, 5, 0] rfl (h165 (x5 + 1) q1 h)
set_option maxHeartbeats 4000000 in
set_option maxRecDepth 100000 in
theorem k_X12_findMore_183 {E : ET} {F : FT} {fo : Option HS} (hC : Cx E F 6 cX12_findMore RX12 GT) (hO : Ro F rm_X12_findMore) (hR : RV E F fo) (hf : fo ≠ none) (t : Nat) (ht1 : kd t = 12) (ht2 : AL E t) (x1 : Int32) (x2 : Int32) (x3 : Int32) (x4 : Int32) (x5 : Int32) (s0 : Int32) (s1 : Int32) (r128 : Int32 → HS → Option HS) (h128 : ∀ (x4 : Int32) (σ : HS), r128 x4 σ = fo → G E F 128 [(0, .ref (E.2.2.1 t)), (1, .int x1), (2, .int x2), (3, .int x3), (4, .int x4)] [] σ) (r165 : Int32 → HS → Option HS) (h165 : ∀ (x5 : Int32) (σ : HS), r165 x5 σ = fo → G E F 165 [(0, .ref (E.2.2.1 t)), (1, .int x1), (2, .int x2), (3, .int x3), (4, .int x4), (5, .int x5)] [] σ) (σ : HS) (h : f_X12_findMore_183 r128 r165 t x1 x2 x3 x4 x5 s0 s1 σ = fo) : G E F 183 [(0, .ref (E.2.2.1 t)), (1, .int x1), (2, .int x2), (3, .int x3), (4, .int x4), (5, .int x5)] [.int s0, .int s1] σ := by
    refine g_icmp_ge (tgt := 244) hC dX12_findMore_183 (by decide) h (fun c183 h => ?_) (fun c183 h => ?_)
    · refine g_iinc (v := x4 + 1) (lv' := [(4, .int (x4 + 1)), (0, .ref (E.2.2.1 t)), (1, .int x1), (2, .int x2), (3, .int x3), (5, .int x5)]) hC dX12_findMore_244 4 rfl rfl (by decide) rfl ?_
      refine g_goto (tgt := 128) hC dX12_findMore_247 (by decide) ?_
      exact g_sub [1, 2, 3, 4, 0] rfl (h128 (x4 + 1) σ h)
    · refine g_aload_n hC dX12_findMore_186 rfl 0 rfl ?_
      refine g_getI (k := 20) hC cr12 ui_12 ht1 ht2 (by decide) fl_X12_193 rfl rfl dX12_findMore_187 ?_
      refine g_iconst (v := 2) hC dX12_findMore_190 (by decide) ?_
      refine g_icmp_ne (tgt := 204) hC dX12_findMore_191 (by decide) h (fun c191 h => ?_) (fun c191 h => ?_)
      · refine g_aload_n hC dX12_findMore_204 rfl 0 rfl ?_
        refine g_getI (k := 20) hC cr12 ui_12 ht1 ht2 (by decide) fl_X12_193 rfl rfl dX12_findMore_205 ?_
        refine g_iconst (v := 3) hC dX12_findMore_208 (by decide) ?_
        refine g_icmp_ne (tgt := 224) hC dX12_findMore_209 (by decide) h (fun c209 h => ?_) (fun c209 h => ?_)
        · refine g_aload_n hC dX12_findMore_224 rfl 0 rfl ?_
          refine g_iload_n hC dX12_findMore_225 rfl 2 rfl ?_
          refine g_iload hC dX12_findMore_226 4 rfl ?_
          refine g_iload hC dX12_findMore_228 5 rfl ?_
          obtain ⟨q1, hq1, h⟩ := bd_of h hf
          refine g_cVV (As := [.int x2, .int x4, .int x5]) hC hO (c_X12_crosses _ hC.2.2.2.2.2.2.1 t ht1 ht2 x2 x4 x5 σ (nn_of hq1)) gc_X12_288 (xk_X12_crosses _ (Nat.le_of_ble_eq_true rfl) (Nat.le_of_ble_eq_true rfl)) cr12 ht1 ht2 rfl (Nat.le_of_ble_eq_true rfl) dX12_findMore_230 hq1 ?_
          exact g_sub [0, 1, 2, 3, 4, 5] rfl (k_X12_findMore_233 hC hO hR hf t ht1 ht2 x1 x2 x3 x4 x5 r128 h128 r165 h165 q1 h)
        · refine g_aload_n hC dX12_findMore_212 rfl 0 rfl ?_
          refine g_iload_n hC dX12_findMore_213 rfl 2 rfl ?_
          refine g_iload hC dX12_findMore_214 4 rfl ?_
          refine g_iload hC dX12_findMore_216 4 rfl ?_
          obtain ⟨q2, hq2, h⟩ := bd_of h hf
          refine g_cVV (As := [.int x2, .int x4, .int x4]) hC hO (c_X12_crosses _ hC.2.2.2.2.2.2.1 t ht1 ht2 x2 x4 x4 σ (nn_of hq2)) gc_X12_288 (xk_X12_crosses _ (Nat.le_of_ble_eq_true rfl) (Nat.le_of_ble_eq_true rfl)) cr12 ht1 ht2 rfl (Nat.le_of_ble_eq_true rfl) dX12_findMore_218 hq2 ?_
          refine g_goto (tgt := 233) hC dX12_findMore_221 (by decide) ?_
          exact g_sub [0, 1, 2, 3, 4, 5] rfl (k_X12_findMore_233 hC hO hR hf t ht1 ht2 x1 x2 x3 x4 x5 r128 h128 r165 h165 q2 h)
      · refine g_aload_n hC dX12_findMore_194 rfl 0 rfl ?_
        refine g_iload_n hC dX12_findMore_195 rfl 2 rfl ?_
        refine g_iload_n hC dX12_findMore_196 rfl 2 rfl ?_
        refine g_iload_n hC dX12_findMore_197 rfl 2 rfl ?_
        obtain ⟨q3, hq3, h⟩ := bd_of h hf
        refine g_cVV (As := [.int x2, .int x2, .int x2]) hC hO (c_X12_crosses _ hC.2.2.2.2.2.2.1 t ht1 ht2 x2 x2 x2 σ (nn_of hq3)) gc_X12_288 (xk_X12_crosses _ (Nat.le_of_ble_eq_true rfl) (Nat.le_of_ble_eq_true rfl)) cr12 ht1 ht2 rfl (Nat.le_of_ble_eq_true rfl) dX12_findMore_198 hq3 ?_
        refine g_goto (tgt := 233) hC dX12_findMore_201 (by decide) ?_
        exact g_sub [0, 1, 2, 3, 4, 5] rfl (k_X12_findMore_233 hC hO hR hf t ht1 ht2 x1 x2 x3 x4 x5 r128 h128 r165 h165 q3 h)
set_option maxHeartbeats 4000000 in
set_option maxRecDepth 100000 in
theorem k_X12_findMore_165 {E : ET} {F : FT} {fo : Option HS} (hC : Cx E F 6 cX12_findMore RX12 GT) (hO : Ro F rm_X12_findMore) (hR : RV E F fo) (hf : fo ≠ none) (t : Nat) (ht1 : kd t = 12) (ht2 : AL E t) (x1 : Int32) (x2 : Int32) (x3 : Int32) (x4 : Int32) (r128 : Int32 → HS → Option HS) (h128 : ∀ (x4 : Int32) (σ : HS), r128 x4 σ = fo → G E F 128 [(0, .ref (E.2.2.1 t)), (1, .int x1), (2, .int x2), (3, .int x3), (4, .int x4)] [] σ) : ∀ (n : Nat) (x5 : Int32) (σ : HS), f_X12_findMore_165 t x1 x2 x3 x4 r128 n x5 σ = fo → G E F 165 [(0, .ref (E.2.2.1 t)), (1, .int x1), (2, .int x2), (3, .int x3), (4, .int x4), (5, .int x5)] [] σ := by
  intro n
  induction n with
  | zero =>
    intro x5 σ h
    exact absurd (h.symm.trans rfl) hf
  | succ n ih =>
    intro x5 σ h
    refine g_iload hC dX12_findMore_165 5 rfl ?_
    refine g_aload_n hC dX12_findMore_167 rfl 0 rfl ?_
    refine g_getI (k := 20) hC cr12 ui_12 ht1 ht2 (by decide) fl_X12_193 rfl rfl dX12_findMore_168 ?_
    refine g_iconst (v := 4) hC dX12_findMore_171 (by decide) ?_
    refine g_icmp_ge (tgt := 182) hC dX12_findMore_172 (by decide) h (fun c172 h => ?_) (fun c172 h => ?_)
    · refine g_iload_n hC dX12_findMore_182 rfl 2 rfl ?_
      exact g_sub [0, 1, 2, 3, 4, 5] rfl (k_X12_findMore_183 hC hO hR hf t ht1 ht2 x1 x2 x3 x4 x5 x2 x5 r128 h128 (f_X12_findMore_165 t x1 x2 x3 x4 r128 n) ih σ h)
    · refine g_iload hC dX12_findMore_175 4 rfl ?_
      refine g_iconst (v := 1) hC dX12_findMore_177 (by decide) ?_
      refine g_iadd hC dX12_findMore_178 ?_
      refine g_goto (tgt := 183) hC dX12_findMore_179 (by decide) ?_
      exact g_sub [0, 1, 2, 3, 4, 5] rfl (k_X12_findMore_183 hC hO hR hf t ht1 ht2 x1 x2 x3 x4 x5 (x4 + 1) x5 r128 h128 (f_X12_findMore_165 t x1 x2 x3 x4 r128 n) ih σ h)
set_option maxHeartbeats 4000000 in
set_option maxRecDepth 100000 in
theorem k_X12_findMore_163 {E : ET} {F : FT} {fo : Option HS} (hC : Cx E F 6 cX12_findMore RX12 GT) (hO : Ro F rm_X12_findMore) (hR : RV E F fo) (hf : fo ≠ none) (t : Nat) (ht1 : kd t = 12) (ht2 : AL E t) (x1 : Int32) (x2 : Int32) (x3 : Int32) (x4 : Int32) (s0 : Int32) (r128 : Int32 → HS → Option HS) (h128 : ∀ (x4 : Int32) (σ : HS), r128 x4 σ = fo → G E F 128 [(0, .ref (E.2.2.1 t)), (1, .int x1), (2, .int x2), (3, .int x3), (4, .int x4)] [] σ) (σ : HS) (h : f_X12_findMore_163 r128 t x1 x2 x3 x4 s0 σ = fo) : G E F 163 [(0, .ref (E.2.2.1 t)), (1, .int x1), (2, .int x2), (3, .int x3), (4, .int x4)] [.int s0] σ := by
    refine g_istore (lv' := [(5, .int s0), (0, .ref (E.2.2.1 t)), (1, .int x1), (2, .int x2), (3, .int x3), (4, .int x4)]) hC dX12_findMore_163 (by decide) rfl ?_
    exact g_sub [1, 2, 3, 4, 5, 0] rfl (k_X12_findMore_165 hC hO hR hf t ht1 ht2 x1 x2 x3 x4 r128 h128 FU s0 σ h)
set_option maxHeartbeats 4000000 in
set_option maxRecDepth 100000 in
theorem k_X12_findMore_128 {E : ET} {F : FT} {fo : Option HS} (hC : Cx E F 6 cX12_findMore RX12 GT) (hO : Ro F rm_X12_findMore) (hR : RV E F fo) (hf : fo ≠ none) (t : Nat) (ht1 : kd t = 12) (ht2 : AL E t) (x1 : Int32) (x2 : Int32) (x3 : Int32) : ∀ (n : Nat) (x4 : Int32) (σ : HS), f_X12_findMore_128 t x1 x2 x3 n x4 σ = fo → G E F 128 [(0, .ref (E.2.2.1 t)), (1, .int x1), (2, .int x2), (3, .int x3), (4, .int x4)] [] σ := by
  intro n
  induction n with
  | zero =>
    intro x4 σ h
    exact absurd (h.symm.trans rfl) hf
  | succ n ih =>
    intro x4 σ h
    refine g_iload hC dX12_findMore_128 4 rfl ?_
    refine g_iload_n hC dX12_findMore_130 rfl 2 rfl ?_
    refine g_icmp_ge (tgt := 250) hC dX12_findMore_131 (by decide) h (fun c131 h => ?_) (fun c131 h => ?_)
    · exact g_sub [0, 1] rfl (k_X12_findMore_250 hC hO hR hf t ht1 ht2 x1 σ h)
    · refine g_iload_n hC dX12_findMore_134 rfl 3 rfl ?_
      refine g_if_ne (tgt := 250) hC dX12_findMore_135 (by decide) h (fun c135 h => ?_) (fun c135 h => ?_)
      · exact g_sub [0, 1] rfl (k_X12_findMore_250 hC hO hR hf t ht1 ht2 x1 σ h)
      · refine g_aload_n hC dX12_findMore_138 rfl 0 rfl ?_
        refine g_getI (k := 20) hC cr12 ui_12 ht1 ht2 (by decide) fl_X12_193 rfl rfl dX12_findMore_139 ?_
        refine g_iconst (v := 1) hC dX12_findMore_142 (by decide) ?_
        refine g_icmp_le (tgt := 250) hC dX12_findMore_143 (by decide) h (fun c143 h => ?_) (fun c143 h => ?_)
        · exact g_sub [0, 1] rfl (k_X12_findMore_250 hC hO hR hf t ht1 ht2 x1 σ h)
        · refine g_aload_n hC dX12_findMore_146 rfl 0 rfl ?_
          refine g_getI (k := 20) hC cr12 ui_12 ht1 ht2 (by decide) fl_X12_193 rfl rfl dX12_findMore_147 ?_
          refine g_iconst (v := 4) hC dX12_findMore_150 (by decide) ?_
          refine g_icmp_ge (tgt := 159) hC dX12_findMore_151 (by decide) h (fun c151 h => ?_) (fun c151 h => ?_)
          · refine g_iload hC dX12_findMore_159 4 rfl ?_
            refine g_iconst (v := 1) hC dX12_findMore_161 (by decide) ?_
            refine g_iadd hC dX12_findMore_162 ?_
            exact g_sub [0, 1, 2, 3, 4] rfl (k_X12_findMore_163 hC hO hR hf t ht1 ht2 x1 x2 x3 x4 (x4 + 1) (f_X12_findMore_128 t x1 x2 x3 n) ih σ h)
          · refine g_iload hC dX12_findMore_154 4 rfl ?_
            refine g_goto (tgt := 163) hC dX12_findMore_156 (by decide) ?_
            exact g_sub [0, 1, 2, 3, 4] rfl (k_X12_findMore_163 hC hO hR hf t ht1 ht2 x1 x2 x3 x4 x4 (f_X12_findMore_128 t x1 x2 x3 n) ih σ h)
set_option maxHeartbeats 4000000 in
set_option maxRecDepth 100000 in
theorem k_X12_findMore_124 {E : ET} {F : FT} {fo : Option HS} (hC : Cx E F 6 cX12_findMore RX12 GT) (hO : Ro F rm_X12_findMore) (hR : RV E F fo) (hf : fo ≠ none) (t : Nat) (ht1 : kd t = 12) (ht2 : AL E t) (x1 : Int32) (x2 : Int32) (s0 : Int32) (σ : HS) (h : f_X12_findMore_124 t x1 x2 s0 σ = fo) : G E F 124 [(0, .ref (E.2.2.1 t)), (1, .int x1), (2, .int x2)] [.int s0] σ := by
    refine g_istore_n (lv' := [(3, .int s0), (0, .ref (E.2.2.1 t)), (1, .int x1), (2, .int x2)]) hC dX12_findMore_124 rfl (by decide) rfl ?_
    refine g_iconst (v := 0) hC dX12_findMore_125 (by decide) ?_
    refine g_istore (lv' := [(4, .int 0), (3, .int s0), (0, .ref (E.2.2.1 t)), (1, .int x1), (2, .int x2)]) hC dX12_findMore_126 (by decide) rfl ?_
    exact g_sub [2, 3, 4, 1, 0] rfl (k_X12_findMore_128 hC hO hR hf t ht1 ht2 x1 x2 s0 FU 0 σ h)
set_option maxHeartbeats 4000000 in
set_option maxRecDepth 100000 in
theorem k_X12_findMore_119 {E : ET} {F : FT} {fo : Option HS} (hC : Cx E F 6 cX12_findMore RX12 GT) (hO : Ro F rm_X12_findMore) (hR : RV E F fo) (hf : fo ≠ none) (t : Nat) (ht1 : kd t = 12) (ht2 : AL E t) (x1 : Int32) (x2 : Int32) (σ : HS) (h : f_X12_findMore_119 t x1 x2 σ = fo) : G E F 119 [(0, .ref (E.2.2.1 t)), (1, .int x1), (2, .int x2)] [] σ := by
    refine g_iconst (v := 1) hC dX12_findMore_119 (by decide) ?_
    refine g_goto (tgt := 124) hC dX12_findMore_120 (by decide) ?_
    exact g_sub [0, 1, 2] rfl (k_X12_findMore_124 hC hO hR hf t ht1 ht2 x1 x2 1 σ h)
set_option maxHeartbeats 4000000 in
set_option maxRecDepth 100000 in
theorem k_X12_findMore_87 {E : ET} {F : FT} {fo : Option HS} (hC : Cx E F 6 cX12_findMore RX12 GT) (hO : Ro F rm_X12_findMore) (hR : RV E F fo) (hf : fo ≠ none) (t : Nat) (ht1 : kd t = 12) (ht2 : AL E t) (x1 : Int32) (x2 : Int32) (x3 : Int32) (r16 : Int32 → HS → Option HS) (h16 : ∀ (x3 : Int32) (σ : HS), r16 x3 σ = fo → G E F 16 [(0, .ref (E.2.2.1 t)), (1, .int x1), (2, .int x2), (3, .int x3)] [] σ) (σ : HS) (h : f_X12_findMore_87 r16 t x1 x2 x3 σ = fo) : G E F 87 [(0, .ref (E.2.2.1 t)), (1, .int x1), (2, .int x2), (3, .int x3)] [] σ := by
    refine g_iinc (v := x3 + 1) (lv' := [(3, .int (x3 + 1)), (0, .ref (E.2.2.1 t)), (1, .int x1), (2, .int x2)]) hC dX12_findMore_87 3 rfl rfl (by decide) rfl ?_
    refine g_goto (tgt := 16) hC dX12_findMore_90 (by decide) ?_
    exact g_sub [1, 2, 3, 0] rfl (h16 (x3 + 1) σ h)
set_option maxHeartbeats 4000000 in
set_option maxRecDepth 100000 in
theorem k_X12_findMore_45 {E : ET} {F : FT} {fo : Option HS} (hC : Cx E F 6 cX12_findMore RX12 GT) (hO : Ro F rm_X12_findMore) (hR : RV E F fo) (hf : fo ≠ none) (t : Nat) (ht1 : kd t = 12) (ht2 : AL E t) (x1 : Int32) (x2 : Int32) (x3 : Int32) (r16 : Int32 → HS → Option HS) (h16 : ∀ (x3 : Int32) (σ : HS), r16 x3 σ = fo → G E F 16 [(0, .ref (E.2.2.1 t)), (1, .int x1), (2, .int x2), (3, .int x3)] [] σ) : ∀ (n : Nat) (x4 : Int32) (σ : HS), f_X12_findMore_45 t x1 x2 x3 r16 n x4 σ = fo → G E F 45 [(0, .ref (E.2.2.1 t)), (1, .int x1), (2, .int x2), (3, .int x3), (4, .int x4)] [] σ := by
  intro n
  induction n with
  | zero =>
    intro x4 σ h
    exact absurd (h.symm.trans rfl) hf
  | succ n ih =>
    intro x4 σ h
    refine g_iload hC dX12_findMore_45 4 rfl ?_
    refine g_iconst (v := 4) hC dX12_findMore_47 (by decide) ?_
    refine g_icmp_ge (tgt := 82) hC dX12_findMore_48 (by decide) h (fun c48 h => ?_) (fun c48 h => ?_)
    · refine g_aload_n hC dX12_findMore_82 rfl 0 rfl ?_
      refine g_iload_n hC dX12_findMore_83 rfl 1 rfl ?_
      obtain ⟨q1, hq1, h⟩ := bd_of h hf
      refine g_cVV (As := [.int x1]) hC hO (c_X12_keepsFound _ hC.2.2.2.2.2.2.1 t ht1 ht2 x1 σ (nn_of hq1)) gc_X12_292 (xk_X12_keepsFound _ (Nat.le_of_ble_eq_true rfl) (Nat.le_of_ble_eq_true rfl)) cr12 ht1 ht2 rfl (Nat.le_of_ble_eq_true rfl) dX12_findMore_84 hq1 ?_
      exact g_sub [0, 1, 2, 3] rfl (k_X12_findMore_87 hC hO hR hf t ht1 ht2 x1 x2 x3 r16 h16 q1 h)
    · refine g_aload_n hC dX12_findMore_51 rfl 0 rfl ?_
      refine g_getR (cj := 15) (k := 31) hC cr12 ui_12 ht1 ht2 (by decide) fl_X12_121 rfl rfl dX12_findMore_52 h hf (fun a2 ea2 ka2 na2 h => ?_)
      refine g_iload hC dX12_findMore_55 4 rfl ?_
      refine g_aload_n hC dX12_findMore_57 rfl 0 rfl ?_
      refine g_getR (cj := 15) (k := 30) hC cr12 ui_12 ht1 ht2 (by decide) fl_X12_118 rfl rfl dX12_findMore_58 h hf (fun a3 ea3 ka3 na3 h => ?_)
      refine g_iconst (v := 4) hC dX12_findMore_61 (by decide) ?_
      refine g_bipush (v := 72) hC dX12_findMore_62 (by decide) ?_
      refine g_iload_n hC dX12_findMore_64 rfl 1 rfl ?_
      refine g_iconst (v := 1) hC dX12_findMore_65 (by decide) ?_
      refine g_isub hC dX12_findMore_66 ?_
      refine g_imul hC dX12_findMore_67 ?_
      refine g_iload_n hC dX12_findMore_68 rfl 3 rfl ?_
      refine g_iadd hC dX12_findMore_69 ?_
      refine g_imul hC dX12_findMore_70 ?_
      refine g_iload hC dX12_findMore_71 4 rfl ?_
      refine g_iadd hC dX12_findMore_73 ?_
      refine g_lald hC ka3 na3 dX12_findMore_74 h hf (fun h => ?_)
      refine g_last hC ka2 na2 dX12_findMore_75 h hf (fun h => ?_)
      refine g_iinc (v := x4 + 1) (lv' := [(4, .int (x4 + 1)), (0, .ref (E.2.2.1 t)), (1, .int x1), (2, .int x2), (3, .int x3)]) hC dX12_findMore_76 4 rfl rfl (by decide) rfl ?_
      refine g_goto (tgt := 45) hC dX12_findMore_79 (by decide) ?_
      exact g_sub [1, 2, 3, 4, 0] rfl (ih (x4 + 1) (sJ σ a2 x4.toNatClampNeg (σ.2.1 a3 (((4 : Int32) * (((72 : Int32) * (x1 - 1)) + x3)) + x4).toNatClampNeg)) h)
set_option maxHeartbeats 4000000 in
set_option maxRecDepth 100000 in
theorem k_X12_findMore_16 {E : ET} {F : FT} {fo : Option HS} (hC : Cx E F 6 cX12_findMore RX12 GT) (hO : Ro F rm_X12_findMore) (hR : RV E F fo) (hf : fo ≠ none) (t : Nat) (ht1 : kd t = 12) (ht2 : AL E t) (x1 : Int32) (x2 : Int32) : ∀ (n : Nat) (x3 : Int32) (σ : HS), f_X12_findMore_16 t x1 x2 n x3 σ = fo → G E F 16 [(0, .ref (E.2.2.1 t)), (1, .int x1), (2, .int x2), (3, .int x3)] [] σ := by
  intro n
  induction n with
  | zero =>
    intro x3 σ h
    exact absurd (h.symm.trans rfl) hf
  | succ n ih =>
    intro x3 σ h
    refine g_iload_n hC dX12_findMore_16 rfl 3 rfl ?_
    refine g_aload_n hC dX12_findMore_17 rfl 0 rfl ?_
    refine g_getR (cj := 14) (k := 28) hC cr12 ui_12 ht1 ht2 (by decide) fl_X12_112 rfl rfl dX12_findMore_18 h hf (fun a1 ea1 ka1 na1 h => ?_)
    refine g_iload_n hC dX12_findMore_21 rfl 1 rfl ?_
    refine g_iconst (v := 1) hC dX12_findMore_22 (by decide) ?_
    refine g_isub hC dX12_findMore_23 ?_
    refine g_iald hC ka1 na1 dX12_findMore_24 h hf (fun h => ?_)
    refine g_icmp_ge (tgt := 93) hC dX12_findMore_25 (by decide) h (fun c25 h => ?_) (fun c25 h => ?_)
    · refine g_aload_n hC dX12_findMore_93 rfl 0 rfl ?_
      refine g_getR (cj := 14) (k := 28) hC cr12 ui_12 ht1 ht2 (by decide) fl_X12_112 rfl rfl dX12_findMore_94 h hf (fun a2 ea2 ka2 na2 h => ?_)
      refine g_iload_n hC dX12_findMore_97 rfl 1 rfl ?_
      refine g_iald hC ka2 na2 dX12_findMore_98 h hf (fun h => ?_)
      refine g_aload_n hC dX12_findMore_99 rfl 0 rfl ?_
      refine g_getR (cj := 14) (k := 28) hC cr12 ui_12 ht1 ht2 (by decide) fl_X12_112 rfl rfl dX12_findMore_100 h hf (fun a3 ea3 ka3 na3 h => ?_)
      refine g_iload_n hC dX12_findMore_103 rfl 1 rfl ?_
      refine g_iconst (v := 1) hC dX12_findMore_104 (by decide) ?_
      refine g_isub hC dX12_findMore_105 ?_
      refine g_iald hC ka3 na3 dX12_findMore_106 h hf (fun h => ?_)
      refine g_icmp_eq (tgt := 119) hC dX12_findMore_107 (by decide) h (fun c107 h => ?_) (fun c107 h => ?_)
      · exact g_sub [0, 1, 2] rfl (k_X12_findMore_119 hC hO hR hf t ht1 ht2 x1 x2 σ h)
      · refine g_aload_n hC dX12_findMore_110 rfl 0 rfl ?_
        refine g_getR (cj := 14) (k := 28) hC cr12 ui_12 ht1 ht2 (by decide) fl_X12_112 rfl rfl dX12_findMore_111 h hf (fun a4 ea4 ka4 na4 h => ?_)
        refine g_iload_n hC dX12_findMore_114 rfl 1 rfl ?_
        refine g_iald hC ka4 na4 dX12_findMore_115 h hf (fun h => ?_)
        refine g_if_ne (tgt := 123) hC dX12_findMore_116 (by decide) h (fun c116 h => ?_) (fun c116 h => ?_)
        · refine g_iconst (v := 0) hC dX12_findMore_123 (by decide) ?_
          exact g_sub [0, 1, 2] rfl (k_X12_findMore_124 hC hO hR hf t ht1 ht2 x1 x2 0 σ h)
        · exact g_sub [0, 1, 2] rfl (k_X12_findMore_119 hC hO hR hf t ht1 ht2 x1 x2 σ h)
    · refine g_aload_n hC dX12_findMore_28 rfl 0 rfl ?_
      refine g_iload_n hC dX12_findMore_29 rfl 2 rfl ?_
      refine g_iload_n hC dX12_findMore_30 rfl 1 rfl ?_
      refine g_iconst (v := 1) hC dX12_findMore_31 (by decide) ?_
      refine g_isub hC dX12_findMore_32 ?_
      refine g_iload_n hC dX12_findMore_33 rfl 3 rfl ?_
      obtain ⟨q5, hq5, h⟩ := bd_of h hf
      refine g_cVJ (As := [.int x2, .int (x1 - 1), .int x3]) hC hO (c_X12_times _ hC.2.2.2.2.2.2.1 t ht1 ht2 x2 (x1 - 1) x3 σ (nn_of hq5)) gc_X12_285 (xk_X12_times _ (Nat.le_of_ble_eq_true rfl) (Nat.le_of_ble_eq_true rfl)) cr12 ht1 ht2 rfl (Nat.le_of_ble_eq_true rfl) dX12_findMore_34 hq5 ?_
      refine g_lconst (v := 0) hC dX12_findMore_37 (by decide) ?_
      refine g_lc_lt (tgt := 87) hC dX12_findMore_38 dX12_findMore_39 (by decide) h (fun c38 h => ?_) (fun c38 h => ?_)
      · exact g_sub [0, 1, 2, 3] rfl (k_X12_findMore_87 hC hO hR hf t ht1 ht2 x1 x2 x3 (f_X12_findMore_16 t x1 x2 n) ih q5.2 h)
      · refine g_iconst (v := 0) hC dX12_findMore_42 (by decide) ?_
        refine g_istore (lv' := [(4, .int 0), (0, .ref (E.2.2.1 t)), (1, .int x1), (2, .int x2), (3, .int x3)]) hC dX12_findMore_43 (by decide) rfl ?_
        exact g_sub [1, 2, 3, 4, 0] rfl (k_X12_findMore_45 hC hO hR hf t ht1 ht2 x1 x2 x3 (f_X12_findMore_16 t x1 x2 n) ih FU 0 q5.2 h)
set_option maxHeartbeats 4000000 in
set_option maxRecDepth 100000 in
theorem k_X12_findMore_0 {E : ET} {F : FT} {fo : Option HS} (hC : Cx E F 6 cX12_findMore RX12 GT) (hO : Ro F rm_X12_findMore) (hR : RV E F fo) (hf : fo ≠ none) (t : Nat) (ht1 : kd t = 12) (ht2 : AL E t) (x1 : Int32) (σ : HS) (h : f_X12_findMore t x1 σ = fo) : G E F 0 [(0, .ref (E.2.2.1 t)), (1, .int x1)] [] σ := by
    refine g_aload_n hC dX12_findMore_0 rfl 0 rfl ?_
    refine g_getI (k := 26) hC cr12 ui_12 ht1 ht2 (by decide) fl_X12_229 rfl rfl dX12_findMore_1 ?_
    refine g_iconst (v := 1) hC dX12_findMore_4 (by decide) ?_
    refine g_isub hC dX12_findMore_5 ?_
    refine g_istore_n (lv' := [(2, .int ((σ.1 t 26) - 1)), (0, .ref (E.2.2.1 t)), (1, .int x1)]) hC dX12_findMore_6 rfl (by decide) rfl ?_
    refine g_aload_n hC dX12_findMore_7 rfl 1 rfl ?_
    refine g_getR (cj := 14) (k := 28) hC cr12 ui_12 ht1 ht2 (by decide) fl_X12_112 rfl rfl dX12_findMore_8 h hf (fun a1 ea1 ka1 na1 h => ?_)
    refine g_iload_n hC dX12_findMore_11 rfl 2 rfl ?_
    refine g_iconst (v := 0) hC dX12_findMore_12 (by decide) ?_
    refine g_iast hC ka1 na1 dX12_findMore_13 h hf (fun h => ?_)
    refine g_iconst (v := 0) hC dX12_findMore_14 (by decide) ?_
    refine g_istore_n (lv' := [(3, .int 0), (2, .int ((σ.1 t 26) - 1)), (0, .ref (E.2.2.1 t)), (1, .int x1)]) hC dX12_findMore_15 rfl (by decide) rfl ?_
    exact g_sub [2, 3, 1, 0] rfl (k_X12_findMore_16 hC hO hR hf t ht1 ht2 x1 ((σ.1 t 26) - 1) FU 0 (sI σ a1 x1.toNatClampNeg 0) h)
theorem xk_X12_findMore (R : Room) (h1 : 3 + 1 ≤ R.frames) (h2 : 156 ≤ R.locals) : xw R yX12_findMore w_X12_findMore GT cX12_findMore 6 none rm_X12_findMore 1 := ⟨rfl, rfl, rfl, h1, h2, ⟨by decide, by decide⟩, by decide +kernel⟩
theorem c_X12_findMore (E : ET) (hE : EO E) (t : Nat) (ht1 : kd t = 12) (ht2 : AL E t) (x1 : Int32) (σ : HS) (hn : f_X12_findMore t x1 σ ≠ none) : CoV E yX12_findMore w_X12_findMore rm_X12_findMore [.ref (E.2.2.1 t), .int x1] σ (f_X12_findMore t x1 σ) := CoV.of (lv := [(0, .ref (E.2.2.1 t)), (1, .int x1)]) hE (plainFor_of_name (by decide)) rfl (Nat.le_of_ble_eq_true rfl) rfl (fun F hC hO hR => k_X12_findMore_0 hC hO hR hn t ht1 ht2 x1 σ rfl)
def rm_X12_backTo : Room := { frames := 0, cells := 0, slots := 0, locals := 0 }
set_option maxHeartbeats 4000000 in
set_option maxRecDepth 100000 in
theorem k_X12_backTo_0 {E : ET} {F : FT} {fo : Option HS} (hC : Cx E F 2 cX12_backTo RX12 GT) (hO : Ro F rm_X12_backTo) (hR : RV E F fo) (hf : fo ≠ none) (t : Nat) (ht1 : kd t = 12) (ht2 : AL E t) (x1 : Int32) (σ : HS) (h : f_X12_backTo t x1 σ = fo) : G E F 0 [(0, .ref (E.2.2.1 t)), (1, .int x1)] [] σ := by
    refine g_aload_n hC dX12_backTo_0 rfl 0 rfl ?_
    refine g_aload_n hC dX12_backTo_1 rfl 0 rfl ?_
    refine g_getR (cj := 14) (k := 29) hC cr12 ui_12 ht1 ht2 (by decide) fl_X12_115 rfl rfl dX12_backTo_2 h hf (fun a1 ea1 ka1 na1 h => ?_)
    refine g_iload_n hC dX12_backTo_5 rfl 1 rfl ?_
    refine g_iald hC ka1 na1 dX12_backTo_6 h hf (fun h => ?_)
    refine g_putI (k := 26) hC cr12 ui_12 tyX12_ok nmX12 ht1 ht2 (by decide) fl_X12_229 rfl rfl rfl rfl dX12_backTo_7 ?_
    exact g_vret hC hR dX12_backTo_10 h
theorem xk_X12_backTo (R : Room) (h1 : 0 + 1 ≤ R.frames) (h2 : 33 ≤ R.locals) : xw R yX12_backTo w_X12_backTo GT cX12_backTo 2 none rm_X12_backTo 1 := ⟨rfl, rfl, rfl, h1, h2, ⟨by decide, by decide⟩, by decide +kernel⟩
theorem c_X12_backTo (E : ET) (hE : EO E) (t : Nat) (ht1 : kd t = 12) (ht2 : AL E t) (x1 : Int32) (σ : HS) (hn : f_X12_backTo t x1 σ ≠ none) : CoV E yX12_backTo w_X12_backTo rm_X12_backTo [.ref (E.2.2.1 t), .int x1] σ (f_X12_backTo t x1 σ) := CoV.of (lv := [(0, .ref (E.2.2.1 t)), (1, .int x1)]) hE (plainFor_of_name (by decide)) rfl (Nat.le_of_ble_eq_true rfl) rfl (fun F hC hO hR => k_X12_backTo_0 hC hO hR hn t ht1 ht2 x1 σ rfl)
def rm_X12_findNow : Room := { frames := 6, cells := 0, slots := 0, locals := 207 }
theorem wc_X12_heard : Cond.code yX12_heard cX12_heard 3 (some .int) ∈ GT := gtr_30 _ (List.mem_of_getElem? (i := 17) rfl)
theorem gc_X12_295 : GoodIn GT (wsV RX12 295 RX12 yX12_heard w_X12_heard) := gi_V (gtr_30 _ (List.mem_of_getElem? (i := 14) rfl)) (gtr_30 _ (List.mem_of_getElem? (i := 15) rfl)) (gtr_30 _ (List.mem_of_getElem? (i := 16) rfl)) (gtr_1 _ (List.mem_of_getElem? (i := 5) rfl)) wc_X12_heard
theorem wc_X12_laysRows : Cond.code yX12_laysRows cX12_laysRows 3 none ∈ GT := gtr_31 _ (List.mem_of_getElem? (i := 1) rfl)
theorem gc_X12_298 : GoodIn GT (wsV RX12 298 RX12 yX12_laysRows w_X12_laysRows) := gi_V (gtr_30 _ (List.mem_of_getElem? (i := 22) rfl)) (gtr_30 _ (List.mem_of_getElem? (i := 23) rfl)) (gtr_31 _ (List.mem_of_getElem? (i := 0) rfl)) (gtr_1 _ (List.mem_of_getElem? (i := 5) rfl)) wc_X12_laysRows
theorem wc_X12_findCorners : Cond.code yX12_findCorners cX12_findCorners 4 none ∈ GT := gtr_33 _ (List.mem_of_getElem? (i := 15) rfl)
theorem gc_X12_301 : GoodIn GT (wsV RX12 301 RX12 yX12_findCorners w_X12_findCorners) := gi_V (gtr_33 _ (List.mem_of_getElem? (i := 12) rfl)) (gtr_33 _ (List.mem_of_getElem? (i := 13) rfl)) (gtr_33 _ (List.mem_of_getElem? (i := 14) rfl)) (gtr_1 _ (List.mem_of_getElem? (i := 5) rfl)) wc_X12_findCorners
set_option maxHeartbeats 4000000 in
set_option maxRecDepth 100000 in
theorem k_X12_findNow_26 {E : ET} {F : FT} {fo : Option (Int32 × HS)} (hC : Cx E F 1 cX12_findNow RX12 GT) (hO : Ro F rm_X12_findNow) (hR : RI E F .boolean fo) (hf : fo ≠ none) (s0 : Int32) (σ : HS) (h : f_X12_findNow_26 s0 σ = fo) : G E F 26 [] [.int s0] σ := by
    obtain ⟨hz, h⟩ := zr_of h hf
    exact g_iret hC hR dX12_findNow_26 hz h
set_option maxHeartbeats 4000000 in
set_option maxRecDepth 100000 in
theorem k_X12_findNow_0 {E : ET} {F : FT} {fo : Option (Int32 × HS)} (hC : Cx E F 1 cX12_findNow RX12 GT) (hO : Ro F rm_X12_findNow) (hR : RI E F .boolean fo) (hf : fo ≠ none) (t : Nat) (ht1 : kd t = 12) (ht2 : AL E t) (σ : HS) (h : f_X12_findNow t σ = fo) : G E F 0 [(0, .ref (E.2.2.1 t))] [] σ := by
    refine g_aload_n hC dX12_findNow_0 rfl 0 rfl ?_
    refine g_aload_n hC dX12_findNow_1 rfl 0 rfl ?_
    obtain ⟨q1, hq1, h⟩ := bd_of h hf
    refine g_cVI (As := []) hC hO (c_X12_heard _ hC.2.2.2.2.2.2.1 t ht1 ht2 σ (nn_of hq1)) gc_X12_295 (xk_X12_heard _ (Nat.le_of_ble_eq_true rfl) (Nat.le_of_ble_eq_true rfl)) cr12 ht1 ht2 rfl (Nat.le_of_ble_eq_true rfl) dX12_findNow_2 hq1 ?_
    obtain ⟨q2, hq2, h⟩ := bd_of h hf
    refine g_cVV (As := [.int q1.1]) hC hO (c_X12_laysRows _ hC.2.2.2.2.2.2.1 t ht1 ht2 q1.1 q1.2 (nn_of hq2)) gc_X12_298 (xk_X12_laysRows _ (Nat.le_of_ble_eq_true rfl) (Nat.le_of_ble_eq_true rfl)) cr12 ht1 ht2 rfl (Nat.le_of_ble_eq_true rfl) dX12_findNow_5 hq2 ?_
    refine g_aload_n hC dX12_findNow_8 rfl 0 rfl ?_
    obtain ⟨q3, hq3, h⟩ := bd_of h hf
    refine g_cVV (As := []) hC hO (c_X12_findCorners _ hC.2.2.2.2.2.2.1 t ht1 ht2 q2 (nn_of hq3)) gc_X12_301 (xk_X12_findCorners _ (Nat.le_of_ble_eq_true rfl) (Nat.le_of_ble_eq_true rfl)) cr12 ht1 ht2 rfl (Nat.le_of_ble_eq_true rfl) dX12_findNow_9 hq3 ?_
    refine g_aload_n hC dX12_findNow_12 rfl 0 rfl ?_
    refine g_getR (cj := 14) (k := 28) hC cr12 ui_12 ht1 ht2 (by decide) fl_X12_112 rfl rfl dX12_findNow_13 h hf (fun a4 ea4 ka4 na4 h => ?_)
    refine g_iconst (v := 0) hC dX12_findNow_16 (by decide) ?_
    refine g_iald hC ka4 na4 dX12_findNow_17 h hf (fun h => ?_)
    refine g_if_le (tgt := 25) hC dX12_findNow_18 (by decide) h (fun c18 h => ?_) (fun c18 h => ?_)
    · refine g_iconst (v := 0) hC dX12_findNow_25 (by decide) ?_
      exact g_sub [] rfl (k_X12_findNow_26 hC hO hR hf 0 q3 h)
    · refine g_iconst (v := 1) hC dX12_findNow_21 (by decide) ?_
      refine g_goto (tgt := 26) hC dX12_findNow_22 (by decide) ?_
      exact g_sub [] rfl (k_X12_findNow_26 hC hO hR hf 1 q3 h)
theorem xk_X12_findNow (R : Room) (h1 : 6 + 1 ≤ R.frames) (h2 : 239 ≤ R.locals) : xw R yX12_findNow w_X12_findNow GT cX12_findNow 1 (some .boolean) rm_X12_findNow 0 := ⟨rfl, rfl, rfl, h1, h2, ⟨by decide, by decide⟩, by decide +kernel⟩
theorem c_X12_findNow (E : ET) (hE : EO E) (t : Nat) (ht1 : kd t = 12) (ht2 : AL E t) (σ : HS) (hn : f_X12_findNow t σ ≠ none) : CoI E yX12_findNow w_X12_findNow rm_X12_findNow [.ref (E.2.2.1 t)] σ (f_X12_findNow t σ) := CoI.of (lv := [(0, .ref (E.2.2.1 t))]) hE (plainFor_of_name (by decide)) rfl (Nat.le_of_ble_eq_true rfl) rfl (fun F hC hO hR => k_X12_findNow_0 hC hO hR hn t ht1 ht2 σ rfl)
def rm_X12_seenAs : Room := { frames := 2, cells := 0, slots := 0, locals := 69 }
theorem fl_X12_124 : Cond.fieldLink RX12 124 "EveryMeasureModel" (TX12 32).2.1 (TX12 32).2.2.1 ∈ GT := gtr_10 _ (List.mem_of_getElem? (i := 8) rfl)
theorem fl_X12_304 : Cond.fieldLink RX12 304 "EveryMeasureModel" (TX12 33).2.1 (TX12 33).2.2.1 ∈ GT := gtr_38 _ (List.mem_of_getElem? (i := 8) rfl)
theorem fl_X12_307 : Cond.fieldLink RX12 307 "EveryMeasureModel" (TX12 34).2.1 (TX12 34).2.2.1 ∈ GT := gtr_38 _ (List.mem_of_getElem? (i := 9) rfl)
set_option maxHeartbeats 4000000 in
set_option maxRecDepth 100000 in
theorem k_X12_seenAs_29 {E : ET} {F : FT} {fo : Option (Int32 × HS)} (hC : Cx E F 3 cX12_seenAs RX12 GT) (hO : Ro F rm_X12_seenAs) (hR : RI E F .int fo) (hf : fo ≠ none) (s0 : Int32) (σ : HS) (h : f_X12_seenAs_29 s0 σ = fo) : G E F 29 [] [.int s0] σ := by
    exact g_iret hC hR dX12_seenAs_29 rfl h
set_option maxHeartbeats 4000000 in
set_option maxRecDepth 100000 in
theorem k_X12_seenAs_23 {E : ET} {F : FT} {fo : Option (Int32 × HS)} (hC : Cx E F 3 cX12_seenAs RX12 GT) (hO : Ro F rm_X12_seenAs) (hR : RI E F .int fo) (hf : fo ≠ none) (t : Nat) (ht1 : kd t = 12) (ht2 : AL E t) (x1 : Int32) (x2 : Int32) (σ : HS) (h : f_X12_seenAs_23 t x1 x2 σ = fo) : G E F 23 [(0, .ref (E.2.2.1 t)), (1, .int x1), (2, .int x2)] [] σ := by
    refine g_aload_n hC dX12_seenAs_23 rfl 0 rfl ?_
    refine g_iload_n hC dX12_seenAs_24 rfl 1 rfl ?_
    refine g_iload_n hC dX12_seenAs_25 rfl 2 rfl ?_
    obtain ⟨q1, hq1, h⟩ := bd_of h hf
    refine g_cVI (As := [.int x1, .int x2]) hC hO (c_X12_valueOf _ hC.2.2.2.2.2.2.1 t ht1 ht2 x1 x2 σ (nn_of hq1)) gc_X12_226 (xk_X12_valueOf _ (Nat.le_of_ble_eq_true rfl) (Nat.le_of_ble_eq_true rfl)) cr12 ht1 ht2 rfl (Nat.le_of_ble_eq_true rfl) dX12_seenAs_26 hq1 ?_
    exact g_sub [] rfl (k_X12_seenAs_29 hC hO hR hf q1.1 q1.2 h)
set_option maxHeartbeats 4000000 in
set_option maxRecDepth 100000 in
theorem k_X12_seenAs_0 {E : ET} {F : FT} {fo : Option (Int32 × HS)} (hC : Cx E F 3 cX12_seenAs RX12 GT) (hO : Ro F rm_X12_seenAs) (hR : RI E F .int fo) (hf : fo ≠ none) (t : Nat) (ht1 : kd t = 12) (ht2 : AL E t) (x1 : Int32) (x2 : Int32) (σ : HS) (h : f_X12_seenAs t x1 x2 σ = fo) : G E F 0 [(0, .ref (E.2.2.1 t)), (1, .int x1), (2, .int x2)] [] σ := by
    refine g_iload_n hC dX12_seenAs_0 rfl 1 rfl ?_
    refine g_aload_n hC dX12_seenAs_1 rfl 0 rfl ?_
    refine g_getI (k := 32) hC cr12 ui_12 ht1 ht2 (by decide) fl_X12_124 rfl rfl dX12_seenAs_2 ?_
    refine g_icmp_ne (tgt := 23) hC dX12_seenAs_5 (by decide) h (fun c5 h => ?_) (fun c5 h => ?_)
    · exact g_sub [0, 1, 2] rfl (k_X12_seenAs_23 hC hO hR hf t ht1 ht2 x1 x2 σ h)
    · refine g_iload_n hC dX12_seenAs_8 rfl 2 rfl ?_
      refine g_aload_n hC dX12_seenAs_9 rfl 0 rfl ?_
      refine g_getI (k := 33) hC cr12 ui_12 ht1 ht2 (by decide) fl_X12_304 rfl rfl dX12_seenAs_10 ?_
      refine g_icmp_ne (tgt := 23) hC dX12_seenAs_13 (by decide) h (fun c13 h => ?_) (fun c13 h => ?_)
      · exact g_sub [0, 1, 2] rfl (k_X12_seenAs_23 hC hO hR hf t ht1 ht2 x1 x2 σ h)
      · refine g_aload_n hC dX12_seenAs_16 rfl 0 rfl ?_
        refine g_getI (k := 34) hC cr12 ui_12 ht1 ht2 (by decide) fl_X12_307 rfl rfl dX12_seenAs_17 ?_
        refine g_goto (tgt := 29) hC dX12_seenAs_20 (by decide) ?_
        exact g_sub [] rfl (k_X12_seenAs_29 hC hO hR hf (σ.1 t 34) σ h)
theorem xk_X12_seenAs (R : Room) (h1 : 2 + 1 ≤ R.frames) (h2 : 103 ≤ R.locals) : xw R yX12_seenAs w_X12_seenAs GT cX12_seenAs 3 (some .int) rm_X12_seenAs 2 := ⟨rfl, rfl, rfl, h1, h2, ⟨by decide, by decide⟩, by decide +kernel⟩
theorem c_X12_seenAs (E : ET) (hE : EO E) (t : Nat) (ht1 : kd t = 12) (ht2 : AL E t) (x1 : Int32) (x2 : Int32) (σ : HS) (hn : f_X12_seenAs t x1 x2 σ ≠ none) : CoI E yX12_seenAs w_X12_seenAs rm_X12_seenAs [.ref (E.2.2.1 t), .int x1, .int x2] σ (f_X12_seenAs t x1 x2 σ) := CoI.of (lv := [(0, .ref (E.2.2.1 t)), (1, .int x1), (2, .int x2)]) hE (plainFor_of_name (by decide)) rfl (Nat.le_of_ble_eq_true rfl) rfl (fun F hC hO hR => k_X12_seenAs_0 hC hO hR hn t ht1 ht2 x1 x2 σ rfl)
def rm_X12_above : Room := { frames := 3, cells := 0, slots := 0, locals := 103 }
theorem wc_X12_seenAs : Cond.code yX12_seenAs cX12_seenAs 3 (some .int) ∈ GT := gtr_38 _ (List.mem_of_getElem? (i := 7) rfl)
theorem gc_X12_313 : GoodIn GT (wsV RX12 313 RX12 yX12_seenAs w_X12_seenAs) := gi_V (gtr_38 _ (List.mem_of_getElem? (i := 4) rfl)) (gtr_38 _ (List.mem_of_getElem? (i := 5) rfl)) (gtr_38 _ (List.mem_of_getElem? (i := 6) rfl)) (gtr_1 _ (List.mem_of_getElem? (i := 5) rfl)) wc_X12_seenAs
set_option maxHeartbeats 4000000 in
set_option maxRecDepth 100000 in
theorem k_X12_above_26 {E : ET} {F : FT} {fo : Option (Int64 × HS)} (hC : Cx E F 4 cX12_above RX12 GT) (hO : Ro F rm_X12_above) (hR : RJ E F fo) (hf : fo ≠ none) (s0 : Int64) (σ : HS) (h : f_X12_above_26 s0 σ = fo) : G E F 26 [] [.long s0] σ := by
    exact g_lret hC hR dX12_above_26 h
set_option maxHeartbeats 4000000 in
set_option maxRecDepth 100000 in
theorem k_X12_above_0 {E : ET} {F : FT} {fo : Option (Int64 × HS)} (hC : Cx E F 4 cX12_above RX12 GT) (hO : Ro F rm_X12_above) (hR : RJ E F fo) (hf : fo ≠ none) (t : Nat) (ht1 : kd t = 12) (ht2 : AL E t) (x1 : Int32) (x2 : Int32) (x3 : Int32) (σ : HS) (h : f_X12_above t x1 x2 x3 σ = fo) : G E F 0 [(0, .ref (E.2.2.1 t)), (1, .int x1), (2, .int x2), (3, .int x3)] [] σ := by
    refine g_iload_n hC dX12_above_0 rfl 3 rfl ?_
    refine g_aload_n hC dX12_above_1 rfl 0 rfl ?_
    refine g_getI (k := 20) hC cr12 ui_12 ht1 ht2 (by decide) fl_X12_193 rfl rfl dX12_above_2 ?_
    refine g_icmp_ge (tgt := 25) hC dX12_above_5 (by decide) h (fun c5 h => ?_) (fun c5 h => ?_)
    · refine g_lconst (v := 0) hC dX12_above_25 (by decide) ?_
      exact g_sub [] rfl (k_X12_above_26 hC hO hR hf 0 σ h)
    · refine g_aload_n hC dX12_above_8 rfl 0 rfl ?_
      refine g_iload_n hC dX12_above_9 rfl 1 rfl ?_
      refine g_iload_n hC dX12_above_10 rfl 3 rfl ?_
      obtain ⟨q1, hq1, h⟩ := bd_of h hf
      refine g_cVI (As := [.int x1, .int x3]) hC hO (c_X12_seenAs _ hC.2.2.2.2.2.2.1 t ht1 ht2 x1 x3 σ (nn_of hq1)) gc_X12_313 (xk_X12_seenAs _ (Nat.le_of_ble_eq_true rfl) (Nat.le_of_ble_eq_true rfl)) cr12 ht1 ht2 rfl (Nat.le_of_ble_eq_true rfl) dX12_above_11 hq1 ?_
      refine g_aload_n hC dX12_above_14 rfl 0 rfl ?_
      refine g_iload_n hC dX12_above_15 rfl 2 rfl ?_
      refine g_iload_n hC dX12_above_16 rfl 3 rfl ?_
      obtain ⟨q2, hq2, h⟩ := bd_of h hf
      refine g_cVI (As := [.int x2, .int x3]) hC hO (c_X12_seenAs _ hC.2.2.2.2.2.2.1 t ht1 ht2 x2 x3 q1.2 (nn_of hq2)) gc_X12_313 (xk_X12_seenAs _ (Nat.le_of_ble_eq_true rfl) (Nat.le_of_ble_eq_true rfl)) cr12 ht1 ht2 rfl (Nat.le_of_ble_eq_true rfl) dX12_above_17 hq2 ?_
      refine g_isub hC dX12_above_20 ?_
      refine g_i2l hC dX12_above_21 ?_
      refine g_goto (tgt := 26) hC dX12_above_22 (by decide) ?_
      exact g_sub [] rfl (k_X12_above_26 hC hO hR hf ((q1.1 - q2.1).toInt64) q2.2 h)
theorem xk_X12_above (R : Room) (h1 : 3 + 1 ≤ R.frames) (h2 : 138 ≤ R.locals) : xw R yX12_above w_X12_above GT cX12_above 4 (some .long) rm_X12_above 3 := ⟨rfl, rfl, rfl, h1, h2, ⟨by decide, by decide⟩, by decide +kernel⟩
theorem c_X12_above (E : ET) (hE : EO E) (t : Nat) (ht1 : kd t = 12) (ht2 : AL E t) (x1 : Int32) (x2 : Int32) (x3 : Int32) (σ : HS) (hn : f_X12_above t x1 x2 x3 σ ≠ none) : CoJ E yX12_above w_X12_above rm_X12_above [.ref (E.2.2.1 t), .int x1, .int x2, .int x3] σ (f_X12_above t x1 x2 x3 σ) := CoJ.of (lv := [(0, .ref (E.2.2.1 t)), (1, .int x1), (2, .int x2), (3, .int x3)]) hE (plainFor_of_name (by decide)) rfl (Nat.le_of_ble_eq_true rfl) rfl (fun F hC hO hR => k_X12_above_0 hC hO hR hn t ht1 ht2 x1 x2 x3 σ rfl)
def rm_X12_addsAbove : Room := { frames := 4, cells := 0, slots := 0, locals := 138 }
theorem wc_X12_above : Cond.code yX12_above cX12_above 4 (some .long) ∈ GT := gtr_38 _ (List.mem_of_getElem? (i := 3) rfl)
theorem gc_X12_310 : GoodIn GT (wsV RX12 310 RX12 yX12_above w_X12_above) := gi_V (gtr_38 _ (List.mem_of_getElem? (i := 0) rfl)) (gtr_38 _ (List.mem_of_getElem? (i := 1) rfl)) (gtr_38 _ (List.mem_of_getElem? (i := 2) rfl)) (gtr_1 _ (List.mem_of_getElem? (i := 5) rfl)) wc_X12_above
set_option maxHeartbeats 4000000 in
set_option maxRecDepth 100000 in
theorem k_X12_addsAbove_0 {E : ET} {F : FT} {fo : Option HS} (hC : Cx E F 3 cX12_addsAbove RX12 GT) (hO : Ro F rm_X12_addsAbove) (hR : RV E F fo) (hf : fo ≠ none) (t : Nat) (ht1 : kd t = 12) (ht2 : AL E t) (x1 : Int32) (x2 : Int32) (σ : HS) (h : f_X12_addsAbove t x1 x2 σ = fo) : G E F 0 [(0, .ref (E.2.2.1 t)), (1, .int x1), (2, .int x2)] [] σ := by
    refine g_aload_n hC dX12_addsAbove_0 rfl 0 rfl ?_
    refine g_aload_n hC dX12_addsAbove_1 rfl 0 rfl ?_
    refine g_iload_n hC dX12_addsAbove_2 rfl 1 rfl ?_
    refine g_iload_n hC dX12_addsAbove_3 rfl 2 rfl ?_
    refine g_iconst (v := 0) hC dX12_addsAbove_4 (by decide) ?_
    obtain ⟨q1, hq1, h⟩ := bd_of h hf
    refine g_cVJ (As := [.int x1, .int x2, .int 0]) hC hO (c_X12_above _ hC.2.2.2.2.2.2.1 t ht1 ht2 x1 x2 0 σ (nn_of hq1)) gc_X12_310 (xk_X12_above _ (Nat.le_of_ble_eq_true rfl) (Nat.le_of_ble_eq_true rfl)) cr12 ht1 ht2 rfl (Nat.le_of_ble_eq_true rfl) dX12_addsAbove_5 hq1 ?_
    refine g_aload_n hC dX12_addsAbove_8 rfl 0 rfl ?_
    refine g_iload_n hC dX12_addsAbove_9 rfl 1 rfl ?_
    refine g_iload_n hC dX12_addsAbove_10 rfl 2 rfl ?_
    refine g_iconst (v := 1) hC dX12_addsAbove_11 (by decide) ?_
    obtain ⟨q2, hq2, h⟩ := bd_of h hf
    refine g_cVJ (As := [.int x1, .int x2, .int 1]) hC hO (c_X12_above _ hC.2.2.2.2.2.2.1 t ht1 ht2 x1 x2 1 q1.2 (nn_of hq2)) gc_X12_310 (xk_X12_above _ (Nat.le_of_ble_eq_true rfl) (Nat.le_of_ble_eq_true rfl)) cr12 ht1 ht2 rfl (Nat.le_of_ble_eq_true rfl) dX12_addsAbove_12 hq2 ?_
    refine g_aload_n hC dX12_addsAbove_15 rfl 0 rfl ?_
    refine g_iload_n hC dX12_addsAbove_16 rfl 1 rfl ?_
    refine g_iload_n hC dX12_addsAbove_17 rfl 2 rfl ?_
    refine g_iconst (v := 2) hC dX12_addsAbove_18 (by decide) ?_
    obtain ⟨q3, hq3, h⟩ := bd_of h hf
    refine g_cVJ (As := [.int x1, .int x2, .int 2]) hC hO (c_X12_above _ hC.2.2.2.2.2.2.1 t ht1 ht2 x1 x2 2 q2.2 (nn_of hq3)) gc_X12_310 (xk_X12_above _ (Nat.le_of_ble_eq_true rfl) (Nat.le_of_ble_eq_true rfl)) cr12 ht1 ht2 rfl (Nat.le_of_ble_eq_true rfl) dX12_addsAbove_19 hq3 ?_
    refine g_aload_n hC dX12_addsAbove_22 rfl 0 rfl ?_
    refine g_iload_n hC dX12_addsAbove_23 rfl 1 rfl ?_
    refine g_iload_n hC dX12_addsAbove_24 rfl 2 rfl ?_
    refine g_iconst (v := 3) hC dX12_addsAbove_25 (by decide) ?_
    obtain ⟨q4, hq4, h⟩ := bd_of h hf
    refine g_cVJ (As := [.int x1, .int x2, .int 3]) hC hO (c_X12_above _ hC.2.2.2.2.2.2.1 t ht1 ht2 x1 x2 3 q3.2 (nn_of hq4)) gc_X12_310 (xk_X12_above _ (Nat.le_of_ble_eq_true rfl) (Nat.le_of_ble_eq_true rfl)) cr12 ht1 ht2 rfl (Nat.le_of_ble_eq_true rfl) dX12_addsAbove_26 hq4 ?_
    obtain ⟨q5, hq5, h⟩ := bd_of h hf
    refine g_cVV (As := [.long q1.1, .long q2.1, .long q3.1, .long q4.1]) hC hO (c_X12_addsRow _ hC.2.2.2.2.2.2.1 t ht1 ht2 q1.1 q2.1 q3.1 q4.1 q4.2 (nn_of hq5)) gc_X12_236 (xk_X12_addsRow _ (Nat.le_of_ble_eq_true rfl) (Nat.le_of_ble_eq_true rfl)) cr12 ht1 ht2 rfl (Nat.le_of_ble_eq_true rfl) dX12_addsAbove_29 hq5 ?_
    exact g_vret hC hR dX12_addsAbove_32 h
theorem xk_X12_addsAbove (R : Room) (h1 : 4 + 1 ≤ R.frames) (h2 : 172 ≤ R.locals) : xw R yX12_addsAbove w_X12_addsAbove GT cX12_addsAbove 3 none rm_X12_addsAbove 2 := ⟨rfl, rfl, rfl, h1, h2, ⟨by decide, by decide⟩, by decide +kernel⟩
theorem c_X12_addsAbove (E : ET) (hE : EO E) (t : Nat) (ht1 : kd t = 12) (ht2 : AL E t) (x1 : Int32) (x2 : Int32) (σ : HS) (hn : f_X12_addsAbove t x1 x2 σ ≠ none) : CoV E yX12_addsAbove w_X12_addsAbove rm_X12_addsAbove [.ref (E.2.2.1 t), .int x1, .int x2] σ (f_X12_addsAbove t x1 x2 σ) := CoV.of (lv := [(0, .ref (E.2.2.1 t)), (1, .int x1), (2, .int x2)]) hE (plainFor_of_name (by decide)) rfl (Nat.le_of_ble_eq_true rfl) rfl (fun F hC hO hR => k_X12_addsAbove_0 hC hO hR hn t ht1 ht2 x1 x2 σ rfl)
def rm_X12_weightAt : Room := { frames := 0, cells := 0, slots := 0, locals := 0 }
set_option maxHeartbeats 4000000 in
set_option maxRecDepth 100000 in
theorem k_X12_weightAt_0 {E : ET} {F : FT} {fo : Option (Int64 × HS)} (hC : Cx E F 4 cX12_weightAt RX12 GT) (hO : Ro F rm_X12_weightAt) (hR : RJ E F fo) (hf : fo ≠ none) (t : Nat) (ht1 : kd t = 12) (ht2 : AL E t) (x1 : Int32) (x2 : Int32) (x3 : Int32) (σ : HS) (h : f_X12_weightAt t x1 x2 x3 σ = fo) : G E F 0 [(0, .ref (E.2.2.1 t)), (1, .int x1), (2, .int x2), (3, .int x3)] [] σ := by
    refine g_aload_n hC dX12_weightAt_0 rfl 0 rfl ?_
    refine g_getR (cj := 15) (k := 30) hC cr12 ui_12 ht1 ht2 (by decide) fl_X12_118 rfl rfl dX12_weightAt_1 h hf (fun a1 ea1 ka1 na1 h => ?_)
    refine g_iconst (v := 4) hC dX12_weightAt_4 (by decide) ?_
    refine g_bipush (v := 72) hC dX12_weightAt_5 (by decide) ?_
    refine g_iload_n hC dX12_weightAt_7 rfl 1 rfl ?_
    refine g_imul hC dX12_weightAt_8 ?_
    refine g_iload_n hC dX12_weightAt_9 rfl 2 rfl ?_
    refine g_iadd hC dX12_weightAt_10 ?_
    refine g_imul hC dX12_weightAt_11 ?_
    refine g_iload_n hC dX12_weightAt_12 rfl 3 rfl ?_
    refine g_iadd hC dX12_weightAt_13 ?_
    refine g_lald hC ka1 na1 dX12_weightAt_14 h hf (fun h => ?_)
    exact g_lret hC hR dX12_weightAt_15 h
theorem xk_X12_weightAt (R : Room) (h1 : 0 + 1 ≤ R.frames) (h2 : 35 ≤ R.locals) : xw R yX12_weightAt w_X12_weightAt GT cX12_weightAt 4 (some .long) rm_X12_weightAt 3 := ⟨rfl, rfl, rfl, h1, h2, ⟨by decide, by decide⟩, by decide +kernel⟩
theorem c_X12_weightAt (E : ET) (hE : EO E) (t : Nat) (ht1 : kd t = 12) (ht2 : AL E t) (x1 : Int32) (x2 : Int32) (x3 : Int32) (σ : HS) (hn : f_X12_weightAt t x1 x2 x3 σ ≠ none) : CoJ E yX12_weightAt w_X12_weightAt rm_X12_weightAt [.ref (E.2.2.1 t), .int x1, .int x2, .int x3] σ (f_X12_weightAt t x1 x2 x3 σ) := CoJ.of (lv := [(0, .ref (E.2.2.1 t)), (1, .int x1), (2, .int x2), (3, .int x3)]) hE (plainFor_of_name (by decide)) rfl (Nat.le_of_ble_eq_true rfl) rfl (fun F hC hO hR => k_X12_weightAt_0 hC hO hR hn t ht1 ht2 x1 x2 x3 σ rfl)
def rm_X12_aboveAt : Room := { frames := 4, cells := 0, slots := 0, locals := 138 }
theorem wc_X12_weightAt : Cond.code yX12_weightAt cX12_weightAt 4 (some .long) ∈ GT := gtr_34 _ (List.mem_of_getElem? (i := 18) rfl)
theorem gc_X12_316 : GoodIn GT (wsV RX12 316 RX12 yX12_weightAt w_X12_weightAt) := gi_V (gtr_34 _ (List.mem_of_getElem? (i := 15) rfl)) (gtr_34 _ (List.mem_of_getElem? (i := 16) rfl)) (gtr_34 _ (List.mem_of_getElem? (i := 17) rfl)) (gtr_1 _ (List.mem_of_getElem? (i := 5) rfl)) wc_X12_weightAt
set_option maxHeartbeats 4000000 in
set_option maxRecDepth 100000 in
theorem k_X12_aboveAt_6 {E : ET} {F : FT} {fo : Option (Int64 × HS)} (hC : Cx E F 8 cX12_aboveAt RX12 GT) (hO : Ro F rm_X12_aboveAt) (hR : RJ E F fo) (hf : fo ≠ none) (t : Nat) (ht1 : kd t = 12) (ht2 : AL E t) (x1 : Int32) (x2 : Int32) (x3 : Int32) (x4 : Int32) : ∀ (n : Nat) (x5 : Int64) (x7 : Int32) (σ : HS), f_X12_aboveAt_6 t x1 x2 x3 x4 n x5 x7 σ = fo → G E F 6 [(0, .ref (E.2.2.1 t)), (1, .int x1), (2, .int x2), (3, .int x3), (4, .int x4), (5, .long x5), (7, .int x7)] [] σ := by
  intro n
  induction n with
  | zero =>
    intro x5 x7 σ h
    exact absurd (h.symm.trans rfl) hf
  | succ n ih =>
    intro x5 x7 σ h
    refine g_iload hC dX12_aboveAt_6 6 rfl ?_
    refine g_aload_n hC dX12_aboveAt_8 rfl 0 rfl ?_
    refine g_getI (k := 20) hC cr12 ui_12 ht1 ht2 (by decide) fl_X12_193 rfl rfl dX12_aboveAt_9 ?_
    refine g_icmp_ge (tgt := 44) hC dX12_aboveAt_12 (by decide) h (fun c12 h => ?_) (fun c12 h => ?_)
    · refine g_lload hC dX12_aboveAt_44 5 rfl ?_
      exact g_lret hC hR dX12_aboveAt_46 h
    · refine g_lload hC dX12_aboveAt_15 5 rfl ?_
      refine g_aload_n hC dX12_aboveAt_17 rfl 0 rfl ?_
      refine g_iload_n hC dX12_aboveAt_18 rfl 3 rfl ?_
      refine g_iload hC dX12_aboveAt_19 4 rfl ?_
      refine g_iload hC dX12_aboveAt_21 6 rfl ?_
      obtain ⟨q1, hq1, h⟩ := bd_of h hf
      refine g_cVJ (As := [.int x3, .int x4, .int x7]) hC hO (c_X12_weightAt _ hC.2.2.2.2.2.2.1 t ht1 ht2 x3 x4 x7 σ (nn_of hq1)) gc_X12_316 (xk_X12_weightAt _ (Nat.le_of_ble_eq_true rfl) (Nat.le_of_ble_eq_true rfl)) cr12 ht1 ht2 rfl (Nat.le_of_ble_eq_true rfl) dX12_aboveAt_23 hq1 ?_
      refine g_aload_n hC dX12_aboveAt_26 rfl 0 rfl ?_
      refine g_iload_n hC dX12_aboveAt_27 rfl 1 rfl ?_
      refine g_iload_n hC dX12_aboveAt_28 rfl 2 rfl ?_
      refine g_iload hC dX12_aboveAt_29 6 rfl ?_
      obtain ⟨q2, hq2, h⟩ := bd_of h hf
      refine g_cVJ (As := [.int x1, .int x2, .int x7]) hC hO (c_X12_above _ hC.2.2.2.2.2.2.1 t ht1 ht2 x1 x2 x7 q1.2 (nn_of hq2)) gc_X12_310 (xk_X12_above _ (Nat.le_of_ble_eq_true rfl) (Nat.le_of_ble_eq_true rfl)) cr12 ht1 ht2 rfl (Nat.le_of_ble_eq_true rfl) dX12_aboveAt_31 hq2 ?_
      refine g_lmul hC dX12_aboveAt_34 ?_
      refine g_ladd hC dX12_aboveAt_35 ?_
      refine g_lstore (lv' := [(5, .long (x5 + (q1.1 * q2.1))), (0, .ref (E.2.2.1 t)), (1, .int x1), (2, .int x2), (3, .int x3), (4, .int x4), (7, .int x7)]) hC dX12_aboveAt_36 (by decide) rfl ?_
      refine g_iinc (v := x7 + 1) (lv' := [(7, .int (x7 + 1)), (5, .long (x5 + (q1.1 * q2.1))), (0, .ref (E.2.2.1 t)), (1, .int x1), (2, .int x2), (3, .int x3), (4, .int x4)]) hC dX12_aboveAt_38 6 rfl rfl (by decide) rfl ?_
      refine g_goto (tgt := 6) hC dX12_aboveAt_41 (by decide) ?_
      exact g_sub [2, 3, 4, 5, 6, 1, 0] rfl (ih (x5 + (q1.1 * q2.1)) (x7 + 1) q2.2 h)
set_option maxHeartbeats 4000000 in
set_option maxRecDepth 100000 in
theorem k_X12_aboveAt_0 {E : ET} {F : FT} {fo : Option (Int64 × HS)} (hC : Cx E F 8 cX12_aboveAt RX12 GT) (hO : Ro F rm_X12_aboveAt) (hR : RJ E F fo) (hf : fo ≠ none) (t : Nat) (ht1 : kd t = 12) (ht2 : AL E t) (x1 : Int32) (x2 : Int32) (x3 : Int32) (x4 : Int32) (σ : HS) (h : f_X12_aboveAt t x1 x2 x3 x4 σ = fo) : G E F 0 [(0, .ref (E.2.2.1 t)), (1, .int x1), (2, .int x2), (3, .int x3), (4, .int x4)] [] σ := by
    refine g_lconst (v := 0) hC dX12_aboveAt_0 (by decide) ?_
    refine g_lstore (lv' := [(5, .long 0), (0, .ref (E.2.2.1 t)), (1, .int x1), (2, .int x2), (3, .int x3), (4, .int x4)]) hC dX12_aboveAt_1 (by decide) rfl ?_
    refine g_iconst (v := 0) hC dX12_aboveAt_3 (by decide) ?_
    refine g_istore (lv' := [(7, .int 0), (5, .long 0), (0, .ref (E.2.2.1 t)), (1, .int x1), (2, .int x2), (3, .int x3), (4, .int x4)]) hC dX12_aboveAt_4 (by decide) rfl ?_
    exact g_sub [2, 3, 4, 5, 6, 1, 0] rfl (k_X12_aboveAt_6 hC hO hR hf t ht1 ht2 x1 x2 x3 x4 FU 0 0 σ h)
theorem xk_X12_aboveAt (R : Room) (h1 : 4 + 1 ≤ R.frames) (h2 : 177 ≤ R.locals) : xw R yX12_aboveAt w_X12_aboveAt GT cX12_aboveAt 8 (some .long) rm_X12_aboveAt 4 := ⟨rfl, rfl, rfl, h1, h2, ⟨by decide, by decide⟩, by decide +kernel⟩
theorem c_X12_aboveAt (E : ET) (hE : EO E) (t : Nat) (ht1 : kd t = 12) (ht2 : AL E t) (x1 : Int32) (x2 : Int32) (x3 : Int32) (x4 : Int32) (σ : HS) (hn : f_X12_aboveAt t x1 x2 x3 x4 σ ≠ none) : CoJ E yX12_aboveAt w_X12_aboveAt rm_X12_aboveAt [.ref (E.2.2.1 t), .int x1, .int x2, .int x3, .int x4] σ (f_X12_aboveAt t x1 x2 x3 x4 σ) := CoJ.of (lv := [(0, .ref (E.2.2.1 t)), (1, .int x1), (2, .int x2), (3, .int x3), (4, .int x4)]) hE (plainFor_of_name (by decide)) rfl (Nat.le_of_ble_eq_true rfl) rfl (fun F hC hO hR => k_X12_aboveAt_0 hC hO hR hn t ht1 ht2 x1 x2 x3 x4 σ rfl)
def rm_X12_sumAt : Room := { frames := 1, cells := 0, slots := 0, locals := 35 }
set_option maxHeartbeats 4000000 in
set_option maxRecDepth 100000 in
theorem k_X12_sumAt_5 {E : ET} {F : FT} {fo : Option (Int64 × HS)} (hC : Cx E F 6 cX12_sumAt RX12 GT) (hO : Ro F rm_X12_sumAt) (hR : RJ E F fo) (hf : fo ≠ none) (t : Nat) (ht1 : kd t = 12) (ht2 : AL E t) (x1 : Int32) (x2 : Int32) : ∀ (n : Nat) (x3 : Int64) (x5 : Int32) (σ : HS), f_X12_sumAt_5 t x1 x2 n x3 x5 σ = fo → G E F 5 [(0, .ref (E.2.2.1 t)), (1, .int x1), (2, .int x2), (3, .long x3), (5, .int x5)] [] σ := by
  intro n
  induction n with
  | zero =>
    intro x3 x5 σ h
    exact absurd (h.symm.trans rfl) hf
  | succ n ih =>
    intro x3 x5 σ h
    refine g_iload hC dX12_sumAt_5 4 rfl ?_
    refine g_aload_n hC dX12_sumAt_7 rfl 0 rfl ?_
    refine g_getI (k := 20) hC cr12 ui_12 ht1 ht2 (by decide) fl_X12_193 rfl rfl dX12_sumAt_8 ?_
    refine g_icmp_ge (tgt := 31) hC dX12_sumAt_11 (by decide) h (fun c11 h => ?_) (fun c11 h => ?_)
    · refine g_lload_n hC dX12_sumAt_31 rfl 3 rfl ?_
      exact g_lret hC hR dX12_sumAt_32 h
    · refine g_lload_n hC dX12_sumAt_14 rfl 3 rfl ?_
      refine g_aload_n hC dX12_sumAt_15 rfl 0 rfl ?_
      refine g_iload_n hC dX12_sumAt_16 rfl 1 rfl ?_
      refine g_iload_n hC dX12_sumAt_17 rfl 2 rfl ?_
      refine g_iload hC dX12_sumAt_18 4 rfl ?_
      obtain ⟨q1, hq1, h⟩ := bd_of h hf
      refine g_cVJ (As := [.int x1, .int x2, .int x5]) hC hO (c_X12_weightAt _ hC.2.2.2.2.2.2.1 t ht1 ht2 x1 x2 x5 σ (nn_of hq1)) gc_X12_316 (xk_X12_weightAt _ (Nat.le_of_ble_eq_true rfl) (Nat.le_of_ble_eq_true rfl)) cr12 ht1 ht2 rfl (Nat.le_of_ble_eq_true rfl) dX12_sumAt_20 hq1 ?_
      refine g_ladd hC dX12_sumAt_23 ?_
      refine g_lstore_n (lv' := [(3, .long (x3 + q1.1)), (0, .ref (E.2.2.1 t)), (1, .int x1), (2, .int x2), (5, .int x5)]) hC dX12_sumAt_24 rfl (by decide) rfl ?_
      refine g_iinc (v := x5 + 1) (lv' := [(5, .int (x5 + 1)), (3, .long (x3 + q1.1)), (0, .ref (E.2.2.1 t)), (1, .int x1), (2, .int x2)]) hC dX12_sumAt_25 4 rfl rfl (by decide) rfl ?_
      refine g_goto (tgt := 5) hC dX12_sumAt_28 (by decide) ?_
      exact g_sub [2, 3, 4, 1, 0] rfl (ih (x3 + q1.1) (x5 + 1) q1.2 h)
set_option maxHeartbeats 4000000 in
set_option maxRecDepth 100000 in
theorem k_X12_sumAt_0 {E : ET} {F : FT} {fo : Option (Int64 × HS)} (hC : Cx E F 6 cX12_sumAt RX12 GT) (hO : Ro F rm_X12_sumAt) (hR : RJ E F fo) (hf : fo ≠ none) (t : Nat) (ht1 : kd t = 12) (ht2 : AL E t) (x1 : Int32) (x2 : Int32) (σ : HS) (h : f_X12_sumAt t x1 x2 σ = fo) : G E F 0 [(0, .ref (E.2.2.1 t)), (1, .int x1), (2, .int x2)] [] σ := by
    refine g_lconst (v := 0) hC dX12_sumAt_0 (by decide) ?_
    refine g_lstore_n (lv' := [(3, .long 0), (0, .ref (E.2.2.1 t)), (1, .int x1), (2, .int x2)]) hC dX12_sumAt_1 rfl (by decide) rfl ?_
    refine g_iconst (v := 0) hC dX12_sumAt_2 (by decide) ?_
    refine g_istore (lv' := [(5, .int 0), (3, .long 0), (0, .ref (E.2.2.1 t)), (1, .int x1), (2, .int x2)]) hC dX12_sumAt_3 (by decide) rfl ?_
    exact g_sub [2, 3, 4, 1, 0] rfl (k_X12_sumAt_5 hC hO hR hf t ht1 ht2 x1 x2 FU 0 0 σ h)
theorem xk_X12_sumAt (R : Room) (h1 : 1 + 1 ≤ R.frames) (h2 : 72 ≤ R.locals) : xw R yX12_sumAt w_X12_sumAt GT cX12_sumAt 6 (some .long) rm_X12_sumAt 2 := ⟨rfl, rfl, rfl, h1, h2, ⟨by decide, by decide⟩, by decide +kernel⟩
theorem c_X12_sumAt (E : ET) (hE : EO E) (t : Nat) (ht1 : kd t = 12) (ht2 : AL E t) (x1 : Int32) (x2 : Int32) (σ : HS) (hn : f_X12_sumAt t x1 x2 σ ≠ none) : CoJ E yX12_sumAt w_X12_sumAt rm_X12_sumAt [.ref (E.2.2.1 t), .int x1, .int x2] σ (f_X12_sumAt t x1 x2 σ) := CoJ.of (lv := [(0, .ref (E.2.2.1 t)), (1, .int x1), (2, .int x2)]) hE (plainFor_of_name (by decide)) rfl (Nat.le_of_ble_eq_true rfl) rfl (fun F hC hO hR => k_X12_sumAt_0 hC hO hR hn t ht1 ht2 x1 x2 σ rfl)
def rm_X12_isBetter : Room := { frames := 5, cells := 0, slots := 0, locals := 177 }
theorem wc_X12_aboveAt : Cond.code yX12_aboveAt cX12_aboveAt 8 (some .long) ∈ GT := gtr_37 _ (List.mem_of_getElem? (i := 23) rfl)
theorem gc_X12_319 : GoodIn GT (wsV RX12 319 RX12 yX12_aboveAt w_X12_aboveAt) := gi_V (gtr_37 _ (List.mem_of_getElem? (i := 20) rfl)) (gtr_37 _ (List.mem_of_getElem? (i := 21) rfl)) (gtr_37 _ (List.mem_of_getElem? (i := 22) rfl)) (gtr_1 _ (List.mem_of_getElem? (i := 5) rfl)) wc_X12_aboveAt
set_option maxHeartbeats 4000000 in
set_option maxRecDepth 100000 in
theorem k_X12_isBetter_41 {E : ET} {F : FT} {fo : Option (Int32 × HS)} (hC : Cx E F 6 cX12_isBetter RX12 GT) (hO : Ro F rm_X12_isBetter) (hR : RI E F .boolean fo) (hf : fo ≠ none) (t : Nat) (ht1 : kd t = 12) (ht2 : AL E t) (x1 : Int32) (x2 : Int32) (x3 : Int32) (x5 : Int32) (s0 : Int32) (r6 : Int32 → Int32 → HS → Option (Int32 × HS)) (h6 : ∀ (x4 : Int32) (x5 : Int32) (σ : HS), r6 x4 x5 σ = fo → G E F 6 [(0, .ref (E.2.2.1 t)), (1, .int x1), (2, .int x2), (3, .int x3), (4, .int x4), (5, .int x5)] [] σ) (σ : HS) (h : f_X12_isBetter_41 r6 t x1 x2 x3 x5 s0 σ = fo) : G E F 41 [(0, .ref (E.2.2.1 t)), (1, .int x1), (2, .int x2), (3, .int x3), (5, .int x5)] [.int s0] σ := by
    refine g_istore (lv' := [(4, .int s0), (0, .ref (E.2.2.1 t)), (1, .int x1), (2, .int x2), (3, .int x3), (5, .int x5)]) hC dX12_isBetter_41 (by decide) rfl ?_
    refine g_iinc (v := x5 + 1) (lv' := [(5, .int (x5 + 1)), (4, .int s0), (0, .ref (E.2.2.1 t)), (1, .int x1), (2, .int x2), (3, .int x3)]) hC dX12_isBetter_43 5 rfl rfl (by decide) rfl ?_
    refine g_goto (tgt := 6) hC dX12_isBetter_46 (by decide) ?_
    exact g_sub [2, 3, 4, 5, 1, 0] rfl (h6 s0 (x5 + 1) σ h)
set_option maxHeartbeats 4000000 in
set_option maxRecDepth 100000 in
theorem k_X12_isBetter_40 {E : ET} {F : FT} {fo : Option (Int32 × HS)} (hC : Cx E F 6 cX12_isBetter RX12 GT) (hO : Ro F rm_X12_isBetter) (hR : RI E F .boolean fo) (hf : fo ≠ none) (t : Nat) (ht1 : kd t = 12) (ht2 : AL E t) (x1 : Int32) (x2 : Int32) (x3 : Int32) (x5 : Int32) (r6 : Int32 → Int32 → HS → Option (Int32 × HS)) (h6 : ∀ (x4 : Int32) (x5 : Int32) (σ : HS), r6 x4 x5 σ = fo → G E F 6 [(0, .ref (E.2.2.1 t)), (1, .int x1), (2, .int x2), (3, .int x3), (4, .int x4), (5, .int x5)] [] σ) (σ : HS) (h : f_X12_isBetter_40 r6 t x1 x2 x3 x5 σ = fo) : G E F 40 [(0, .ref (E.2.2.1 t)), (1, .int x1), (2, .int x2), (3, .int x3), (5, .int x5)] [] σ := by
    refine g_iconst (v := 0) hC dX12_isBetter_40 (by decide) ?_
    exact g_sub [0, 1, 2, 3, 4] rfl (k_X12_isBetter_41 hC hO hR hf t ht1 ht2 x1 x2 x3 x5 0 r6 h6 σ h)
set_option maxHeartbeats 4000000 in
set_option maxRecDepth 100000 in
theorem k_X12_isBetter_6 {E : ET} {F : FT} {fo : Option (Int32 × HS)} (hC : Cx E F 6 cX12_isBetter RX12 GT) (hO : Ro F rm_X12_isBetter) (hR : RI E F .boolean fo) (hf : fo ≠ none) (t : Nat) (ht1 : kd t = 12) (ht2 : AL E t) (x1 : Int32) (x2 : Int32) (x3 : Int32) : ∀ (n : Nat) (x4 : Int32) (x5 : Int32) (σ : HS), f_X12_isBetter_6 t x1 x2 x3 n x4 x5 σ = fo → G E F 6 [(0, .ref (E.2.2.1 t)), (1, .int x1), (2, .int x2), (3, .int x3), (4, .int x4), (5, .int x5)] [] σ := by
  intro n
  induction n with
  | zero =>
    intro x4 x5 σ h
    exact absurd (h.symm.trans rfl) hf
  | succ n ih =>
    intro x4 x5 σ h
    refine g_iload hC dX12_isBetter_6 5 rfl ?_
    refine g_aload_n hC dX12_isBetter_8 rfl 0 rfl ?_
    refine g_getR (cj := 14) (k := 28) hC cr12 ui_12 ht1 ht2 (by decide) fl_X12_112 rfl rfl dX12_isBetter_9 h hf (fun a1 ea1 ka1 na1 h => ?_)
    refine g_iload_n hC dX12_isBetter_12 rfl 3 rfl ?_
    refine g_iald hC ka1 na1 dX12_isBetter_13 h hf (fun h => ?_)
    refine g_icmp_ge (tgt := 49) hC dX12_isBetter_14 (by decide) h (fun c14 h => ?_) (fun c14 h => ?_)
    · refine g_iload hC dX12_isBetter_49 4 rfl ?_
      obtain ⟨hz, h⟩ := zr_of h hf
      exact g_iret hC hR dX12_isBetter_51 hz h
    · refine g_iload hC dX12_isBetter_17 4 rfl ?_
      refine g_if_eq (tgt := 40) hC dX12_isBetter_19 (by decide) h (fun c19 h => ?_) (fun c19 h => ?_)
      · exact g_sub [0, 1, 2, 3, 5] rfl (k_X12_isBetter_40 hC hO hR hf t ht1 ht2 x1 x2 x3 x5 (f_X12_isBetter_6 t x1 x2 x3 n) ih σ h)
      · refine g_aload_n hC dX12_isBetter_22 rfl 0 rfl ?_
        refine g_iload_n hC dX12_isBetter_23 rfl 1 rfl ?_
        refine g_iload_n hC dX12_isBetter_24 rfl 2 rfl ?_
        refine g_iload_n hC dX12_isBetter_25 rfl 3 rfl ?_
        refine g_iload hC dX12_isBetter_26 5 rfl ?_
        obtain ⟨q2, hq2, h⟩ := bd_of h hf
        refine g_cVJ (As := [.int x1, .int x2, .int x3, .int x5]) hC hO (c_X12_aboveAt _ hC.2.2.2.2.2.2.1 t ht1 ht2 x1 x2 x3 x5 σ (nn_of hq2)) gc_X12_319 (xk_X12_aboveAt _ (Nat.le_of_ble_eq_true rfl) (Nat.le_of_ble_eq_true rfl)) cr12 ht1 ht2 rfl (Nat.le_of_ble_eq_true rfl) dX12_isBetter_28 hq2 ?_
        refine g_lconst (v := 0) hC dX12_isBetter_31 (by decide) ?_
        refine g_lc_lt (tgt := 40) hC dX12_isBetter_32 dX12_isBetter_33 (by decide) h (fun c32 h => ?_) (fun c32 h => ?_)
        · exact g_sub [0, 1, 2, 3, 5] rfl (k_X12_isBetter_40 hC hO hR hf t ht1 ht2 x1 x2 x3 x5 (f_X12_isBetter_6 t x1 x2 x3 n) ih q2.2 h)
        · refine g_iconst (v := 1) hC dX12_isBetter_36 (by decide) ?_
          refine g_goto (tgt := 41) hC dX12_isBetter_37 (by decide) ?_
          exact g_sub [0, 1, 2, 3, 5] rfl (k_X12_isBetter_41 hC hO hR hf t ht1 ht2 x1 x2 x3 x5 1 (f_X12_isBetter_6 t x1 x2 x3 n) ih q2.2 h)
set_option maxHeartbeats 4000000 in
set_option maxRecDepth 100000 in
theorem k_X12_isBetter_0 {E : ET} {F : FT} {fo : Option (Int32 × HS)} (hC : Cx E F 6 cX12_isBetter RX12 GT) (hO : Ro F rm_X12_isBetter) (hR : RI E F .boolean fo) (hf : fo ≠ none) (t : Nat) (ht1 : kd t = 12) (ht2 : AL E t) (x1 : Int32) (x2 : Int32) (x3 : Int32) (σ : HS) (h : f_X12_isBetter t x1 x2 x3 σ = fo) : G E F 0 [(0, .ref (E.2.2.1 t)), (1, .int x1), (2, .int x2), (3, .int x3)] [] σ := by
    refine g_iconst (v := 1) hC dX12_isBetter_0 (by decide) ?_
    refine g_istore (lv' := [(4, .int 1), (0, .ref (E.2.2.1 t)), (1, .int x1), (2, .int x2), (3, .int x3)]) hC dX12_isBetter_1 (by decide) rfl ?_
    refine g_iconst (v := 0) hC dX12_isBetter_3 (by decide) ?_
    refine g_istore (lv' := [(5, .int 0), (4, .int 1), (0, .ref (E.2.2.1 t)), (1, .int x1), (2, .int x2), (3, .int x3)]) hC dX12_isBetter_4 (by decide) rfl ?_
    exact g_sub [2, 3, 4, 5, 1, 0] rfl (k_X12_isBetter_6 hC hO hR hf t ht1 ht2 x1 x2 x3 FU 1 0 σ h)
theorem xk_X12_isBetter (R : Room) (h1 : 5 + 1 ≤ R.frames) (h2 : 214 ≤ R.locals) : xw R yX12_isBetter w_X12_isBetter GT cX12_isBetter 6 (some .boolean) rm_X12_isBetter 3 := ⟨rfl, rfl, rfl, h1, h2, ⟨by decide, by decide⟩, by decide +kernel⟩
theorem c_X12_isBetter (E : ET) (hE : EO E) (t : Nat) (ht1 : kd t = 12) (ht2 : AL E t) (x1 : Int32) (x2 : Int32) (x3 : Int32) (σ : HS) (hn : f_X12_isBetter t x1 x2 x3 σ ≠ none) : CoI E yX12_isBetter w_X12_isBetter rm_X12_isBetter [.ref (E.2.2.1 t), .int x1, .int x2, .int x3] σ (f_X12_isBetter t x1 x2 x3 σ) := CoI.of (lv := [(0, .ref (E.2.2.1 t)), (1, .int x1), (2, .int x2), (3, .int x3)]) hE (plainFor_of_name (by decide)) rfl (Nat.le_of_ble_eq_true rfl) rfl (fun F hC hO hR => k_X12_isBetter_0 hC hO hR hn t ht1 ht2 x1 x2 x3 σ rfl)
