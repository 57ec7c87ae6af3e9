def rm_X2_settle : Room := { frames := 4, cells := 0, slots := 0, locals := 141 }
theorem gc_X2_64 : GoodIn GT (va_wsS RX2 64 yJ6_bitCount_0f7a4 w_J6_bitCount_0f7a4) := gi_S (gtr_53 _ (List.mem_of_getElem? (i := 19) rfl)) (gtr_25 _ (List.mem_of_getElem? (i := 12) rfl)) (gtr_25 _ (List.mem_of_getElem? (i := 13) rfl)) wc_J6_bitCount_0f7a4
theorem fl_X2_30 : Cond.fieldLink RX2 30 "EveryMeasure$Crowd" (TX2 1).2.1 (TX2 1).2.2.1 ∈ GT := gtr_6 _ (List.mem_of_getElem? (i := 19) rfl)
theorem wc_X4_surelyBest : Cond.code yX4_surelyBest cX4_surelyBest 4 (some .int) ∈ GT := gtr_41 _ (List.mem_of_getElem? (i := 13) rfl)
theorem gc_X2_88 : GoodIn GT (wsV RX2 88 RX4 yX4_surelyBest w_X4_surelyBest) := gi_V (gtr_54 _ (List.mem_of_getElem? (i := 0) rfl)) (gtr_41 _ (List.mem_of_getElem? (i := 11) rfl)) (gtr_41 _ (List.mem_of_getElem? (i := 12) rfl)) (gtr_2 _ (List.mem_of_getElem? (i := 8) rfl)) wc_X4_surelyBest
set_option maxHeartbeats 4000000 in
set_option maxRecDepth 100000 in
theorem k_X2_settle_91 {E : ET} {F : FT} {fo : Option HS} (hC : Cx E F 4 cX2_settle RX2 GT) (hO : Ro F rm_X2_settle) (hR : RV E F fo) (hf : fo ≠ none) (σ : HS) (h : f_X2_settle_91 σ = fo) : G E F 91 [] [] σ := by
    exact g_vret hC hR dX2_settle_91 h
set_option maxHeartbeats 4000000 in
set_option maxRecDepth 100000 in
theorem k_X2_settle_86 {E : ET} {F : FT} {fo : Option HS} (hC : Cx E F 4 cX2_settle RX2 GT) (hO : Ro F rm_X2_settle) (hR : RV E F fo) (hf : fo ≠ none) (t : Nat) (ht1 : kd t = 2) (ht2 : AL E t) (x2 : Int32) (σ : HS) (h : f_X2_settle_86 t x2 σ = fo) : G E F 86 [(0, .ref (E.2.2.1 t)), (2, .int x2)] [] σ := by
    refine g_aload_n hC dX2_settle_86 rfl 0 rfl ?_
    refine g_iload_n hC dX2_settle_87 rfl 1 rfl ?_
    refine g_putI (k := 5) hC cr2 ui_2 tyX2_ok nmX2 ht1 ht2 (by decide) fl_X2_23 rfl rfl rfl rfl dX2_settle_88 ?_
    exact g_sub [] rfl (k_X2_settle_91 hC hO hR hf (sI σ t 5 x2) h)
set_option maxHeartbeats 4000000 in
set_option maxRecDepth 100000 in
theorem k_X2_settle_50 {E : ET} {F : FT} {fo : Option HS} (hC : Cx E F 4 cX2_settle RX2 GT) (hO : Ro F rm_X2_settle) (hR : RV E F fo) (hf : fo ≠ none) (t : Nat) (ht1 : kd t = 2) (ht2 : AL E t) (x2 : Int32) (s0 : Int32) (s1 : Int32) (σ : HS) (h : f_X2_settle_50 t x2 s0 s1 σ = fo) : G E F 50 [(0, .ref (E.2.2.1 t)), (2, .int x2)] [.int s0, .int s1] σ := by
    refine g_isub hC dX2_settle_50 ?_
    refine g_istore_n (lv' := [(3, .int (s1 - s0)), (0, .ref (E.2.2.1 t)), (2, .int x2)]) hC dX2_settle_51 rfl (by decide) rfl ?_
    refine g_iload_n hC dX2_settle_52 rfl 0 rfl ?_
    refine g_if_gt (tgt := 86) hC dX2_settle_53 (by decide) h (fun c53 h => ?_) (fun c53 h => ?_)
    · exact g_sub [1, 2] rfl (k_X2_settle_86 hC hO hR hf t ht1 ht2 x2 σ h)
    · refine g_iload_n hC dX2_settle_56 rfl 0 rfl ?_
      refine g_if_ne (tgt := 91) hC dX2_settle_57 (by decide) h (fun c57 h => ?_) (fun c57 h => ?_)
      · exact g_sub [] rfl (k_X2_settle_91 hC hO hR hf σ h)
      · refine g_aload_n hC dX2_settle_60 rfl 1 rfl ?_
        refine g_getI (k := 4) hC cr2 ui_2 ht1 ht2 (by decide) fl_X2_19 rfl rfl dX2_settle_61 ?_
        refine g_if_eq (tgt := 78) hC dX2_settle_64 (by decide) h (fun c64 h => ?_) (fun c64 h => ?_)
        · refine g_iload_n hC dX2_settle_78 rfl 2 rfl ?_
          refine g_aload_n hC dX2_settle_79 rfl 1 rfl ?_
          refine g_getI (k := 5) hC cr2 ui_2 ht1 ht2 (by decide) fl_X2_23 rfl rfl dX2_settle_80 ?_
          refine g_icmp_ge (tgt := 91) hC dX2_settle_83 (by decide) h (fun c83 h => ?_) (fun c83 h => ?_)
          · exact g_sub [] rfl (k_X2_settle_91 hC hO hR hf σ h)
          · exact g_sub [1, 2] rfl (k_X2_settle_86 hC hO hR hf t ht1 ht2 x2 σ h)
        · refine g_iload_n hC dX2_settle_67 rfl 2 rfl ?_
          refine g_aload_n hC dX2_settle_68 rfl 1 rfl ?_
          refine g_getI (k := 5) hC cr2 ui_2 ht1 ht2 (by decide) fl_X2_23 rfl rfl dX2_settle_69 ?_
          refine g_icmp_le (tgt := 91) hC dX2_settle_72 (by decide) h (fun c72 h => ?_) (fun c72 h => ?_)
          · exact g_sub [] rfl (k_X2_settle_91 hC hO hR hf σ h)
          · refine g_goto (tgt := 86) hC dX2_settle_75 (by decide) ?_
            exact g_sub [1, 2] rfl (k_X2_settle_86 hC hO hR hf t ht1 ht2 x2 σ h)
set_option maxHeartbeats 4000000 in
set_option maxRecDepth 100000 in
theorem k_X2_settle_27 {E : ET} {F : FT} {fo : Option HS} (hC : Cx E F 4 cX2_settle RX2 GT) (hO : Ro F rm_X2_settle) (hR : RV E F fo) (hf : fo ≠ none) (t : Nat) (ht1 : kd t = 2) (ht2 : AL E t) (x2 : Int32) (σ : HS) (h : f_X2_settle_27 t x2 σ = fo) : G E F 27 [(0, .ref (E.2.2.1 t)), (2, .int x2)] [] σ := by
    refine g_iload_n hC dX2_settle_27 rfl 1 rfl ?_
    obtain ⟨q1, hq1, h⟩ := bd_of h hf
    refine g_cSI (As := [.int x2]) hC hO (c_J6_bitCount_0f7a4 _ hC.2.2.2.2.2.2.1 x2 σ (nn_of hq1)) gc_X2_64 (xk_J6_bitCount_0f7a4 _ (Nat.le_of_ble_eq_true rfl) (Nat.le_of_ble_eq_true rfl)) rfl (Nat.le_of_ble_eq_true rfl) dX2_settle_28 hq1 ?_
    refine g_aload_n hC dX2_settle_31 rfl 0 rfl ?_
    refine g_getI (k := 5) hC cr2 ui_2 ht1 ht2 (by decide) fl_X2_23 rfl rfl dX2_settle_32 ?_
    refine g_iconst (v := (-1)) hC dX2_settle_35 (by decide) ?_
    refine g_icmp_ne (tgt := 43) hC dX2_settle_36 (by decide) h (fun c36 h => ?_) (fun c36 h => ?_)
    · refine g_aload_n hC dX2_settle_43 rfl 0 rfl ?_
      refine g_getI (k := 5) hC cr2 ui_2 ht1 ht2 (by decide) fl_X2_23 rfl rfl dX2_settle_44 ?_
      obtain ⟨q2, hq2, h⟩ := bd_of h hf
      refine g_cSI (As := [.int (q1.2.1 t 5)]) hC hO (c_J6_bitCount_0f7a4 _ hC.2.2.2.2.2.2.1 (q1.2.1 t 5) q1.2 (nn_of hq2)) gc_X2_64 (xk_J6_bitCount_0f7a4 _ (Nat.le_of_ble_eq_true rfl) (Nat.le_of_ble_eq_true rfl)) rfl (Nat.le_of_ble_eq_true rfl) dX2_settle_47 hq2 ?_
      exact g_sub [0, 1] rfl (k_X2_settle_50 hC hO hR hf t ht1 ht2 x2 q2.1 q1.1 q2.2 h)
    · refine g_iconst (v := (-1)) hC dX2_settle_39 (by decide) ?_
      refine g_goto (tgt := 50) hC dX2_settle_40 (by decide) ?_
      exact g_sub [0, 1] rfl (k_X2_settle_50 hC hO hR hf t ht1 ht2 x2 (-1) q1.1 q1.2 h)
set_option maxHeartbeats 4000000 in
set_option maxRecDepth 100000 in
theorem k_X2_settle_0 {E : ET} {F : FT} {fo : Option HS} (hC : Cx E F 4 cX2_settle RX2 GT) (hO : Ro F rm_X2_settle) (hR : RV E F fo) (hf : fo ≠ none) (t : Nat) (ht1 : kd t = 2) (ht2 : AL E t) (x1 : Int32) (x2 : Int32) (σ : HS) (h : f_X2_settle t x1 x2 σ = fo) : G E F 0 [(0, .ref (E.2.2.1 t)), (1, .int x1), (2, .int x2)] [] σ := by
    refine g_aload_n hC dX2_settle_0 rfl 0 rfl ?_
    refine g_getI (k := 4) hC cr2 ui_2 ht1 ht2 (by decide) fl_X2_19 rfl rfl dX2_settle_1 ?_
    refine g_if_eq (tgt := 27) hC dX2_settle_4 (by decide) h (fun c4 h => ?_) (fun c4 h => ?_)
    · exact g_sub [0, 2] rfl (k_X2_settle_27 hC hO hR hf t ht1 ht2 x2 σ h)
    · refine g_aload_n hC dX2_settle_7 rfl 0 rfl ?_
      refine g_getR (cj := 4) (k := 1) hC cr2 ui_2 ht1 ht2 (by decide) fl_X2_30 rfl rfl dX2_settle_8 h hf (fun a1 ea1 ka1 na1 h => ?_)
      refine g_aload_n hC dX2_settle_11 rfl 0 rfl ?_
      refine g_getR (cj := 10) (k := 0) hC cr2 ui_2 ht1 ht2 (by decide) fl_X2_26 rfl rfl dX2_settle_12 h hf (fun a2 ea2 ka2 na2 h => ?_)
      refine g_getR (cj := 17) (k := 3) hC cr10 ui_10 ka2 na2 (by decide) fl_X2_48 rfl rfl dX2_settle_15 h hf (fun a3 ea3 ka3 na3 h => ?_)
      refine g_iload_n hC dX2_settle_18 rfl 1 rfl ?_
      refine g_aaldC (cj := 1) hC ka3 na3 dX2_settle_19 h hf (fun a4 ea4 ka4 na4 h => ?_)
      obtain ⟨q5, hq5, h⟩ := bd_of h hf
      refine g_cVI (As := [.ref (E.2.2.1 a4)]) hC hO (c_X4_surelyBest _ hC.2.2.2.2.2.2.1 a1 ka1 na1 a4 ka4 na4 σ (nn_of hq5)) gc_X2_88 (xk_X4_surelyBest _ (Nat.le_of_ble_eq_true rfl) (Nat.le_of_ble_eq_true rfl)) cr4 ka1 na1 rfl (Nat.le_of_ble_eq_true rfl) dX2_settle_20 hq5 ?_
      refine g_if_ne (tgt := 27) hC dX2_settle_23 (by decide) h (fun c23 h => ?_) (fun c23 h => ?_)
      · exact g_sub [0, 2] rfl (k_X2_settle_27 hC hO hR hf t ht1 ht2 x2 q5.2 h)
      · exact g_vret hC hR dX2_settle_26 h
theorem xk_X2_settle (R : Room) (h1 : 4 + 1 ≤ R.frames) (h2 : 176 ≤ R.locals) : xw R yX2_settle w_X2_settle GT cX2_settle 4 none rm_X2_settle 2 := ⟨rfl, rfl, rfl, h1, h2, ⟨by decide, by decide⟩, by decide +kernel⟩
theorem c_X2_settle (E : ET) (hE : EO E) (t : Nat) (ht1 : kd t = 2) (ht2 : AL E t) (x1 : Int32) (x2 : Int32) (σ : HS) (hn : f_X2_settle t x1 x2 σ ≠ none) : CoV E yX2_settle w_X2_settle rm_X2_settle [.ref (E.2.2.1 t), .int x1, .int x2] σ (f_X2_settle t x1 x2 σ) := CoV.of (lv := [(0, .ref (E.2.2.1 t)), (1, .int x1), (2, .int x2)]) hE (plainFor_of_name (by decide)) rfl (Nat.le_of_ble_eq_true rfl) rfl (fun F hC hO hR => k_X2_settle_0 hC hO hR hn t ht1 ht2 x1 x2 σ rfl)
def rm_X2_hear : Room := { frames := 3, cells := 0, slots := 0, locals := 126 }
theorem fl_X2_80 : Cond.fieldLink RX2 80 "EveryMeasure$Weights" (TX10 0).2.1 (TX10 0).2.2.1 ∈ GT := gtr_54 _ (List.mem_of_getElem? (i := 5) rfl)
theorem wc_X1_becomeCut : Cond.code yX1_becomeCut cX1_becomeCut 7 none ∈ GT := gtr_25 _ (List.mem_of_getElem? (i := 2) rfl)
theorem gc_X2_84 : GoodIn GT (wsV RX2 84 RX1 yX1_becomeCut w_X1_becomeCut) := gi_V (gtr_54 _ (List.mem_of_getElem? (i := 6) rfl)) (gtr_25 _ (List.mem_of_getElem? (i := 0) rfl)) (gtr_25 _ (List.mem_of_getElem? (i := 1) rfl)) (gtr_4 _ (List.mem_of_getElem? (i := 21) rfl)) wc_X1_becomeCut
set_option maxHeartbeats 4000000 in
set_option maxRecDepth 100000 in
theorem k_X2_hear_65 {E : ET} {F : FT} {fo : Option (Int32 × HS)} (hC : Cx E F 5 cX2_hear RX2 GT) (hO : Ro F rm_X2_hear) (hR : RI E F .int fo) (hf : fo ≠ none) (t : Nat) (ht1 : kd t = 2) (ht2 : AL E t) (x1 : Int32) (x3 : Int32) (x4 : Int32) (r5 : Int32 → Int32 → HS → Option (Int32 × HS)) (h5 : ∀ (x3 : Int32) (x4 : Int32) (σ : HS), r5 x3 x4 σ = fo → G E F 5 [(0, .ref (E.2.2.1 t)), (1, .int x1), (3, .int x3), (4, .int x4)] [] σ) (σ : HS) (h : f_X2_hear_65 r5 t x1 x3 x4 σ = fo) : G E F 65 [(0, .ref (E.2.2.1 t)), (1, .int x1), (3, .int x3), (4, .int x4)] [] σ := by
    refine g_iinc (v := x4 + 1) (lv' := [(4, .int (x4 + 1)), (0, .ref (E.2.2.1 t)), (1, .int x1), (3, .int x3)]) hC dX2_hear_65 3 rfl rfl (by decide) rfl ?_
    refine g_goto (tgt := 5) hC dX2_hear_68 (by decide) ?_
    exact g_sub [1, 2, 3, 0] rfl (h5 x3 (x4 + 1) σ h)
set_option maxHeartbeats 4000000 in
set_option maxRecDepth 100000 in
theorem k_X2_hear_5 {E : ET} {F : FT} {fo : Option (Int32 × HS)} (hC : Cx E F 5 cX2_hear RX2 GT) (hO : Ro F rm_X2_hear) (hR : RI E F .int fo) (hf : fo ≠ none) (t : Nat) (ht1 : kd t = 2) (ht2 : AL E t) (x1 : Int32) : ∀ (n : Nat) (x3 : Int32) (x4 : Int32) (σ : HS), f_X2_hear_5 t x1 n x3 x4 σ = fo → G E F 5 [(0, .ref (E.2.2.1 t)), (1, .int x1), (3, .int x3), (4, .int x4)] [] σ := by
  intro n
  induction n with
  | zero =>
    intro x3 x4 σ h
    exact absurd (h.symm.trans rfl) hf
  | succ n ih =>
    intro x3 x4 σ h
    refine g_iload hC dX2_hear_5 3 rfl ?_
    refine g_bipush (v := 12) hC dX2_hear_7 (by decide) ?_
    refine g_icmp_ge (tgt := 71) hC dX2_hear_9 (by decide) h (fun c9 h => ?_) (fun c9 h => ?_)
    · refine g_iload_n hC dX2_hear_71 rfl 2 rfl ?_
      exact g_iret hC hR dX2_hear_72 rfl h
    · refine g_iload_n hC dX2_hear_12 rfl 1 rfl ?_
      refine g_iconst (v := 1) hC dX2_hear_13 (by decide) ?_
      refine g_iload hC dX2_hear_14 3 rfl ?_
      refine g_ishl hC dX2_hear_16 ?_
      refine g_iand hC dX2_hear_17 ?_
      refine g_if_eq (tgt := 65) hC dX2_hear_18 (by decide) h (fun c18 h => ?_) (fun c18 h => ?_)
      · exact g_sub [0, 1, 2, 3] rfl (k_X2_hear_65 hC hO hR hf t ht1 ht2 x1 x3 x4 (f_X2_hear_5 t x1 n) ih σ h)
      · refine g_iload_n hC dX2_hear_21 rfl 2 rfl ?_
        refine g_iconst (v := 1) hC dX2_hear_22 (by decide) ?_
        refine g_iadd hC dX2_hear_23 ?_
        refine g_bipush (v := 13) hC dX2_hear_24 (by decide) ?_
        refine g_icmp_ge (tgt := 65) hC dX2_hear_26 (by decide) h (fun c26 h => ?_) (fun c26 h => ?_)
        · exact g_sub [0, 1, 2, 3] rfl (k_X2_hear_65 hC hO hR hf t ht1 ht2 x1 x3 x4 (f_X2_hear_5 t x1 n) ih σ h)
        · refine g_aload_n hC dX2_hear_29 rfl 0 rfl ?_
          refine g_getR (cj := 10) (k := 0) hC cr2 ui_2 ht1 ht2 (by decide) fl_X2_26 rfl rfl dX2_hear_30 h hf (fun a1 ea1 ka1 na1 h => ?_)
          refine g_getR (cj := 17) (k := 3) hC cr10 ui_10 ka1 na1 (by decide) fl_X2_48 rfl rfl dX2_hear_33 h hf (fun a2 ea2 ka2 na2 h => ?_)
          refine g_iload_n hC dX2_hear_36 rfl 2 rfl ?_
          refine g_iconst (v := 1) hC dX2_hear_37 (by decide) ?_
          refine g_iadd hC dX2_hear_38 ?_
          refine g_aaldC (cj := 1) hC ka2 na2 dX2_hear_39 h hf (fun a3 ea3 ka3 na3 h => ?_)
          refine g_aload_n hC dX2_hear_40 rfl 0 rfl ?_
          refine g_getR (cj := 10) (k := 0) hC cr2 ui_2 ht1 ht2 (by decide) fl_X2_26 rfl rfl dX2_hear_41 h hf (fun a4 ea4 ka4 na4 h => ?_)
          refine g_getR (cj := 17) (k := 3) hC cr10 ui_10 ka4 na4 (by decide) fl_X2_48 rfl rfl dX2_hear_44 h hf (fun a5 ea5 ka5 na5 h => ?_)
          refine g_iload_n hC dX2_hear_47 rfl 2 rfl ?_
          refine g_aaldC (cj := 1) hC ka5 na5 dX2_hear_48 h hf (fun a6 ea6 ka6 na6 h => ?_)
          refine g_aload_n hC dX2_hear_49 rfl 0 rfl ?_
          refine g_getR (cj := 10) (k := 0) hC cr2 ui_2 ht1 ht2 (by decide) fl_X2_26 rfl rfl dX2_hear_50 h hf (fun a7 ea7 ka7 na7 h => ?_)
          refine g_getR (cj := 18) (k := 0) hC cr10 ui_10 ka7 na7 (by decide) fl_X2_80 rfl rfl dX2_hear_53 h hf (fun a8 ea8 ka8 na8 h => ?_)
          refine g_iload hC dX2_hear_56 3 rfl ?_
          refine g_aaldI (cj := 14) hC ka8 na8 dX2_hear_58 h hf (fun a9 ea9 ka9 na9 h => ?_)
          obtain ⟨q10, hq10, h⟩ := bd_of h hf
          refine g_cVV (As := [.ref (E.2.2.1 a6), .ref (E.2.2.1 a9)]) hC hO (c_X1_becomeCut _ hC.2.2.2.2.2.2.1 a3 ka3 na3 a6 ka6 na6 a9 ka9 na9 σ (nn_of hq10)) gc_X2_84 (xk_X1_becomeCut _ (Nat.le_of_ble_eq_true rfl) (Nat.le_of_ble_eq_true rfl)) cr1 ka3 na3 rfl (Nat.le_of_ble_eq_true rfl) dX2_hear_59 hq10 ?_
          refine g_iinc (v := x3 + 1) (lv' := [(3, .int (x3 + 1)), (0, .ref (E.2.2.1 t)), (1, .int x1), (4, .int x4)]) hC dX2_hear_62 2 rfl rfl (by decide) rfl ?_
          exact g_sub [1, 2, 0, 3] rfl (k_X2_hear_65 hC hO hR hf t ht1 ht2 x1 (x3 + 1) x4 (f_X2_hear_5 t x1 n) ih q10 h)
set_option maxHeartbeats 4000000 in
set_option maxRecDepth 100000 in
theorem k_X2_hear_0 {E : ET} {F : FT} {fo : Option (Int32 × HS)} (hC : Cx E F 5 cX2_hear RX2 GT) (hO : Ro F rm_X2_hear) (hR : RI E F .int fo) (hf : fo ≠ none) (t : Nat) (ht1 : kd t = 2) (ht2 : AL E t) (x1 : Int32) (x2 : Int32) (σ : HS) (h : f_X2_hear t x1 x2 σ = fo) : G E F 0 [(0, .ref (E.2.2.1 t)), (1, .int x1), (2, .int x2)] [] σ := by
    refine g_iload_n hC dX2_hear_0 rfl 2 rfl ?_
    refine g_istore_n (lv' := [(3, .int x2), (0, .ref (E.2.2.1 t)), (1, .int x1), (2, .int x2)]) hC dX2_hear_1 rfl (by decide) rfl ?_
    refine g_iconst (v := 0) hC dX2_hear_2 (by decide) ?_
    refine g_istore (lv' := [(4, .int 0), (3, .int x2), (0, .ref (E.2.2.1 t)), (1, .int x1), (2, .int x2)]) hC dX2_hear_3 (by decide) rfl ?_
    exact g_sub [2, 3, 1, 0] rfl (k_X2_hear_5 hC hO hR hf t ht1 ht2 x1 FU x2 0 σ h)
theorem xk_X2_hear (R : Room) (h1 : 3 + 1 ≤ R.frames) (h2 : 162 ≤ R.locals) : xw R yX2_hear w_X2_hear GT cX2_hear 5 (some .int) rm_X2_hear 2 := ⟨rfl, rfl, rfl, h1, h2, ⟨by decide, by decide⟩, by decide +kernel⟩
theorem c_X2_hear (E : ET) (hE : EO E) (t : Nat) (ht1 : kd t = 2) (ht2 : AL E t) (x1 : Int32) (x2 : Int32) (σ : HS) (hn : f_X2_hear t x1 x2 σ ≠ none) : CoI E yX2_hear w_X2_hear rm_X2_hear [.ref (E.2.2.1 t), .int x1, .int x2] σ (f_X2_hear t x1 x2 σ) := CoI.of (lv := [(0, .ref (E.2.2.1 t)), (1, .int x1), (2, .int x2)]) hE (plainFor_of_name (by decide)) rfl (Nat.le_of_ble_eq_true rfl) rfl (fun F hC hO hR => k_X2_hear_0 hC hO hR hn t ht1 ht2 x1 x2 σ rfl)
def rm_X2_ask (i : Nat) : Room := { frames := 5 + i, cells := 0, slots := 0, locals := 176 + i * 39 }
theorem xk_X2_ask (i : Nat) (R : Room) (h1 : (rm_X2_ask i).frames + 1 ≤ R.frames) (h2 : 39 + (rm_X2_ask i).locals ≤ R.locals) : xw R yX2_ask w_X2_ask GT cX2_ask 8 (some .boolean) (rm_X2_ask i) 3 := ⟨rfl, rfl, rfl, h1, h2, ⟨by decide, by decide⟩, by decide +kernel⟩
theorem wc_X2_hear : Cond.code yX2_hear cX2_hear 5 (some .int) ∈ GT := gtr_54 _ (List.mem_of_getElem? (i := 4) rfl)
theorem gc_X2_73 : GoodIn GT (wsV RX2 73 RX2 yX2_hear w_X2_hear) := gi_V (gtr_54 _ (List.mem_of_getElem? (i := 1) rfl)) (gtr_54 _ (List.mem_of_getElem? (i := 2) rfl)) (gtr_54 _ (List.mem_of_getElem? (i := 3) rfl)) (gtr_2 _ (List.mem_of_getElem? (i := 16) rfl)) wc_X2_hear
theorem fl_X2_77 : Cond.fieldLink RX2 77 "EveryMeasure$Cone" (TX1 5).2.1 (TX1 5).2.2.1 ∈ GT := gtr_53 _ (List.mem_of_getElem? (i := 18) rfl)
theorem wc_X2_ask : Cond.code yX2_ask cX2_ask 8 (some .boolean) ∈ GT := gtr_53 _ (List.mem_of_getElem? (i := 17) rfl)
theorem gc_X2_38 : GoodIn GT (wsV RX2 38 RX2 yX2_ask w_X2_ask) := gi_V (gtr_53 _ (List.mem_of_getElem? (i := 14) rfl)) (gtr_53 _ (List.mem_of_getElem? (i := 15) rfl)) (gtr_53 _ (List.mem_of_getElem? (i := 16) rfl)) (gtr_2 _ (List.mem_of_getElem? (i := 16) rfl)) wc_X2_ask
theorem wc_X2_settle : Cond.code yX2_settle cX2_settle 4 none ∈ GT := gtr_53 _ (List.mem_of_getElem? (i := 23) rfl)
theorem gc_X2_69 : GoodIn GT (wsV RX2 69 RX2 yX2_settle w_X2_settle) := gi_V (gtr_53 _ (List.mem_of_getElem? (i := 20) rfl)) (gtr_53 _ (List.mem_of_getElem? (i := 21) rfl)) (gtr_53 _ (List.mem_of_getElem? (i := 22) rfl)) (gtr_2 _ (List.mem_of_getElem? (i := 16) rfl)) wc_X2_settle
set_option maxHeartbeats 4000000 in
set_option maxRecDepth 100000 in
theorem k_X2_ask_136 {E : ET} {F : FT} {fo : Option (Int32 × HS)} {d : Nat} (hC : Cx E F 8 cX2_ask RX2 GT) (hO : Ro F (rm_X2_ask (1 * d + 1))) (hR : RI E F .boolean fo) (hf : fo ≠ none) (rc : Nat → Int32 → Int32 → Int32 → HS → Option (Int32 × HS)) (hrc : ∀ (t : Nat) (_ : kd t = 2) (_ : AL E t) (x1 : Int32) (x2 : Int32) (x3 : Int32) (σ : HS), rc t x1 x2 x3 σ ≠ none → CoI E yX2_ask w_X2_ask (rm_X2_ask (1 * d)) [.ref (E.2.2.1 t), .int x1, .int x2, .int x3] σ (rc t x1 x2 x3 σ)) (x7 : Int32) (σ : HS) (h : f_X2_ask_136 rc x7 σ = fo) : G E F 136 [(7, .int x7)] [] σ := by
    refine g_iload hC dX2_ask_136 0 rfl ?_
    obtain ⟨hz, h⟩ := zr_of h hf
    exact g_iret hC hR dX2_ask_138 hz h
set_option maxHeartbeats 4000000 in
set_option maxRecDepth 100000 in
theorem k_X2_ask_113 {E : ET} {F : FT} {fo : Option (Int32 × HS)} {d : Nat} (hC : Cx E F 8 cX2_ask RX2 GT) (hO : Ro F (rm_X2_ask (1 * d + 1))) (hR : RI E F .boolean fo) (hf : fo ≠ none) (rc : Nat → Int32 → Int32 → Int32 → HS → Option (Int32 × HS)) (hrc : ∀ (t : Nat) (_ : kd t = 2) (_ : AL E t) (x1 : Int32) (x2 : Int32) (x3 : Int32) (σ : HS), rc t x1 x2 x3 σ ≠ none → CoI E yX2_ask w_X2_ask (rm_X2_ask (1 * d)) [.ref (E.2.2.1 t), .int x1, .int x2, .int x3] σ (rc t x1 x2 x3 σ)) (t : Nat) (ht1 : kd t = 2) (ht2 : AL E t) (x1 : Int32) (x2 : Int32) (x3 : Int32) (x6 : Int32) (s0 : Int32) (σ : HS) (h : f_X2_ask_113 rc t x1 x2 x3 x6 s0 σ = fo) : G E F 113 [(0, .ref (E.2.2.1 t)), (1, .int x1), (2, .int x2), (3, .int x3), (6, .int x6)] [.int s0] σ := by
    refine g_istore (lv' := [(7, .int s0), (0, .ref (E.2.2.1 t)), (1, .int x1), (2, .int x2), (3, .int x3), (6, .int x6)]) hC dX2_ask_113 (by decide) rfl ?_
    refine g_iload hC dX2_ask_115 0 rfl ?_
    refine g_if_ne (tgt := 136) hC dX2_ask_117 (by decide) h (fun c117 h => ?_) (fun c117 h => ?_)
    · exact g_sub [0] rfl (k_X2_ask_136 hC hO hR hf rc hrc s0 σ h)
    · refine g_iload hC dX2_ask_120 5 rfl ?_
      refine g_iload_n hC dX2_ask_122 rfl 3 rfl ?_
      refine g_icmp_eq (tgt := 136) hC dX2_ask_123 (by decide) h (fun c123 h => ?_) (fun c123 h => ?_)
      · exact g_sub [0] rfl (k_X2_ask_136 hC hO hR hf rc hrc s0 σ h)
      · refine g_aload_n hC dX2_ask_126 rfl 1 rfl ?_
        refine g_iload_n hC dX2_ask_127 rfl 2 rfl ?_
        refine g_iconst (v := 1) hC dX2_ask_128 (by decide) ?_
        refine g_isub hC dX2_ask_129 ?_
        refine g_iload_n hC dX2_ask_130 rfl 3 rfl ?_
        refine g_iload_n hC dX2_ask_131 rfl 4 rfl ?_
        obtain ⟨q1, hq1, h⟩ := bd_of h hf
        refine g_cVI (As := [.int (x1 - 1), .int x2, .int x3]) hC hO (hrc t ht1 ht2 (x1 - 1) x2 x3 σ (nn_of hq1)) gc_X2_38 (xk_X2_ask (1 * d) _ (by simp only [rm_X2_ask]; omega) (by simp only [rm_X2_ask]; omega)) cr2 ht1 ht2 rfl (Nat.le_of_ble_eq_true rfl) dX2_ask_132 hq1 ?_
        refine g_pop hC dX2_ask_135 rfl ?_
        exact g_sub [0] rfl (k_X2_ask_136 hC hO hR hf rc hrc s0 q1.2 h)
set_option maxHeartbeats 4000000 in
set_option maxRecDepth 100000 in
theorem k_X2_ask_112 {E : ET} {F : FT} {fo : Option (Int32 × HS)} {d : Nat} (hC : Cx E F 8 cX2_ask RX2 GT) (hO : Ro F (rm_X2_ask (1 * d + 1))) (hR : RI E F .boolean fo) (hf : fo ≠ none) (rc : Nat → Int32 → Int32 → Int32 → HS → Option (Int32 × HS)) (hrc : ∀ (t : Nat) (_ : kd t = 2) (_ : AL E t) (x1 : Int32) (x2 : Int32) (x3 : Int32) (σ : HS), rc t x1 x2 x3 σ ≠ none → CoI E yX2_ask w_X2_ask (rm_X2_ask (1 * d)) [.ref (E.2.2.1 t), .int x1, .int x2, .int x3] σ (rc t x1 x2 x3 σ)) (t : Nat) (ht1 : kd t = 2) (ht2 : AL E t) (x1 : Int32) (x2 : Int32) (x3 : Int32) (x6 : Int32) (σ : HS) (h : f_X2_ask_112 rc t x1 x2 x3 x6 σ = fo) : G E F 112 [(0, .ref (E.2.2.1 t)), (1, .int x1), (2, .int x2), (3, .int x3), (6, .int x6)] [] σ := by
    refine g_iconst (v := 0) hC dX2_ask_112 (by decide) ?_
    exact g_sub [0, 1, 2, 3, 4] rfl (k_X2_ask_113 hC hO hR hf rc hrc t ht1 ht2 x1 x2 x3 x6 0 σ h)
set_option maxHeartbeats 4000000 in
set_option maxRecDepth 100000 in
theorem k_X2_ask_41 {E : ET} {F : FT} {fo : Option (Int32 × HS)} {d : Nat} (hC : Cx E F 8 cX2_ask RX2 GT) (hO : Ro F (rm_X2_ask (1 * d + 1))) (hR : RI E F .boolean fo) (hf : fo ≠ none) (rc : Nat → Int32 → Int32 → Int32 → HS → Option (Int32 × HS)) (hrc : ∀ (t : Nat) (_ : kd t = 2) (_ : AL E t) (x1 : Int32) (x2 : Int32) (x3 : Int32) (σ : HS), rc t x1 x2 x3 σ ≠ none → CoI E yX2_ask w_X2_ask (rm_X2_ask (1 * d)) [.ref (E.2.2.1 t), .int x1, .int x2, .int x3] σ (rc t x1 x2 x3 σ)) (t : Nat) (ht1 : kd t = 2) (ht2 : AL E t) (x1 : Int32) (x2 : Int32) (x3 : Int32) (σ : HS) (h : f_X2_ask_41 rc t x1 x2 x3 σ = fo) : G E F 41 [(0, .ref (E.2.2.1 t)), (1, .int x1), (2, .int x2), (3, .int x3)] [] σ := by
    refine g_iload_n hC dX2_ask_41 rfl 1 rfl ?_
    refine g_if_ge (tgt := 53) hC dX2_ask_42 (by decide) h (fun c42 h => ?_) (fun c42 h => ?_)
    · refine g_aload_n hC dX2_ask_53 rfl 0 rfl ?_
      refine g_getI (k := 3) hC cr2 ui_2 ht1 ht2 (by decide) fl_X2_15 rfl rfl dX2_ask_54 ?_
      refine g_iconst (v := 1) hC dX2_ask_57 (by decide) ?_
      refine g_iload_n hC dX2_ask_58 rfl 1 rfl ?_
      refine g_ishl hC dX2_ask_59 ?_
      refine g_iand hC dX2_ask_60 ?_
      refine g_istore (lv' := [(5, .int ((σ.1 t 3) &&& ((1 : Int32) <<< (x1 &&& 31)))), (0, .ref (E.2.2.1 t)), (1, .int x1), (2, .int x2), (3, .int x3)]) hC dX2_ask_61 (by decide) rfl ?_
      refine g_aload_n hC dX2_ask_63 rfl 1 rfl ?_
      refine g_aload_n hC dX2_ask_64 rfl 1 rfl ?_
      refine g_getR (cj := 14) (k := 2) hC cr2 ui_2 ht1 ht2 (by decide) fl_X2_9 rfl rfl dX2_ask_65 h hf (fun a1 ea1 ka1 na1 h => ?_)
      refine g_iload_n hC dX2_ask_68 rfl 2 rfl ?_
      refine g_iald hC ka1 na1 dX2_ask_69 h hf (fun h => ?_)
      refine g_iload_n hC dX2_ask_70 rfl 3 rfl ?_
      obtain ⟨q2, hq2, h⟩ := bd_of h hf
      refine g_cVI (As := [.int (σ.1 a1 x1.toNatClampNeg), .int x2]) hC hO (c_X2_hear _ hC.2.2.2.2.2.2.1 t ht1 ht2 (σ.1 a1 x1.toNatClampNeg) x2 σ (nn_of hq2)) gc_X2_73 (xk_X2_hear _ (by simp only [rm_X2_ask]; omega) (by simp only [rm_X2_ask]; omega)) cr2 ht1 ht2 rfl (Nat.le_of_ble_eq_true rfl) dX2_ask_71 hq2 ?_
      refine g_istore (lv' := [(6, .int q2.1), (5, .int ((σ.1 t 3) &&& ((1 : Int32) <<< (x1 &&& 31)))), (0, .ref (E.2.2.1 t)), (1, .int x1), (2, .int x2), (3, .int x3)]) hC dX2_ask_74 (by decide) rfl ?_
      refine g_aload_n hC dX2_ask_76 rfl 2 rfl ?_
      refine g_getR (cj := 10) (k := 0) hC cr2 ui_2 ht1 ht2 (by decide) fl_X2_26 rfl rfl dX2_ask_77 h hf (fun a3 ea3 ka3 na3 h => ?_)
      refine g_getR (cj := 17) (k := 3) hC cr10 ui_10 ka3 na3 (by decide) fl_X2_48 rfl rfl dX2_ask_80 h hf (fun a4 ea4 ka4 na4 h => ?_)
      refine g_iload hC dX2_ask_83 0 rfl ?_
      refine g_aaldC (cj := 1) hC ka4 na4 dX2_ask_85 h hf (fun a5 ea5 ka5 na5 h => ?_)
      refine g_getI (k := 5) hC cr1 ui_1 ka5 na5 (by decide) fl_X2_77 rfl rfl dX2_ask_86 ?_
      refine g_if_le (tgt := 112) hC dX2_ask_89 (by decide) h (fun c89 h => ?_) (fun c89 h => ?_)
      · exact g_sub [2, 3, 4, 5, 0] rfl (k_X2_ask_112 hC hO hR hf rc hrc t ht1 ht2 x1 x2 x3 q2.1 q2.2 h)
      · refine g_aload_n hC dX2_ask_92 rfl 2 rfl ?_
        refine g_iload_n hC dX2_ask_93 rfl 3 rfl ?_
        refine g_iconst (v := 1) hC dX2_ask_94 (by decide) ?_
        refine g_isub hC dX2_ask_95 ?_
        refine g_iload hC dX2_ask_96 0 rfl ?_
        refine g_iload_n hC dX2_ask_98 rfl 5 rfl ?_
        refine g_iload hC dX2_ask_99 1 rfl ?_
        refine g_ior hC dX2_ask_101 ?_
        obtain ⟨q6, hq6, h⟩ := bd_of h hf
        refine g_cVI (As := [.int (x1 - 1), .int q2.1, .int (x3 ||| ((σ.1 t 3) &&& ((1 : Int32) <<< (x1 &&& 31))))]) hC hO (hrc t ht1 ht2 (x1 - 1) q2.1 (x3 ||| ((σ.1 t 3) &&& ((1 : Int32) <<< (x1 &&& 31)))) q2.2 (nn_of hq6)) gc_X2_38 (xk_X2_ask (1 * d) _ (by simp only [rm_X2_ask]; omega) (by simp only [rm_X2_ask]; omega)) cr2 ht1 ht2 rfl (Nat.le_of_ble_eq_true rfl) dX2_ask_102 hq6 ?_
        refine g_if_eq (tgt := 112) hC dX2_ask_105 (by decide) h (fun c105 h => ?_) (fun c105 h => ?_)
        · exact g_sub [2, 3, 4, 5, 0] rfl (k_X2_ask_112 hC hO hR hf rc hrc t ht1 ht2 x1 x2 x3 q2.1 q6.2 h)
        · refine g_iconst (v := 1) hC dX2_ask_108 (by decide) ?_
          refine g_goto (tgt := 113) hC dX2_ask_109 (by decide) ?_
          exact g_sub [2, 3, 4, 5, 0] rfl (k_X2_ask_113 hC hO hR hf rc hrc t ht1 ht2 x1 x2 x3 q2.1 1 q6.2 h)
    · refine g_aload_n hC dX2_ask_45 rfl 0 rfl ?_
      refine g_iload_n hC dX2_ask_46 rfl 2 rfl ?_
      refine g_iload_n hC dX2_ask_47 rfl 3 rfl ?_
      obtain ⟨q7, hq7, h⟩ := bd_of h hf
      refine g_cVV (As := [.int x2, .int x3]) hC hO (c_X2_settle _ hC.2.2.2.2.2.2.1 t ht1 ht2 x2 x3 σ (nn_of hq7)) gc_X2_69 (xk_X2_settle _ (by simp only [rm_X2_ask]; omega) (by simp only [rm_X2_ask]; omega)) cr2 ht1 ht2 rfl (Nat.le_of_ble_eq_true rfl) dX2_ask_48 hq7 ?_
      refine g_iconst (v := 1) hC dX2_ask_51 (by decide) ?_
      exact g_iret hC hR dX2_ask_52 rfl h
set_option maxHeartbeats 4000000 in
set_option maxRecDepth 100000 in
theorem k_X2_ask_0 {E : ET} {F : FT} {fo : Option (Int32 × HS)} {d : Nat} (hC : Cx E F 8 cX2_ask RX2 GT) (hO : Ro F (rm_X2_ask (1 * d + 1))) (hR : RI E F .boolean fo) (hf : fo ≠ none) (rc : Nat → Int32 → Int32 → Int32 → HS → Option (Int32 × HS)) (hrc : ∀ (t : Nat) (_ : kd t = 2) (_ : AL E t) (x1 : Int32) (x2 : Int32) (x3 : Int32) (σ : HS), rc t x1 x2 x3 σ ≠ none → CoI E yX2_ask w_X2_ask (rm_X2_ask (1 * d)) [.ref (E.2.2.1 t), .int x1, .int x2, .int x3] σ (rc t x1 x2 x3 σ)) (t : Nat) (ht1 : kd t = 2) (ht2 : AL E t) (x1 : Int32) (x2 : Int32) (x3 : Int32) (σ : HS) (h : f_X2_ask_0 rc t x1 x2 x3 σ = fo) : G E F 0 [(0, .ref (E.2.2.1 t)), (1, .int x1), (2, .int x2), (3, .int x3)] [] σ := by
    refine g_aload_n hC dX2_ask_0 rfl 0 rfl ?_
    refine g_getI (k := 3) hC cr2 ui_2 ht1 ht2 (by decide) fl_X2_15 rfl rfl dX2_ask_1 ?_
    refine g_iconst (v := 1) hC dX2_ask_4 (by decide) ?_
    refine g_iload_n hC dX2_ask_5 rfl 1 rfl ?_
    refine g_iconst (v := 1) hC dX2_ask_6 (by decide) ?_
    refine g_iadd hC dX2_ask_7 ?_
    refine g_ishl hC dX2_ask_8 ?_
    refine g_iconst (v := 1) hC dX2_ask_9 (by decide) ?_
    refine g_isub hC dX2_ask_10 ?_
    refine g_iand hC dX2_ask_11 ?_
    refine g_istore (lv' := [(4, .int ((σ.1 t 3) &&& (((1 : Int32) <<< ((x1 + 1) &&& 31)) - 1))), (0, .ref (E.2.2.1 t)), (1, .int x1), (2, .int x2), (3, .int x3)]) hC dX2_ask_12 (by decide) rfl ?_
    refine g_aload_n hC dX2_ask_14 rfl 1 rfl ?_
    refine g_getI (k := 5) hC cr2 ui_2 ht1 ht2 (by decide) fl_X2_23 rfl rfl dX2_ask_15 ?_
    refine g_iconst (v := (-1)) hC dX2_ask_18 (by decide) ?_
    refine g_icmp_eq (tgt := 41) hC dX2_ask_19 (by decide) h (fun c19 h => ?_) (fun c19 h => ?_)
    · exact g_sub [1, 2, 3, 4] rfl (k_X2_ask_41 hC hO hR hf rc hrc t ht1 ht2 x1 x2 x3 σ h)
    · refine g_iload_n hC dX2_ask_22 rfl 4 rfl ?_
      refine g_iload hC dX2_ask_23 0 rfl ?_
      refine g_ior hC dX2_ask_25 ?_
      obtain ⟨q1, hq1, h⟩ := bd_of h hf
      refine g_cSI (As := [.int (x3 ||| ((σ.1 t 3) &&& (((1 : Int32) <<< ((x1 + 1) &&& 31)) - 1)))]) hC hO (c_J6_bitCount_0f7a4 _ hC.2.2.2.2.2.2.1 (x3 ||| ((σ.1 t 3) &&& (((1 : Int32) <<< ((x1 + 1) &&& 31)) - 1))) σ (nn_of hq1)) gc_X2_64 (xk_J6_bitCount_0f7a4 _ (by simp only [rm_X2_ask]; omega) (by simp only [rm_X2_ask]; omega)) rfl (Nat.le_of_ble_eq_true rfl) dX2_ask_26 hq1 ?_
      refine g_aload_n hC dX2_ask_29 rfl 1 rfl ?_
      refine g_getI (k := 5) hC cr2 ui_2 ht1 ht2 (by decide) fl_X2_23 rfl rfl dX2_ask_30 ?_
      obtain ⟨q2, hq2, h⟩ := bd_of h hf
      refine g_cSI (As := [.int (q1.2.1 t 5)]) hC hO (c_J6_bitCount_0f7a4 _ hC.2.2.2.2.2.2.1 (q1.2.1 t 5) q1.2 (nn_of hq2)) gc_X2_64 (xk_J6_bitCount_0f7a4 _ (by simp only [rm_X2_ask]; omega) (by simp only [rm_X2_ask]; omega)) rfl (Nat.le_of_ble_eq_true rfl) dX2_ask_33 hq2 ?_
      refine g_icmp_ge (tgt := 41) hC dX2_ask_36 (by decide) h (fun c36 h => ?_) (fun c36 h => ?_)
      · exact g_sub [1, 2, 3, 4] rfl (k_X2_ask_41 hC hO hR hf rc hrc t ht1 ht2 x1 x2 x3 q2.2 h)
      · refine g_iconst (v := 0) hC dX2_ask_39 (by decide) ?_
        exact g_iret hC hR dX2_ask_40 rfl h
theorem c_X2_ask (E : ET) (hE : EO E) : ∀ (d : Nat) (t : Nat) (ht1 : kd t = 2) (ht2 : AL E t) (x1 : Int32) (x2 : Int32) (x3 : Int32) (σ : HS), f_X2_ask d t x1 x2 x3 σ ≠ none → CoI E yX2_ask w_X2_ask (rm_X2_ask (1 * d)) [.ref (E.2.2.1 t), .int x1, .int x2, .int x3] σ (f_X2_ask d t x1 x2 x3 σ) := by
  intro d
  induction d with
  | zero => intro t ht1 ht2 x1 x2 x3 σ hn; exact absurd rfl hn
  | succ d ih =>
    intro t ht1 ht2 x1 x2 x3 σ hn
    exact CoI.of (lv := [(0, .ref (E.2.2.1 t)), (1, .int x1), (2, .int x2), (3, .int x3)]) hE (plainFor_of_name (by decide)) rfl (Nat.le_of_ble_eq_true rfl) rfl (fun F hC hO hR => k_X2_ask_0 hC hO hR hn (f_X2_ask d) ih t ht1 ht2 x1 x2 x3 σ rfl)
def rm_X2_mostThatAgree : Room := { frames := 18, cells := 0, slots := 0, locals := 683 }
theorem wc_X2_prepare : Cond.code yX2_prepare cX2_prepare 5 none ∈ GT := gtr_53 _ (List.mem_of_getElem? (i := 9) rfl)
theorem gc_X2_34 : GoodIn GT (wsV RX2 34 RX2 yX2_prepare w_X2_prepare) := gi_V (gtr_53 _ (List.mem_of_getElem? (i := 6) rfl)) (gtr_53 _ (List.mem_of_getElem? (i := 7) rfl)) (gtr_53 _ (List.mem_of_getElem? (i := 8) rfl)) (gtr_2 _ (List.mem_of_getElem? (i := 16) rfl)) wc_X2_prepare
set_option maxHeartbeats 4000000 in
set_option maxRecDepth 100000 in
theorem k_X2_mostThatAgree_0 {E : ET} {F : FT} {fo : Option (Int32 × HS)} (hC : Cx E F 2 cX2_mostThatAgree RX2 GT) (hO : Ro F rm_X2_mostThatAgree) (hR : RI E F .int fo) (hf : fo ≠ none) (t : Nat) (ht1 : kd t = 2) (ht2 : AL E t) (x1 : Nat) (hx1a : kd x1 = 0) (hx1b : AL E x1) (σ : HS) (h : f_X2_mostThatAgree t x1 σ = fo) : G E F 0 [(0, .ref (E.2.2.1 t)), (1, .ref (E.2.2.1 x1))] [] σ := by
    refine g_aload_n hC dX2_mostThatAgree_0 rfl 0 rfl ?_
    refine g_aload_n hC dX2_mostThatAgree_1 rfl 1 rfl ?_
    refine g_sipush (v := 255) hC dX2_mostThatAgree_2 (by decide) ?_
    refine g_iconst (v := 0) hC dX2_mostThatAgree_5 (by decide) ?_
    obtain ⟨q1, hq1, h⟩ := bd_of h hf
    refine g_cVV (As := [.ref (E.2.2.1 x1), .int 255, .int 0]) hC hO (c_X2_prepare _ hC.2.2.2.2.2.2.1 t ht1 ht2 x1 hx1a hx1b 255 0 σ (nn_of hq1)) gc_X2_34 (xk_X2_prepare _ (Nat.le_of_ble_eq_true rfl) (Nat.le_of_ble_eq_true rfl)) cr2 ht1 ht2 rfl (Nat.le_of_ble_eq_true rfl) dX2_mostThatAgree_6 hq1 ?_
    refine g_aload_n hC dX2_mostThatAgree_9 rfl 0 rfl ?_
    refine g_bipush (v := 7) hC dX2_mostThatAgree_10 (by decide) ?_
    refine g_iconst (v := 0) hC dX2_mostThatAgree_12 (by decide) ?_
    refine g_iconst (v := 0) hC dX2_mostThatAgree_13 (by decide) ?_
    obtain ⟨q2, hq2, h⟩ := bd_of h hf
    refine g_cVI (As := [.int 7, .int 0, .int 0]) hC hO (c_X2_ask _ hC.2.2.2.2.2.2.1 DEP t ht1 ht2 7 0 0 q1 (nn_of hq2)) gc_X2_38 (xk_X2_ask (1 * DEP) _ (Nat.le_of_ble_eq_true rfl) (Nat.le_of_ble_eq_true rfl)) cr2 ht1 ht2 rfl (Nat.le_of_ble_eq_true rfl) dX2_mostThatAgree_14 hq2 ?_
    refine g_pop hC dX2_mostThatAgree_17 rfl ?_
    refine g_aload_n hC dX2_mostThatAgree_18 rfl 0 rfl ?_
    refine g_getI (k := 5) hC cr2 ui_2 ht1 ht2 (by decide) fl_X2_23 rfl rfl dX2_mostThatAgree_19 ?_
    exact g_iret hC hR dX2_mostThatAgree_22 rfl h
theorem xk_X2_mostThatAgree (R : Room) (h1 : 18 + 1 ≤ R.frames) (h2 : 716 ≤ R.locals) : xw R yX2_mostThatAgree w_X2_mostThatAgree GT cX2_mostThatAgree 2 (some .int) rm_X2_mostThatAgree 1 := ⟨rfl, rfl, rfl, h1, h2, ⟨by decide, by decide⟩, by decide +kernel⟩
theorem c_X2_mostThatAgree (E : ET) (hE : EO E) (t : Nat) (ht1 : kd t = 2) (ht2 : AL E t) (x1 : Nat) (hx1a : kd x1 = 0) (hx1b : AL E x1) (σ : HS) (hn : f_X2_mostThatAgree t x1 σ ≠ none) : CoI E yX2_mostThatAgree w_X2_mostThatAgree rm_X2_mostThatAgree [.ref (E.2.2.1 t), .ref (E.2.2.1 x1)] σ (f_X2_mostThatAgree t x1 σ) := CoI.of (lv := [(0, .ref (E.2.2.1 t)), (1, .ref (E.2.2.1 x1))]) hE (plainFor_of_name (by decide)) rfl (Nat.le_of_ble_eq_true rfl) rfl (fun F hC hO hR => k_X2_mostThatAgree_0 hC hO hR hn t ht1 ht2 x1 hx1a hx1b σ rfl)
def rm_X2_fewestThatYield : Room := { frames := 18, cells := 0, slots := 0, locals := 683 }
set_option maxHeartbeats 4000000 in
set_option maxRecDepth 100000 in
theorem k_X2_fewestThatYield_36 {E : ET} {F : FT} {fo : Option (Int32 × HS)} (hC : Cx E F 3 cX2_fewestThatYield RX2 GT) (hO : Ro F rm_X2_fewestThatYield) (hR : RI E F .int fo) (hf : fo ≠ none) (s0 : Int32) (σ : HS) (h : f_X2_fewestThatYield_36 s0 σ = fo) : G E F 36 [] [.int s0] σ := by
    exact g_iret hC hR dX2_fewestThatYield_36 rfl h
set_option maxHeartbeats 4000000 in
set_option maxRecDepth 100000 in
theorem k_X2_fewestThatYield_0 {E : ET} {F : FT} {fo : Option (Int32 × HS)} (hC : Cx E F 3 cX2_fewestThatYield RX2 GT) (hO : Ro F rm_X2_fewestThatYield) (hR : RI E F .int fo) (hf : fo ≠ none) (t : Nat) (ht1 : kd t = 2) (ht2 : AL E t) (x1 : Nat) (hx1a : kd x1 = 0) (hx1b : AL E x1) (x2 : Int32) (σ : HS) (h : f_X2_fewestThatYield t x1 x2 σ = fo) : G E F 0 [(0, .ref (E.2.2.1 t)), (1, .ref (E.2.2.1 x1)), (2, .int x2)] [] σ := by
    refine g_aload_n hC dX2_fewestThatYield_0 rfl 0 rfl ?_
    refine g_aload_n hC dX2_fewestThatYield_1 rfl 1 rfl ?_
    refine g_iload_n hC dX2_fewestThatYield_2 rfl 2 rfl ?_
    refine g_iconst (v := 1) hC dX2_fewestThatYield_3 (by decide) ?_
    obtain ⟨q1, hq1, h⟩ := bd_of h hf
    refine g_cVV (As := [.ref (E.2.2.1 x1), .int x2, .int 1]) hC hO (c_X2_prepare _ hC.2.2.2.2.2.2.1 t ht1 ht2 x1 hx1a hx1b x2 1 σ (nn_of hq1)) gc_X2_34 (xk_X2_prepare _ (Nat.le_of_ble_eq_true rfl) (Nat.le_of_ble_eq_true rfl)) cr2 ht1 ht2 rfl (Nat.le_of_ble_eq_true rfl) dX2_fewestThatYield_4 hq1 ?_
    refine g_aload_n hC dX2_fewestThatYield_7 rfl 0 rfl ?_
    refine g_bipush (v := 7) hC dX2_fewestThatYield_8 (by decide) ?_
    refine g_iconst (v := 0) hC dX2_fewestThatYield_10 (by decide) ?_
    refine g_iconst (v := 0) hC dX2_fewestThatYield_11 (by decide) ?_
    obtain ⟨q2, hq2, h⟩ := bd_of h hf
    refine g_cVI (As := [.int 7, .int 0, .int 0]) hC hO (c_X2_ask _ hC.2.2.2.2.2.2.1 DEP t ht1 ht2 7 0 0 q1 (nn_of hq2)) gc_X2_38 (xk_X2_ask (1 * DEP) _ (Nat.le_of_ble_eq_true rfl) (Nat.le_of_ble_eq_true rfl)) cr2 ht1 ht2 rfl (Nat.le_of_ble_eq_true rfl) dX2_fewestThatYield_12 hq2 ?_
    refine g_pop hC dX2_fewestThatYield_15 rfl ?_
    refine g_aload_n hC dX2_fewestThatYield_16 rfl 0 rfl ?_
    refine g_getI (k := 5) hC cr2 ui_2 ht1 ht2 (by decide) fl_X2_23 rfl rfl dX2_fewestThatYield_17 ?_
    refine g_iconst (v := (-1)) hC dX2_fewestThatYield_20 (by decide) ?_
    refine g_icmp_ne (tgt := 28) hC dX2_fewestThatYield_21 (by decide) h (fun c21 h => ?_) (fun c21 h => ?_)
    · refine g_iload_n hC dX2_fewestThatYield_28 rfl 2 rfl ?_
      refine g_aload_n hC dX2_fewestThatYield_29 rfl 0 rfl ?_
      refine g_getI (k := 5) hC cr2 ui_2 ht1 ht2 (by decide) fl_X2_23 rfl rfl dX2_fewestThatYield_30 ?_
      refine g_iconst (v := (-1)) hC dX2_fewestThatYield_33 (by decide) ?_
      refine g_ixor hC dX2_fewestThatYield_34 ?_
      refine g_iand hC dX2_fewestThatYield_35 ?_
      exact g_sub [] rfl (k_X2_fewestThatYield_36 hC hO hR hf (x2 &&& ((q2.2.1 t 5) ^^^ (-1))) q2.2 h)
    · refine g_iconst (v := (-1)) hC dX2_fewestThatYield_24 (by decide) ?_
      refine g_goto (tgt := 36) hC dX2_fewestThatYield_25 (by decide) ?_
      exact g_sub [] rfl (k_X2_fewestThatYield_36 hC hO hR hf (-1) q2.2 h)
theorem xk_X2_fewestThatYield (R : Room) (h1 : 18 + 1 ≤ R.frames) (h2 : 717 ≤ R.locals) : xw R yX2_fewestThatYield w_X2_fewestThatYield GT cX2_fewestThatYield 3 (some .int) rm_X2_fewestThatYield 2 := ⟨rfl, rfl, rfl, h1, h2, ⟨by decide, by decide⟩, by decide +kernel⟩
theorem c_X2_fewestThatYield (E : ET) (hE : EO E) (t : Nat) (ht1 : kd t = 2) (ht2 : AL E t) (x1 : Nat) (hx1a : kd x1 = 0) (hx1b : AL E x1) (x2 : Int32) (σ : HS) (hn : f_X2_fewestThatYield t x1 x2 σ ≠ none) : CoI E yX2_fewestThatYield w_X2_fewestThatYield rm_X2_fewestThatYield [.ref (E.2.2.1 t), .ref (E.2.2.1 x1), .int x2] σ (f_X2_fewestThatYield t x1 x2 σ) := CoI.of (lv := [(0, .ref (E.2.2.1 t)), (1, .ref (E.2.2.1 x1)), (2, .int x2)]) hE (plainFor_of_name (by decide)) rfl (Nat.le_of_ble_eq_true rfl) rfl (fun F hC hO hR => k_X2_fewestThatYield_0 hC hO hR hn t ht1 ht2 x1 hx1a hx1b x2 σ rfl)
def rm_X3_become : Room := { frames := 0, cells := 0, slots := 0, locals := 0 }
theorem fl_X3_7 : Cond.fieldLink RX3 7 "EveryMeasure$Fraction" (TX3 0).2.1 (TX3 0).2.2.1 ∈ GT := gtr_7 _ (List.mem_of_getElem? (i := 8) rfl)
theorem fl_X3_13 : Cond.fieldLink RX3 13 "EveryMeasure$Fraction" (TX3 1).2.1 (TX3 1).2.2.1 ∈ GT := gtr_7 _ (List.mem_of_getElem? (i := 9) rfl)
set_option maxHeartbeats 4000000 in
set_option maxRecDepth 100000 in
theorem k_X3_become_0 {E : ET} {F : FT} {fo : Option HS} (hC : Cx E F 5 cX3_become RX3 GT) (hO : Ro F rm_X3_become) (hR : RV E F fo) (hf : fo ≠ none) (t : Nat) (ht1 : kd t = 3) (ht2 : AL E t) (x1 : Int64) (x3 : Int64) (σ : HS) (h : f_X3_become t x1 x3 σ = fo) : G E F 0 [(0, .ref (E.2.2.1 t)), (1, .long x1), (3, .long x3)] [] σ := by
    refine g_aload_n hC dX3_become_0 rfl 0 rfl ?_
    refine g_lload_n hC dX3_become_1 rfl 1 rfl ?_
    refine g_putJ (k := 0) hC cr3 ui_3 tyX3_ok nmX3 ht1 ht2 (by decide) fl_X3_7 rfl rfl rfl rfl dX3_become_2 ?_
    refine g_aload_n hC dX3_become_5 rfl 0 rfl ?_
    refine g_lload_n hC dX3_become_6 rfl 2 rfl ?_
    refine g_putJ (k := 1) hC cr3 ui_3 tyX3_ok nmX3 ht1 ht2 (by decide) fl_X3_13 rfl rfl rfl rfl dX3_become_7 ?_
    exact g_vret hC hR dX3_become_10 h
theorem xk_X3_become (R : Room) (h1 : 0 + 1 ≤ R.frames) (h2 : 36 ≤ R.locals) : xw R yX3_become w_X3_become GT cX3_become 5 none rm_X3_become 2 := ⟨rfl, rfl, rfl, h1, h2, ⟨by decide, by decide⟩, by decide +kernel⟩
theorem c_X3_become (E : ET) (hE : EO E) (t : Nat) (ht1 : kd t = 3) (ht2 : AL E t) (x1 : Int64) (x3 : Int64) (σ : HS) (hn : f_X3_become t x1 x3 σ ≠ none) : CoV E yX3_become w_X3_become rm_X3_become [.ref (E.2.2.1 t), .long x1, .long x3] σ (f_X3_become t x1 x3 σ) := CoV.of (lv := [(0, .ref (E.2.2.1 t)), (1, .long x1), (3, .long x3)]) hE (plainFor_of_name (by decide)) rfl (Nat.le_of_ble_eq_true rfl) rfl (fun F hC hO hR => k_X3_become_0 hC hO hR hn t ht1 ht2 x1 x3 σ rfl)
def rm_X3_isUnder : Room := { frames := 0, cells := 0, slots := 0, locals := 0 }
set_option maxHeartbeats 4000000 in
set_option maxRecDepth 100000 in
theorem k_X3_isUnder_21 {E : ET} {F : FT} {fo : Option (Int32 × HS)} (hC : Cx E F 5 cX3_isUnder RX3 GT) (hO : Ro F rm_X3_isUnder) (hR : RI E F .boolean fo) (hf : fo ≠ none) (s0 : Int32) (σ : HS) (h : f_X3_isUnder_21 s0 σ = fo) : G E F 21 [] [.int s0] σ := by
    obtain ⟨hz, h⟩ := zr_of h hf
    exact g_iret hC hR dX3_isUnder_21 hz h
set_option maxHeartbeats 4000000 in
set_option maxRecDepth 100000 in
theorem k_X3_isUnder_0 {E : ET} {F : FT} {fo : Option (Int32 × HS)} (hC : Cx E F 5 cX3_isUnder RX3 GT) (hO : Ro F rm_X3_isUnder) (hR : RI E F .boolean fo) (hf : fo ≠ none) (t : Nat) (ht1 : kd t = 3) (ht2 : AL E t) (x1 : Int64) (x3 : Int64) (σ : HS) (h : f_X3_isUnder t x1 x3 σ = fo) : G E F 0 [(0, .ref (E.2.2.1 t)), (1, .long x1), (3, .long x3)] [] σ := by
    refine g_aload_n hC dX3_isUnder_0 rfl 0 rfl ?_
    refine g_getJ (k := 0) hC cr3 ui_3 ht1 ht2 (by decide) fl_X3_7 rfl rfl dX3_isUnder_1 ?_
    refine g_lload_n hC dX3_isUnder_4 rfl 2 rfl ?_
    refine g_lmul hC dX3_isUnder_5 ?_
    refine g_lload_n hC dX3_isUnder_6 rfl 1 rfl ?_
    refine g_aload_n hC dX3_isUnder_7 rfl 0 rfl ?_
    refine g_getJ (k := 1) hC cr3 ui_3 ht1 ht2 (by decide) fl_X3_13 rfl rfl dX3_isUnder_8 ?_
    refine g_lmul hC dX3_isUnder_11 ?_
    refine g_lc_ge (tgt := 20) hC dX3_isUnder_12 dX3_isUnder_13 (by decide) h (fun c12 h => ?_) (fun c12 h => ?_)
    · refine g_iconst (v := 0) hC dX3_isUnder_20 (by decide) ?_
      exact g_sub [] rfl (k_X3_isUnder_21 hC hO hR hf 0 σ h)
    · refine g_iconst (v := 1) hC dX3_isUnder_16 (by decide) ?_
      refine g_goto (tgt := 21) hC dX3_isUnder_17 (by decide) ?_
      exact g_sub [] rfl (k_X3_isUnder_21 hC hO hR hf 1 σ h)
theorem xk_X3_isUnder (R : Room) (h1 : 0 + 1 ≤ R.frames) (h2 : 36 ≤ R.locals) : xw R yX3_isUnder w_X3_isUnder GT cX3_isUnder 5 (some .boolean) rm_X3_isUnder 2 := ⟨rfl, rfl, rfl, h1, h2, ⟨by decide, by decide⟩, by decide +kernel⟩
theorem c_X3_isUnder (E : ET) (hE : EO E) (t : Nat) (ht1 : kd t = 3) (ht2 : AL E t) (x1 : Int64) (x3 : Int64) (σ : HS) (hn : f_X3_isUnder t x1 x3 σ ≠ none) : CoI E yX3_isUnder w_X3_isUnder rm_X3_isUnder [.ref (E.2.2.1 t), .long x1, .long x3] σ (f_X3_isUnder t x1 x3 σ) := CoI.of (lv := [(0, .ref (E.2.2.1 t)), (1, .long x1), (3, .long x3)]) hE (plainFor_of_name (by decide)) rfl (Nat.le_of_ble_eq_true rfl) rfl (fun F hC hO hR => k_X3_isUnder_0 hC hO hR hn t ht1 ht2 x1 x3 σ rfl)
def rm_X3_part : Room := { frames := 0, cells := 0, slots := 0, locals := 0 }
set_option maxHeartbeats 4000000 in
set_option maxRecDepth 100000 in
theorem k_X3_part_15 {E : ET} {F : FT} {fo : Option (Int64 × HS)} (hC : Cx E F 2 cX3_part RX3 GT) (hO : Ro F rm_X3_part) (hR : RJ E F fo) (hf : fo ≠ none) (s0 : Int64) (σ : HS) (h : f_X3_part_15 s0 σ = fo) : G E F 15 [] [.long s0] σ := by
    exact g_lret hC hR dX3_part_15 h
set_option maxHeartbeats 4000000 in
set_option maxRecDepth 100000 in
theorem k_X3_part_0 {E : ET} {F : FT} {fo : Option (Int64 × HS)} (hC : Cx E F 2 cX3_part RX3 GT) (hO : Ro F rm_X3_part) (hR : RJ E F fo) (hf : fo ≠ none) (t : Nat) (ht1 : kd t = 3) (ht2 : AL E t) (x1 : Int32) (σ : HS) (h : f_X3_part t x1 σ = fo) : G E F 0 [(0, .ref (E.2.2.1 t)), (1, .int x1)] [] σ := by
    refine g_iload_n hC dX3_part_0 rfl 1 rfl ?_
    refine g_if_ne (tgt := 11) hC dX3_part_1 (by decide) h (fun c1 h => ?_) (fun c1 h => ?_)
    · refine g_aload_n hC dX3_part_11 rfl 0 rfl ?_
      refine g_getJ (k := 1) hC cr3 ui_3 ht1 ht2 (by decide) fl_X3_13 rfl rfl dX3_part_12 ?_
      exact g_sub [] rfl (k_X3_part_15 hC hO hR hf (σ.2.1 t 1) σ h)
    · refine g_aload_n hC dX3_part_4 rfl 0 rfl ?_
      refine g_getJ (k := 0) hC cr3 ui_3 ht1 ht2 (by decide) fl_X3_7 rfl rfl dX3_part_5 ?_
      refine g_goto (tgt := 15) hC dX3_part_8 (by decide) ?_
      exact g_sub [] rfl (k_X3_part_15 hC hO hR hf (σ.2.1 t 0) σ h)
theorem xk_X3_part (R : Room) (h1 : 0 + 1 ≤ R.frames) (h2 : 33 ≤ R.locals) : xw R yX3_part w_X3_part GT cX3_part 2 (some .long) rm_X3_part 1 := ⟨rfl, rfl, rfl, h1, h2, ⟨by decide, by decide⟩, by decide +kernel⟩
theorem c_X3_part (E : ET) (hE : EO E) (t : Nat) (ht1 : kd t = 3) (ht2 : AL E t) (x1 : Int32) (σ : HS) (hn : f_X3_part t x1 σ ≠ none) : CoJ E yX3_part w_X3_part rm_X3_part [.ref (E.2.2.1 t), .int x1] σ (f_X3_part t x1 σ) := CoJ.of (lv := [(0, .ref (E.2.2.1 t)), (1, .int x1)]) hE (plainFor_of_name (by decide)) rfl (Nat.le_of_ble_eq_true rfl) rfl (fun F hC hO hR => k_X3_part_0 hC hO hR hn t ht1 ht2 x1 σ rfl)
def rm_X3_reduce : Room := { frames := 1, cells := 0, slots := 0, locals := 42 }
theorem gc_X3_16 : GoodIn GT (va_wsS RX3 16 yX3_commonDivisor w_X3_commonDivisor) := gi_S (gtr_29 _ (List.mem_of_getElem? (i := 4) rfl)) (gtr_25 _ (List.mem_of_getElem? (i := 23) rfl)) (gtr_3 _ (List.mem_of_getElem? (i := 0) rfl)) wc_X3_commonDivisor
set_option maxHeartbeats 4000000 in
set_option maxRecDepth 100000 in
theorem k_X3_reduce_38 {E : ET} {F : FT} {fo : Option HS} (hC : Cx E F 3 cX3_reduce RX3 GT) (hO : Ro F rm_X3_reduce) (hR : RV E F fo) (hf : fo ≠ none) (σ : HS) (h : f_X3_reduce_38 σ = fo) : G E F 38 [] [] σ := by
    exact g_vret hC hR dX3_reduce_38 h
set_option maxHeartbeats 4000000 in
set_option maxRecDepth 100000 in
theorem k_X3_reduce_0 {E : ET} {F : FT} {fo : Option HS} (hC : Cx E F 3 cX3_reduce RX3 GT) (hO : Ro F rm_X3_reduce) (hR : RV E F fo) (hf : fo ≠ none) (t : Nat) (ht1 : kd t = 3) (ht2 : AL E t) (σ : HS) (h : f_X3_reduce t σ = fo) : G E F 0 [(0, .ref (E.2.2.1 t))] [] σ := by
    refine g_aload_n hC dX3_reduce_0 rfl 0 rfl ?_
    refine g_getJ (k := 0) hC cr3 ui_3 ht1 ht2 (by decide) fl_X3_7 rfl rfl dX3_reduce_1 ?_
    refine g_aload_n hC dX3_reduce_4 rfl 0 rfl ?_
    refine g_getJ (k := 1) hC cr3 ui_3 ht1 ht2 (by decide) fl_X3_13 rfl rfl dX3_reduce_5 ?_
    obtain ⟨q1, hq1, h⟩ := bd_of h hf
    refine g_cSJ (As := [.long (σ.2.1 t 0), .long (σ.2.1 t 1)]) hC hO (c_X3_commonDivisor _ hC.2.2.2.2.2.2.1 (σ.2.1 t 0) (σ.2.1 t 1) σ (nn_of hq1)) gc_X3_16 (xk_X3_commonDivisor _ (Nat.le_of_ble_eq_true rfl) (Nat.le_of_ble_eq_true rfl)) rfl (Nat.le_of_ble_eq_true rfl) dX3_reduce_8 hq1 ?_
    refine g_lstore_n (lv' := [(1, .long q1.1), (0, .ref (E.2.2.1 t))]) hC dX3_reduce_11 rfl (by decide) rfl ?_
    refine g_lload_n hC dX3_reduce_12 rfl 0 rfl ?_
    refine g_lconst (v := 1) hC dX3_reduce_13 (by decide) ?_
    refine g_lc_le (tgt := 38) hC dX3_reduce_14 dX3_reduce_15 (by decide) h (fun c14 h => ?_) (fun c14 h => ?_)
    · exact g_sub [] rfl (k_X3_reduce_38 hC hO hR hf q1.2 h)
    · refine g_aload_n hC dX3_reduce_18 rfl 1 rfl ?_
      refine g_dup hC dX3_reduce_19 rfl ?_
      refine g_getJ (k := 0) hC cr3 ui_3 ht1 ht2 (by decide) fl_X3_7 rfl rfl dX3_reduce_20 ?_
      refine g_lload_n hC dX3_reduce_23 rfl 0 rfl ?_
      obtain ⟨hz24, h⟩ := nz_of h hf
      refine g_ldiv hC dX3_reduce_24 hz24 ?_
      refine g_putJ (k := 0) hC cr3 ui_3 tyX3_ok nmX3 ht1 ht2 (by decide) fl_X3_7 rfl rfl rfl rfl dX3_reduce_25 ?_
      refine g_aload_n hC dX3_reduce_28 rfl 1 rfl ?_
      refine g_dup hC dX3_reduce_29 rfl ?_
      refine g_getJ (k := 1) hC cr3 ui_3 ht1 ht2 (by decide) fl_X3_13 rfl rfl dX3_reduce_30 ?_
      refine g_lload_n hC dX3_reduce_33 rfl 0 rfl ?_
      obtain ⟨hz34, h⟩ := nz_of h hf
      refine g_ldiv hC dX3_reduce_34 hz34 ?_
      refine g_putJ (k := 1) hC cr3 ui_3 tyX3_ok nmX3 ht1 ht2 (by decide) fl_X3_13 rfl rfl rfl rfl dX3_reduce_35 ?_
      exact g_sub [] rfl (k_X3_reduce_38 hC hO hR hf (sJ (sJ q1.2 t 0 ((q1.2.2.1 t 0) / q1.1)) t 1 (((sJ q1.2 t 0 ((q1.2.2.1 t 0) / q1.1)).2.1 t 1) / q1.1)) h)
theorem xk_X3_reduce (R : Room) (h1 : 1 + 1 ≤ R.frames) (h2 : 76 ≤ R.locals) : xw R yX3_reduce w_X3_reduce GT cX3_reduce 3 none rm_X3_reduce 0 := ⟨rfl, rfl, rfl, h1, h2, ⟨by decide, by decide⟩, by decide +kernel⟩
theorem c_X3_reduce (E : ET) (hE : EO E) (t : Nat) (ht1 : kd t = 3) (ht2 : AL E t) (σ : HS) (hn : f_X3_reduce t σ ≠ none) : CoV E yX3_reduce w_X3_reduce rm_X3_reduce [.ref (E.2.2.1 t)] σ (f_X3_reduce t σ) := CoV.of (lv := [(0, .ref (E.2.2.1 t))]) hE (plainFor_of_name (by decide)) rfl (Nat.le_of_ble_eq_true rfl) rfl (fun F hC hO hR => k_X3_reduce_0 hC hO hR hn t ht1 ht2 σ rfl)
def rm_X9_isIn : Room := { frames := 0, cells := 0, slots := 0, locals := 0 }
theorem fl_X9_27 : Cond.fieldLink RX9 27 "EveryMeasure$Things" (TX9 4).2.1 (TX9 4).2.2.1 ∈ GT := gtr_4 _ (List.mem_of_getElem? (i := 12) rfl)
set_option maxHeartbeats 4000000 in
set_option maxRecDepth 100000 in
theorem k_X9_isIn_26 {E : ET} {F : FT} {fo : Option (Int32 × HS)} (hC : Cx E F 2 cX9_isIn RX9 GT) (hO : Ro F rm_X9_isIn) (hR : RI E F .boolean fo) (hf : fo ≠ none) (s0 : Int32) (σ : HS) (h : f_X9_isIn_26 s0 σ = fo) : G E F 26 [] [.int s0] σ := by
    obtain ⟨hz, h⟩ := zr_of h hf
    exact g_iret hC hR dX9_isIn_26 hz h
set_option maxHeartbeats 4000000 in
set_option maxRecDepth 100000 in
theorem k_X9_isIn_25 {E : ET} {F : FT} {fo : Option (Int32 × HS)} (hC : Cx E F 2 cX9_isIn RX9 GT) (hO : Ro F rm_X9_isIn) (hR : RI E F .boolean fo) (hf : fo ≠ none) (σ : HS) (h : f_X9_isIn_25 σ = fo) : G E F 25 [] [] σ := by
    refine g_iconst (v := 0) hC dX9_isIn_25 (by decide) ?_
    exact g_sub [] rfl (k_X9_isIn_26 hC hO hR hf 0 σ h)
set_option maxHeartbeats 4000000 in
set_option maxRecDepth 100000 in
theorem k_X9_isIn_0 {E : ET} {F : FT} {fo : Option (Int32 × HS)} (hC : Cx E F 2 cX9_isIn RX9 GT) (hO : Ro F rm_X9_isIn) (hR : RI E F .boolean fo) (hf : fo ≠ none) (t : Nat) (ht1 : kd t = 9) (ht2 : AL E t) (x1 : Int32) (σ : HS) (h : f_X9_isIn t x1 σ = fo) : G E F 0 [(0, .ref (E.2.2.1 t)), (1, .int x1)] [] σ := by
    refine g_iload_n hC dX9_isIn_0 rfl 1 rfl ?_
    refine g_if_lt (tgt := 25) hC dX9_isIn_1 (by decide) h (fun c1 h => ?_) (fun c1 h => ?_)
    · exact g_sub [] rfl (k_X9_isIn_25 hC hO hR hf σ h)
    · refine g_iload_n hC dX9_isIn_4 rfl 1 rfl ?_
      refine g_bipush (v := 8) hC dX9_isIn_5 (by decide) ?_
      refine g_icmp_ge (tgt := 25) hC dX9_isIn_7 (by decide) h (fun c7 h => ?_) (fun c7 h => ?_)
      · exact g_sub [] rfl (k_X9_isIn_25 hC hO hR hf σ h)
      · refine g_aload_n hC dX9_isIn_10 rfl 0 rfl ?_
        refine g_getI (k := 4) hC cr9 ui_9 ht1 ht2 (by decide) fl_X9_27 rfl rfl dX9_isIn_11 ?_
        refine g_iconst (v := 1) hC dX9_isIn_14 (by decide) ?_
        refine g_iload_n hC dX9_isIn_15 rfl 1 rfl ?_
        refine g_ishl hC dX9_isIn_16 ?_
        refine g_iand hC dX9_isIn_17 ?_
        refine g_if_eq (tgt := 25) hC dX9_isIn_18 (by decide) h (fun c18 h => ?_) (fun c18 h => ?_)
        · exact g_sub [] rfl (k_X9_isIn_25 hC hO hR hf σ h)
        · refine g_iconst (v := 1) hC dX9_isIn_21 (by decide) ?_
          refine g_goto (tgt := 26) hC dX9_isIn_22 (by decide) ?_
          exact g_sub [] rfl (k_X9_isIn_26 hC hO hR hf 1 σ h)
theorem xk_X9_isIn (R : Room) (h1 : 0 + 1 ≤ R.frames) (h2 : 33 ≤ R.locals) : xw R yX9_isIn w_X9_isIn GT cX9_isIn 2 (some .boolean) rm_X9_isIn 1 := ⟨rfl, rfl, rfl, h1, h2, ⟨by decide, by decide⟩, by decide +kernel⟩
theorem c_X9_isIn (E : ET) (hE : EO E) (t : Nat) (ht1 : kd t = 9) (ht2 : AL E t) (x1 : Int32) (σ : HS) (hn : f_X9_isIn t x1 σ ≠ none) : CoI E yX9_isIn w_X9_isIn rm_X9_isIn [.ref (E.2.2.1 t), .int x1] σ (f_X9_isIn t x1 σ) := CoI.of (lv := [(0, .ref (E.2.2.1 t)), (1, .int x1)]) hE (plainFor_of_name (by decide)) rfl (Nat.le_of_ble_eq_true rfl) rfl (fun F hC hO hR => k_X9_isIn_0 hC hO hR hn t ht1 ht2 x1 σ rfl)
def rm_X4_compare : Room := { frames := 1, cells := 0, slots := 0, locals := 37 }
theorem wc_X9_isIn : Cond.code yX9_isIn cX9_isIn 2 (some .boolean) ∈ GT := gtr_27 _ (List.mem_of_getElem? (i := 16) rfl)
theorem gc_X4_44 : GoodIn GT (wsV RX4 44 RX9 yX9_isIn w_X9_isIn) := gi_V (gtr_37 _ (List.mem_of_getElem? (i := 5) rfl)) (gtr_27 _ (List.mem_of_getElem? (i := 14) rfl)) (gtr_27 _ (List.mem_of_getElem? (i := 15) rfl)) (gtr_2 _ (List.mem_of_getElem? (i := 0) rfl)) wc_X9_isIn
theorem fl_X4_16 : Cond.fieldLink RX4 16 "EveryMeasure$Judge" (TX4 3).2.1 (TX4 3).2.2.1 ∈ GT := gtr_5 _ (List.mem_of_getElem? (i := 17) rfl)
theorem gc_X4_56 : GoodIn GT (wsV RX4 56 RX9 yX9_fillLead w_X9_fillLead) := gi_V (gtr_37 _ (List.mem_of_getElem? (i := 6) rfl)) (gtr_23 _ (List.mem_of_getElem? (i := 20) rfl)) (gtr_23 _ (List.mem_of_getElem? (i := 21) rfl)) (gtr_2 _ (List.mem_of_getElem? (i := 0) rfl)) wc_X9_fillLead
set_option maxHeartbeats 4000000 in
set_option maxRecDepth 100000 in
theorem k_X4_compare_34 {E : ET} {F : FT} {fo : Option (Int32 × HS)} (hC : Cx E F 8 cX4_compare RX4 GT) (hO : Ro F rm_X4_compare) (hR : RI E F .int fo) (hf : fo ≠ none) (σ : HS) (h : f_X4_compare_34 σ = fo) : G E F 34 [] [] σ := by
    refine g_iconst (v := (-1)) hC dX4_compare_34 (by decide) ?_
    exact g_iret hC hR dX4_compare_35 rfl h
set_option maxHeartbeats 4000000 in
set_option maxRecDepth 100000 in
theorem k_X4_compare_148 {E : ET} {F : FT} {fo : Option (Int32 × HS)} (hC : Cx E F 8 cX4_compare RX4 GT) (hO : Ro F rm_X4_compare) (hR : RI E F .int fo) (hf : fo ≠ none) (s0 : Int32) (σ : HS) (h : f_X4_compare_148 s0 σ = fo) : G E F 148 [] [.int s0] σ := by
    exact g_iret hC hR dX4_compare_148 rfl h
set_option maxHeartbeats 4000000 in
set_option maxRecDepth 100000 in
theorem k_X4_compare_121 {E : ET} {F : FT} {fo : Option (Int32 × HS)} (hC : Cx E F 8 cX4_compare RX4 GT) (hO : Ro F rm_X4_compare) (hR : RI E F .int fo) (hf : fo ≠ none) (t : Nat) (ht1 : kd t = 4) (ht2 : AL E t) (x1 : Nat) (hx1a : kd x1 = 1) (hx1b : AL E x1) (x4 : Int32) (x6 : Int32) (s0 : Int32) (r58 : Int32 → Int32 → Int32 → HS → Option (Int32 × HS)) (h58 : ∀ (x4 : Int32) (x5 : Int32) (x6 : Int32) (σ : HS), r58 x4 x5 x6 σ = fo → G E F 58 [(0, .ref (E.2.2.1 t)), (1, .ref (E.2.2.1 x1)), (4, .int x4), (5, .int x5), (6, .int x6)] [] σ) (σ : HS) (h : f_X4_compare_121 r58 t x1 x4 x6 s0 σ = fo) : G E F 121 [(0, .ref (E.2.2.1 t)), (1, .ref (E.2.2.1 x1)), (4, .int x4), (6, .int x6)] [.int s0] σ := by
    refine g_istore (lv' := [(5, .int s0), (0, .ref (E.2.2.1 t)), (1, .ref (E.2.2.1 x1)), (4, .int x4), (6, .int x6)]) hC dX4_compare_121 (by decide) rfl ?_
    refine g_iinc (v := x6 + 1) (lv' := [(6, .int (x6 + 1)), (5, .int s0), (0, .ref (E.2.2.1 t)), (1, .ref (E.2.2.1 x1)), (4, .int x4)]) hC dX4_compare_123 4 rfl rfl (by decide) rfl ?_
    refine g_goto (tgt := 58) hC dX4_compare_126 (by decide) ?_
    exact g_sub [2, 3, 4, 1, 0] rfl (h58 x4 s0 (x6 + 1) σ h)
set_option maxHeartbeats 4000000 in
set_option maxRecDepth 100000 in
theorem k_X4_compare_116 {E : ET} {F : FT} {fo : Option (Int32 × HS)} (hC : Cx E F 8 cX4_compare RX4 GT) (hO : Ro F rm_X4_compare) (hR : RI E F .int fo) (hf : fo ≠ none) (t : Nat) (ht1 : kd t = 4) (ht2 : AL E t) (x1 : Nat) (hx1a : kd x1 = 1) (hx1b : AL E x1) (x4 : Int32) (x6 : Int32) (r58 : Int32 → Int32 → Int32 → HS → Option (Int32 × HS)) (h58 : ∀ (x4 : Int32) (x5 : Int32) (x6 : Int32) (σ : HS), r58 x4 x5 x6 σ = fo → G E F 58 [(0, .ref (E.2.2.1 t)), (1, .ref (E.2.2.1 x1)), (4, .int x4), (5, .int x5), (6, .int x6)] [] σ) (σ : HS) (h : f_X4_compare_116 r58 t x1 x4 x6 σ = fo) : G E F 116 [(0, .ref (E.2.2.1 t)), (1, .ref (E.2.2.1 x1)), (4, .int x4), (6, .int x6)] [] σ := by
    refine g_iconst (v := 1) hC dX4_compare_116 (by decide) ?_
    refine g_goto (tgt := 121) hC dX4_compare_117 (by decide) ?_
    exact g_sub [0, 1, 2, 3] rfl (k_X4_compare_121 hC hO hR hf t ht1 ht2 x1 hx1a hx1b x4 x6 1 r58 h58 σ h)
set_option maxHeartbeats 4000000 in
set_option maxRecDepth 100000 in
theorem k_X4_compare_104 {E : ET} {F : FT} {fo : Option (Int32 × HS)} (hC : Cx E F 8 cX4_compare RX4 GT) (hO : Ro F rm_X4_compare) (hR : RI E F .int fo) (hf : fo ≠ none) (t : Nat) (ht1 : kd t = 4) (ht2 : AL E t) (x1 : Nat) (hx1a : kd x1 = 1) (hx1b : AL E x1) (x5 : Int32) (x6 : Int32) (x7 : Int32) (s0 : Int32) (r58 : Int32 → Int32 → Int32 → HS → Option (Int32 × HS)) (h58 : ∀ (x4 : Int32) (x5 : Int32) (x6 : Int32) (σ : HS), r58 x4 x5 x6 σ = fo → G E F 58 [(0, .ref (E.2.2.1 t)), (1, .ref (E.2.2.1 x1)), (4, .int x4), (5, .int x5), (6, .int x6)] [] σ) (σ : HS) (h : f_X4_compare_104 r58 t x1 x5 x6 x7 s0 σ = fo) : G E F 104 [(0, .ref (E.2.2.1 t)), (1, .ref (E.2.2.1 x1)), (5, .int x5), (6, .int x6), (7, .int x7)] [.int s0] σ := by
    refine g_istore (lv' := [(4, .int s0), (0, .ref (E.2.2.1 t)), (1, .ref (E.2.2.1 x1)), (5, .int x5), (6, .int x6), (7, .int x7)]) hC dX4_compare_104 (by decide) rfl ?_
    refine g_iload hC dX4_compare_106 3 rfl ?_
    refine g_if_ne (tgt := 116) hC dX4_compare_108 (by decide) h (fun c108 h => ?_) (fun c108 h => ?_)
    · exact g_sub [1, 2, 0, 4] rfl (k_X4_compare_116 hC hO hR hf t ht1 ht2 x1 hx1a hx1b s0 x6 r58 h58 σ h)
    · refine g_iload hC dX4_compare_111 5 rfl ?_
      refine g_if_eq (tgt := 120) hC dX4_compare_113 (by decide) h (fun c113 h => ?_) (fun c113 h => ?_)
      · refine g_iconst (v := 0) hC dX4_compare_120 (by decide) ?_
        exact g_sub [1, 2, 0, 4] rfl (k_X4_compare_121 hC hO hR hf t ht1 ht2 x1 hx1a hx1b s0 x6 0 r58 h58 σ h)
      · exact g_sub [1, 2, 0, 4] rfl (k_X4_compare_116 hC hO hR hf t ht1 ht2 x1 hx1a hx1b s0 x6 r58 h58 σ h)
set_option maxHeartbeats 4000000 in
set_option maxRecDepth 100000 in
theorem k_X4_compare_103 {E : ET} {F : FT} {fo : Option (Int32 × HS)} (hC : Cx E F 8 cX4_compare RX4 GT) (hO : Ro F rm_X4_compare) (hR : RI E F .int fo) (hf : fo ≠ none) (t : Nat) (ht1 : kd t = 4) (ht2 : AL E t) (x1 : Nat) (hx1a : kd x1 = 1) (hx1b : AL E x1) (x5 : Int32) (x6 : Int32) (x7 : Int32) (r58 : Int32 → Int32 → Int32 → HS → Option (Int32 × HS)) (h58 : ∀ (x4 : Int32) (x5 : Int32) (x6 : Int32) (σ : HS), r58 x4 x5 x6 σ = fo → G E F 58 [(0, .ref (E.2.2.1 t)), (1, .ref (E.2.2.1 x1)), (4, .int x4), (5, .int x5), (6, .int x6)] [] σ) (σ : HS) (h : f_X4_compare_103 r58 t x1 x5 x6 x7 σ = fo) : G E F 103 [(0, .ref (E.2.2.1 t)), (1, .ref (E.2.2.1 x1)), (5, .int x5), (6, .int x6), (7, .int x7)] [] σ := by
    refine g_iconst (v := 0) hC dX4_compare_103 (by decide) ?_
    exact g_sub [0, 1, 2, 3, 4] rfl (k_X4_compare_104 hC hO hR hf t ht1 ht2 x1 hx1a hx1b x5 x6 x7 0 r58 h58 σ h)
set_option maxHeartbeats 4000000 in
set_option maxRecDepth 100000 in
theorem k_X4_compare_87 {E : ET} {F : FT} {fo : Option (Int32 × HS)} (hC : Cx E F 8 cX4_compare RX4 GT) (hO : Ro F rm_X4_compare) (hR : RI E F .int fo) (hf : fo ≠ none) (t : Nat) (ht1 : kd t = 4) (ht2 : AL E t) (x1 : Nat) (hx1a : kd x1 = 1) (hx1b : AL E x1) (x4 : Int32) (x5 : Int32) (x6 : Int32) (s0 : Int32) (r58 : Int32 → Int32 → Int32 → HS → Option (Int32 × HS)) (h58 : ∀ (x4 : Int32) (x5 : Int32) (x6 : Int32) (σ : HS), r58 x4 x5 x6 σ = fo → G E F 58 [(0, .ref (E.2.2.1 t)), (1, .ref (E.2.2.1 x1)), (4, .int x4), (5, .int x5), (6, .int x6)] [] σ) (σ : HS) (h : f_X4_compare_87 r58 t x1 x4 x5 x6 s0 σ = fo) : G E F 87 [(0, .ref (E.2.2.1 t)), (1, .ref (E.2.2.1 x1)), (4, .int x4), (5, .int x5), (6, .int x6)] [.int s0] σ := by
    refine g_istore (lv' := [(7, .int s0), (0, .ref (E.2.2.1 t)), (1, .ref (E.2.2.1 x1)), (4, .int x4), (5, .int x5), (6, .int x6)]) hC dX4_compare_87 (by decide) rfl ?_
    refine g_iload hC dX4_compare_89 3 rfl ?_
    refine g_if_eq (tgt := 103) hC dX4_compare_91 (by decide) h (fun c91 h => ?_) (fun c91 h => ?_)
    · exact g_sub [1, 2, 4, 5, 0] rfl (k_X4_compare_103 hC hO hR hf t ht1 ht2 x1 hx1a hx1b x5 x6 s0 r58 h58 σ h)
    · refine g_iload hC dX4_compare_94 0 rfl ?_
      refine g_if_eq (tgt := 103) hC dX4_compare_96 (by decide) h (fun c96 h => ?_) (fun c96 h => ?_)
      · exact g_sub [1, 2, 4, 5, 0] rfl (k_X4_compare_103 hC hO hR hf t ht1 ht2 x1 hx1a hx1b x5 x6 s0 r58 h58 σ h)
      · refine g_iconst (v := 1) hC dX4_compare_99 (by decide) ?_
        refine g_goto (tgt := 104) hC dX4_compare_100 (by decide) ?_
        exact g_sub [1, 2, 4, 5, 0] rfl (k_X4_compare_104 hC hO hR hf t ht1 ht2 x1 hx1a hx1b x5 x6 s0 1 r58 h58 σ h)
set_option maxHeartbeats 4000000 in
set_option maxRecDepth 100000 in
theorem k_X4_compare_58 {E : ET} {F : FT} {fo : Option (Int32 × HS)} (hC : Cx E F 8 cX4_compare RX4 GT) (hO : Ro F rm_X4_compare) (hR : RI E F .int fo) (hf : fo ≠ none) (t : Nat) (ht1 : kd t = 4) (ht2 : AL E t) (x1 : Nat) (hx1a : kd x1 = 1) (hx1b : AL E x1) : ∀ (n : Nat) (x4 : Int32) (x5 : Int32) (x6 : Int32) (σ : HS), f_X4_compare_58 t x1 n x4 x5 x6 σ = fo → G E F 58 [(0, .ref (E.2.2.1 t)), (1, .ref (E.2.2.1 x1)), (4, .int x4), (5, .int x5), (6, .int x6)] [] σ := by
  intro n
  induction n with
  | zero =>
    intro x4 x5 x6 σ h
    exact absurd (h.symm.trans rfl) hf
  | succ n ih =>
    intro x4 x5 x6 σ h
    refine g_iload hC dX4_compare_58 4 rfl ?_
    refine g_aload_n hC dX4_compare_60 rfl 1 rfl ?_
    refine g_getI (k := 5) hC cr1 ui_1 hx1a hx1b (by decide) fl_X4_50 rfl rfl dX4_compare_61 ?_
    refine g_icmp_ge (tgt := 129) hC dX4_compare_64 (by decide) h (fun c64 h => ?_) (fun c64 h => ?_)
    · refine g_iload hC dX4_compare_129 2 rfl ?_
      refine g_if_eq (tgt := 138) hC dX4_compare_131 (by decide) h (fun c131 h => ?_) (fun c131 h => ?_)
      · refine g_iload hC dX4_compare_138 3 rfl ?_
        refine g_if_eq (tgt := 147) hC dX4_compare_140 (by decide) h (fun c140 h => ?_) (fun c140 h => ?_)
        · refine g_iconst (v := 0) hC dX4_compare_147 (by decide) ?_
          exact g_sub [] rfl (k_X4_compare_148 hC hO hR hf 0 σ h)
        · refine g_iconst (v := 1) hC dX4_compare_143 (by decide) ?_
          refine g_goto (tgt := 148) hC dX4_compare_144 (by decide) ?_
          exact g_sub [] rfl (k_X4_compare_148 hC hO hR hf 1 σ h)
      · refine g_iconst (v := 2) hC dX4_compare_134 (by decide) ?_
        refine g_goto (tgt := 148) hC dX4_compare_135 (by decide) ?_
        exact g_sub [] rfl (k_X4_compare_148 hC hO hR hf 2 σ h)
    · refine g_aload_n hC dX4_compare_67 rfl 1 rfl ?_
      refine g_iload hC dX4_compare_68 4 rfl ?_
      refine g_aload_n hC dX4_compare_70 rfl 0 rfl ?_
      refine g_getR (cj := 14) (k := 3) hC cr4 ui_4 ht1 ht2 (by decide) fl_X4_16 rfl rfl dX4_compare_71 h hf (fun a1 ea1 ka1 na1 h => ?_)
      obtain ⟨q2, hq2, h⟩ := bd_of h hf
      refine g_cVJ (As := [.int x6, .ref (E.2.2.1 a1)]) hC hO (c_X1_product _ hC.2.2.2.2.2.2.1 x1 hx1a hx1b x6 a1 ka1 na1 σ (nn_of hq2)) gc_X4_60 (xk_X1_product _ (Nat.le_of_ble_eq_true rfl) (Nat.le_of_ble_eq_true rfl)) cr1 hx1a hx1b rfl (Nat.le_of_ble_eq_true rfl) dX4_compare_74 hq2 ?_
      refine g_lconst (v := 0) hC dX4_compare_77 (by decide) ?_
      refine g_lc_lt (tgt := 86) hC dX4_compare_78 dX4_compare_79 (by decide) h (fun c78 h => ?_) (fun c78 h => ?_)
      · refine g_iconst (v := 0) hC dX4_compare_86 (by decide) ?_
        exact g_sub [0, 1, 2, 3, 4] rfl (k_X4_compare_87 hC hO hR hf t ht1 ht2 x1 hx1a hx1b x4 x5 x6 0 (f_X4_compare_58 t x1 n) ih q2.2 h)
      · refine g_iconst (v := 1) hC dX4_compare_82 (by decide) ?_
        refine g_goto (tgt := 87) hC dX4_compare_83 (by decide) ?_
        exact g_sub [0, 1, 2, 3, 4] rfl (k_X4_compare_87 hC hO hR hf t ht1 ht2 x1 hx1a hx1b x4 x5 x6 1 (f_X4_compare_58 t x1 n) ih q2.2 h)
set_option maxHeartbeats 4000000 in
set_option maxRecDepth 100000 in
theorem k_X4_compare_0 {E : ET} {F : FT} {fo : Option (Int32 × HS)} (hC : Cx E F 8 cX4_compare RX4 GT) (hO : Ro F rm_X4_compare) (hR : RI E F .int fo) (hf : fo ≠ none) (t : Nat) (ht1 : kd t = 4) (ht2 : AL E t) (x1 : Nat) (hx1a : kd x1 = 1) (hx1b : AL E x1) (x2 : Int32) (x3 : Int32) (σ : HS) (h : f_X4_compare t x1 x2 x3 σ = fo) : G E F 0 [(0, .ref (E.2.2.1 t)), (1, .ref (E.2.2.1 x1)), (2, .int x2), (3, .int x3)] [] σ := by
    refine g_aload_n hC dX4_compare_0 rfl 0 rfl ?_
    refine g_getR (cj := 9) (k := 0) hC cr4 ui_4 ht1 ht2 (by decide) fl_X4_36 rfl rfl dX4_compare_1 h hf (fun a1 ea1 ka1 na1 h => ?_)
    refine g_iload_n hC dX4_compare_4 rfl 2 rfl ?_
    obtain ⟨q2, hq2, h⟩ := bd_of h hf
    refine g_cVI (As := [.int x2]) hC hO (c_X9_isIn _ hC.2.2.2.2.2.2.1 a1 ka1 na1 x2 σ (nn_of hq2)) gc_X4_44 (xk_X9_isIn _ (Nat.le_of_ble_eq_true rfl) (Nat.le_of_ble_eq_true rfl)) cr9 ka1 na1 rfl (Nat.le_of_ble_eq_true rfl) dX4_compare_5 hq2 ?_
    refine g_if_eq (tgt := 34) hC dX4_compare_8 (by decide) h (fun c8 h => ?_) (fun c8 h => ?_)
    · exact g_sub [] rfl (k_X4_compare_34 hC hO hR hf q2.2 h)
    · refine g_aload_n hC dX4_compare_11 rfl 0 rfl ?_
      refine g_getR (cj := 9) (k := 0) hC cr4 ui_4 ht1 ht2 (by decide) fl_X4_36 rfl rfl dX4_compare_12 h hf (fun a3 ea3 ka3 na3 h => ?_)
      refine g_iload_n hC dX4_compare_15 rfl 3 rfl ?_
      obtain ⟨q4, hq4, h⟩ := bd_of h hf
      refine g_cVI (As := [.int x3]) hC hO (c_X9_isIn _ hC.2.2.2.2.2.2.1 a3 ka3 na3 x3 q2.2 (nn_of hq4)) gc_X4_44 (xk_X9_isIn _ (Nat.le_of_ble_eq_true rfl) (Nat.le_of_ble_eq_true rfl)) cr9 ka3 na3 rfl (Nat.le_of_ble_eq_true rfl) dX4_compare_16 hq4 ?_
      refine g_if_eq (tgt := 34) hC dX4_compare_19 (by decide) h (fun c19 h => ?_) (fun c19 h => ?_)
      · exact g_sub [] rfl (k_X4_compare_34 hC hO hR hf q4.2 h)
      · refine g_iload_n hC dX4_compare_22 rfl 2 rfl ?_
        refine g_iload_n hC dX4_compare_23 rfl 3 rfl ?_
        refine g_icmp_eq (tgt := 34) hC dX4_compare_24 (by decide) h (fun c24 h => ?_) (fun c24 h => ?_)
        · exact g_sub [] rfl (k_X4_compare_34 hC hO hR hf q4.2 h)
        · refine g_aload_n hC dX4_compare_27 rfl 1 rfl ?_
          refine g_getI (k := 5) hC cr1 ui_1 hx1a hx1b (by decide) fl_X4_50 rfl rfl dX4_compare_28 ?_
          refine g_if_ne (tgt := 36) hC dX4_compare_31 (by decide) h (fun c31 h => ?_) (fun c31 h => ?_)
          · refine g_aload_n hC dX4_compare_36 rfl 0 rfl ?_
            refine g_getR (cj := 9) (k := 0) hC cr4 ui_4 ht1 ht2 (by decide) fl_X4_36 rfl rfl dX4_compare_37 h hf (fun a5 ea5 ka5 na5 h => ?_)
            refine g_iload_n hC dX4_compare_40 rfl 2 rfl ?_
            refine g_iload_n hC dX4_compare_41 rfl 3 rfl ?_
            refine g_aload_n hC dX4_compare_42 rfl 0 rfl ?_
            refine g_getR (cj := 14) (k := 3) hC cr4 ui_4 ht1 ht2 (by decide) fl_X4_16 rfl rfl dX4_compare_43 h hf (fun a6 ea6 ka6 na6 h => ?_)
            obtain ⟨q7, hq7, h⟩ := bd_of h hf
            refine g_cVV (As := [.int x2, .int x3, .ref (E.2.2.1 a6)]) hC hO (c_X9_fillLead _ hC.2.2.2.2.2.2.1 a5 ka5 na5 x2 x3 a6 ka6 na6 q4.2 (nn_of hq7)) gc_X4_56 (xk_X9_fillLead _ (Nat.le_of_ble_eq_true rfl) (Nat.le_of_ble_eq_true rfl)) cr9 ka5 na5 rfl (Nat.le_of_ble_eq_true rfl) dX4_compare_46 hq7 ?_
            refine g_iconst (v := 1) hC dX4_compare_49 (by decide) ?_
            refine g_istore (lv' := [(4, .int 1), (0, .ref (E.2.2.1 t)), (1, .ref (E.2.2.1 x1)), (2, .int x2), (3, .int x3)]) hC dX4_compare_50 (by decide) rfl ?_
            refine g_iconst (v := 0) hC dX4_compare_52 (by decide) ?_
            refine g_istore (lv' := [(5, .int 0), (4, .int 1), (0, .ref (E.2.2.1 t)), (1, .ref (E.2.2.1 x1)), (2, .int x2), (3, .int x3)]) hC dX4_compare_53 (by decide) rfl ?_
            refine g_iconst (v := 0) hC dX4_compare_55 (by decide) ?_
            refine g_istore (lv' := [(6, .int 0), (5, .int 0), (4, .int 1), (0, .ref (E.2.2.1 t)), (1, .ref (E.2.2.1 x1)), (2, .int x2), (3, .int x3)]) hC dX4_compare_56 (by decide) rfl ?_
            exact g_sub [3, 4, 2, 1, 0] rfl (k_X4_compare_58 hC hO hR hf t ht1 ht2 x1 hx1a hx1b FU 1 0 0 q7 h)
          · exact g_sub [] rfl (k_X4_compare_34 hC hO hR hf q4.2 h)
theorem xk_X4_compare (R : Room) (h1 : 1 + 1 ≤ R.frames) (h2 : 76 ≤ R.locals) : xw R yX4_compare w_X4_compare GT cX4_compare 8 (some .int) rm_X4_compare 3 := ⟨rfl, rfl, rfl, h1, h2, ⟨by decide, by decide⟩, by decide +kernel⟩
theorem c_X4_compare (E : ET) (hE : EO E) (t : Nat) (ht1 : kd t = 4) (ht2 : AL E t) (x1 : Nat) (hx1a : kd x1 = 1) (hx1b : AL E x1) (x2 : Int32) (x3 : Int32) (σ : HS) (hn : f_X4_compare t x1 x2 x3 σ ≠ none) : CoI E yX4_compare w_X4_compare rm_X4_compare [.ref (E.2.2.1 t), .ref (E.2.2.1 x1), .int x2, .int x3] σ (f_X4_compare t x1 x2 x3 σ) := CoI.of (lv := [(0, .ref (E.2.2.1 t)), (1, .ref (E.2.2.1 x1)), (2, .int x2), (3, .int x3)]) hE (plainFor_of_name (by decide)) rfl (Nat.le_of_ble_eq_true rfl) rfl (fun F hC hO hR => k_X4_compare_0 hC hO hR hn t ht1 ht2 x1 hx1a hx1b x2 x3 σ rfl)
def rm_X4_raise : Room := { frames := 1, cells := 0, slots := 0, locals := 37 }
theorem fl_X4_40 : Cond.fieldLink RX4 40 "EveryMeasure$Judge" (TX4 1).2.1 (TX4 1).2.2.1 ∈ GT := gtr_6 _ (List.mem_of_getElem? (i := 0) rfl)
theorem fl_X4_64 : Cond.fieldLink RX4 64 "EveryMeasure$Weights" (TX10 2).2.1 (TX10 2).2.2.1 ∈ GT := gtr_38 _ (List.mem_of_getElem? (i := 21) rfl)
theorem wc_X1_sum : Cond.code yX1_sum cX1_sum 5 (some .long) ∈ GT := gtr_39 _ (List.mem_of_getElem? (i := 5) rfl)
theorem gc_X4_80 : GoodIn GT (wsV RX4 80 RX1 yX1_sum w_X1_sum) := gi_V (gtr_39 _ (List.mem_of_getElem? (i := 2) rfl)) (gtr_39 _ (List.mem_of_getElem? (i := 3) rfl)) (gtr_39 _ (List.mem_of_getElem? (i := 4) rfl)) (gtr_4 _ (List.mem_of_getElem? (i := 21) rfl)) wc_X1_sum
theorem wc_X3_become : Cond.code yX3_become cX3_become 5 none ∈ GT := gtr_28 _ (List.mem_of_getElem? (i := 23) rfl)
theorem gc_X4_74 : GoodIn GT (wsV RX4 74 RX3 yX3_become w_X3_become) := gi_V (gtr_39 _ (List.mem_of_getElem? (i := 10) rfl)) (gtr_28 _ (List.mem_of_getElem? (i := 21) rfl)) (gtr_28 _ (List.mem_of_getElem? (i := 22) rfl)) (gtr_3 _ (List.mem_of_getElem? (i := 0) rfl)) wc_X3_become
theorem wc_X3_isUnder : Cond.code yX3_isUnder cX3_isUnder 5 (some .boolean) ∈ GT := gtr_39 _ (List.mem_of_getElem? (i := 9) rfl)
theorem gc_X4_84 : GoodIn GT (wsV RX4 84 RX3 yX3_isUnder w_X3_isUnder) := gi_V (gtr_39 _ (List.mem_of_getElem? (i := 6) rfl)) (gtr_39 _ (List.mem_of_getElem? (i := 7) rfl)) (gtr_39 _ (List.mem_of_getElem? (i := 8) rfl)) (gtr_3 _ (List.mem_of_getElem? (i := 0) rfl)) wc_X3_isUnder
set_option maxHeartbeats 4000000 in
set_option maxRecDepth 100000 in
theorem k_X4_raise_53 {E : ET} {F : FT} {fo : Option HS} (hC : Cx E F 8 cX4_raise RX4 GT) (hO : Ro F rm_X4_raise) (hR : RV E F fo) (hf : fo ≠ none) (σ : HS) (h : f_X4_raise_53 σ = fo) : G E F 53 [] [] σ := by
    exact g_vret hC hR dX4_raise_53 h
set_option maxHeartbeats 4000000 in
set_option maxRecDepth 100000 in
theorem k_X4_raise_45 {E : ET} {F : FT} {fo : Option HS} (hC : Cx E F 8 cX4_raise RX4 GT) (hO : Ro F rm_X4_raise) (hR : RV E F fo) (hf : fo ≠ none) (x1 : Nat) (hx1a : kd x1 = 3) (hx1b : AL E x1) (x4 : Int64) (x6 : Int64) (σ : HS) (h : f_X4_raise_45 x1 x4 x6 σ = fo) : G E F 45 [(1, .ref (E.2.2.1 x1)), (4, .long x4), (6, .long x6)] [] σ := by
    refine g_aload_n hC dX4_raise_45 rfl 0 rfl ?_
    refine g_lload hC dX4_raise_46 1 rfl ?_
    refine g_lload hC dX4_raise_48 2 rfl ?_
    obtain ⟨q1, hq1, h⟩ := bd_of h hf
    refine g_cVV (As := [.long x4, .long x6]) hC hO (c_X3_become _ hC.2.2.2.2.2.2.1 x1 hx1a hx1b x4 x6 σ (nn_of hq1)) gc_X4_74 (xk_X3_become _ (Nat.le_of_ble_eq_true rfl) (Nat.le_of_ble_eq_true rfl)) cr3 hx1a hx1b rfl (Nat.le_of_ble_eq_true rfl) dX4_raise_50 hq1 ?_
    exact g_sub [] rfl (k_X4_raise_53 hC hO hR hf q1 h)
set_option maxHeartbeats 4000000 in
set_option maxRecDepth 100000 in
theorem k_X4_raise_0 {E : ET} {F : FT} {fo : Option HS} (hC : Cx E F 8 cX4_raise RX4 GT) (hO : Ro F rm_X4_raise) (hR : RV E F fo) (hf : fo ≠ none) (t : Nat) (ht1 : kd t = 4) (ht2 : AL E t) (x1 : Nat) (hx1a : kd x1 = 3) (hx1b : AL E x1) (x2 : Int32) (x3 : Int32) (σ : HS) (h : f_X4_raise t x1 x2 x3 σ = fo) : G E F 0 [(0, .ref (E.2.2.1 t)), (1, .ref (E.2.2.1 x1)), (2, .int x2), (3, .int x3)] [] σ := by
    refine g_aload_n hC dX4_raise_0 rfl 0 rfl ?_
    refine g_getR (cj := 10) (k := 1) hC cr4 ui_4 ht1 ht2 (by decide) fl_X4_40 rfl rfl dX4_raise_1 h hf (fun a1 ea1 ka1 na1 h => ?_)
    refine g_getR (cj := 1) (k := 2) hC cr10 ui_10 ka1 na1 (by decide) fl_X4_64 rfl rfl dX4_raise_4 h hf (fun a2 ea2 ka2 na2 h => ?_)
    refine g_iload_n hC dX4_raise_7 rfl 2 rfl ?_
    refine g_aload_n hC dX4_raise_8 rfl 0 rfl ?_
    refine g_getR (cj := 14) (k := 3) hC cr4 ui_4 ht1 ht2 (by decide) fl_X4_16 rfl rfl dX4_raise_9 h hf (fun a3 ea3 ka3 na3 h => ?_)
    obtain ⟨q4, hq4, h⟩ := bd_of h hf
    refine g_cVJ (As := [.int x2, .ref (E.2.2.1 a3)]) hC hO (c_X1_product _ hC.2.2.2.2.2.2.1 a2 ka2 na2 x2 a3 ka3 na3 σ (nn_of hq4)) gc_X4_60 (xk_X1_product _ (Nat.le_of_ble_eq_true rfl) (Nat.le_of_ble_eq_true rfl)) cr1 ka2 na2 rfl (Nat.le_of_ble_eq_true rfl) dX4_raise_12 hq4 ?_
    refine g_lstore (lv' := [(4, .long q4.1), (0, .ref (E.2.2.1 t)), (1, .ref (E.2.2.1 x1)), (2, .int x2), (3, .int x3)]) hC dX4_raise_15 (by decide) rfl ?_
    refine g_aload_n hC dX4_raise_17 rfl 1 rfl ?_
    refine g_getR (cj := 10) (k := 1) hC cr4 ui_4 ht1 ht2 (by decide) fl_X4_40 rfl rfl dX4_raise_18 h hf (fun a5 ea5 ka5 na5 h => ?_)
    refine g_getR (cj := 1) (k := 2) hC cr10 ui_10 ka5 na5 (by decide) fl_X4_64 rfl rfl dX4_raise_21 h hf (fun a6 ea6 ka6 na6 h => ?_)
    refine g_iload_n hC dX4_raise_24 rfl 3 rfl ?_
    obtain ⟨q7, hq7, h⟩ := bd_of h hf
    refine g_cVJ (As := [.int x2]) hC hO (c_X1_sum _ hC.2.2.2.2.2.2.1 a6 ka6 na6 x2 q4.2 (nn_of hq7)) gc_X4_80 (xk_X1_sum _ (Nat.le_of_ble_eq_true rfl) (Nat.le_of_ble_eq_true rfl)) cr1 ka6 na6 rfl (Nat.le_of_ble_eq_true rfl) dX4_raise_25 hq7 ?_
    refine g_lstore (lv' := [(6, .long q7.1), (4, .long q4.1), (0, .ref (E.2.2.1 t)), (1, .ref (E.2.2.1 x1)), (2, .int x2), (3, .int x3)]) hC dX4_raise_28 (by decide) rfl ?_
    refine g_iload_n hC dX4_raise_30 rfl 5 rfl ?_
    refine g_if_ne (tgt := 45) hC dX4_raise_31 (by decide) h (fun c31 h => ?_) (fun c31 h => ?_)
    · exact g_sub [3, 1, 0] rfl (k_X4_raise_45 hC hO hR hf x1 hx1a hx1b q4.1 q7.1 q7.2 h)
    · refine g_aload_n hC dX4_raise_34 rfl 3 rfl ?_
      refine g_lload hC dX4_raise_35 1 rfl ?_
      refine g_lload hC dX4_raise_37 0 rfl ?_
      obtain ⟨q8, hq8, h⟩ := bd_of h hf
      refine g_cVI (As := [.long q4.1, .long q7.1]) hC hO (c_X3_isUnder _ hC.2.2.2.2.2.2.1 x1 hx1a hx1b q4.1 q7.1 q7.2 (nn_of hq8)) gc_X4_84 (xk_X3_isUnder _ (Nat.le_of_ble_eq_true rfl) (Nat.le_of_ble_eq_true rfl)) cr3 hx1a hx1b rfl (Nat.le_of_ble_eq_true rfl) dX4_raise_39 hq8 ?_
      refine g_if_eq (tgt := 53) hC dX4_raise_42 (by decide) h (fun c42 h => ?_) (fun c42 h => ?_)
      · exact g_sub [] rfl (k_X4_raise_53 hC hO hR hf q8.2 h)
      · exact g_sub [3, 1, 0] rfl (k_X4_raise_45 hC hO hR hf x1 hx1a hx1b q4.1 q7.1 q8.2 h)
theorem xk_X4_raise (R : Room) (h1 : 1 + 1 ≤ R.frames) (h2 : 76 ≤ R.locals) : xw R yX4_raise w_X4_raise GT cX4_raise 8 none rm_X4_raise 3 := ⟨rfl, rfl, rfl, h1, h2, ⟨by decide, by decide⟩, by decide +kernel⟩
theorem c_X4_raise (E : ET) (hE : EO E) (t : Nat) (ht1 : kd t = 4) (ht2 : AL E t) (x1 : Nat) (hx1a : kd x1 = 3) (hx1b : AL E x1) (x2 : Int32) (x3 : Int32) (σ : HS) (hn : f_X4_raise t x1 x2 x3 σ ≠ none) : CoV E yX4_raise w_X4_raise rm_X4_raise [.ref (E.2.2.1 t), .ref (E.2.2.1 x1), .int x2, .int x3] σ (f_X4_raise t x1 x2 x3 σ) := CoV.of (lv := [(0, .ref (E.2.2.1 t)), (1, .ref (E.2.2.1 x1)), (2, .int x2), (3, .int x3)]) hE (plainFor_of_name (by decide)) rfl (Nat.le_of_ble_eq_true rfl) rfl (fun F hC hO hR => k_X4_raise_0 hC hO hR hn t ht1 ht2 x1 hx1a hx1b x2 x3 σ rfl)
def rm_X4_fillGap : Room := { frames := 2, cells := 0, slots := 0, locals := 76 }
theorem wc_X4_raise : Cond.code yX4_raise cX4_raise 8 none ∈ GT := gtr_39 _ (List.mem_of_getElem? (i := 1) rfl)
theorem gc_X4_70 : GoodIn GT (wsV RX4 70 RX4 yX4_raise w_X4_raise) := gi_V (gtr_38 _ (List.mem_of_getElem? (i := 22) rfl)) (gtr_38 _ (List.mem_of_getElem? (i := 23) rfl)) (gtr_39 _ (List.mem_of_getElem? (i := 0) rfl)) (gtr_2 _ (List.mem_of_getElem? (i := 8) rfl)) wc_X4_raise
set_option maxHeartbeats 4000000 in
set_option maxRecDepth 100000 in
theorem k_X4_fillGap_45 {E : ET} {F : FT} {fo : Option HS} (hC : Cx E F 5 cX4_fillGap RX4 GT) (hO : Ro F rm_X4_fillGap) (hR : RV E F fo) (hf : fo ≠ none) (t : Nat) (ht1 : kd t = 4) (ht2 : AL E t) (x3 : Nat) (hx3a : kd x3 = 3) (hx3b : AL E x3) (x4 : Int32) (s0 : Int32) (s1 : Int32) (s2 : Nat) (hs2a : kd s2 = 3) (hs2b : AL E s2) (s3 : Nat) (hs3a : kd s3 = 4) (hs3b : AL E s3) (r16 : Int32 → HS → Option HS) (h16 : ∀ (x4 : Int32) (σ : HS), r16 x4 σ = fo → G E F 16 [(0, .ref (E.2.2.1 t)), (3, .ref (E.2.2.1 x3)), (4, .int x4)] [] σ) (σ : HS) (h : f_X4_fillGap_45 r16 t x3 x4 s0 s1 s2 s3 σ = fo) : G E F 45 [(0, .ref (E.2.2.1 t)), (3, .ref (E.2.2.1 x3)), (4, .int x4)] [.int s0, .int s1, .ref (E.2.2.1 s2), .ref (E.2.2.1 s3)] σ := by
    obtain ⟨q1, hq1, h⟩ := bd_of h hf
    refine g_cVV (As := [.ref (E.2.2.1 s2), .int s1, .int s0]) hC hO (c_X4_raise _ hC.2.2.2.2.2.2.1 s3 hs3a hs3b s2 hs2a hs2b s1 s0 σ (nn_of hq1)) gc_X4_70 (xk_X4_raise _ (Nat.le_of_ble_eq_true rfl) (Nat.le_of_ble_eq_true rfl)) cr4 hs3a hs3b rfl (Nat.le_of_ble_eq_true rfl) dX4_fillGap_45 hq1 ?_
    refine g_iinc (v := x4 + 1) (lv' := [(4, .int (x4 + 1)), (0, .ref (E.2.2.1 t)), (3, .ref (E.2.2.1 x3))]) hC dX4_fillGap_48 2 rfl rfl (by decide) rfl ?_
    refine g_goto (tgt := 16) hC dX4_fillGap_51 (by decide) ?_
    exact g_sub [1, 2, 0] rfl (h16 (x4 + 1) q1 h)
set_option maxHeartbeats 4000000 in
set_option maxRecDepth 100000 in
theorem k_X4_fillGap_16 {E : ET} {F : FT} {fo : Option HS} (hC : Cx E F 5 cX4_fillGap RX4 GT) (hO : Ro F rm_X4_fillGap) (hR : RV E F fo) (hf : fo ≠ none) (t : Nat) (ht1 : kd t = 4) (ht2 : AL E t) (x3 : Nat) (hx3a : kd x3 = 3) (hx3b : AL E x3) : ∀ (n : Nat) (x4 : Int32) (σ : HS), f_X4_fillGap_16 t x3 n x4 σ = fo → G E F 16 [(0, .ref (E.2.2.1 t)), (3, .ref (E.2.2.1 x3)), (4, .int x4)] [] σ := by
  intro n
  induction n with
  | zero =>
    intro x4 σ h
    exact absurd (h.symm.trans rfl) hf
  | succ n ih =>
    intro x4 σ h
    refine g_iload hC dX4_fillGap_16 2 rfl ?_
    refine g_aload_n hC dX4_fillGap_18 rfl 0 rfl ?_
    refine g_getR (cj := 10) (k := 1) hC cr4 ui_4 ht1 ht2 (by decide) fl_X4_40 rfl rfl dX4_fillGap_19 h hf (fun a1 ea1 ka1 na1 h => ?_)
    refine g_getR (cj := 1) (k := 2) hC cr10 ui_10 ka1 na1 (by decide) fl_X4_64 rfl rfl dX4_fillGap_22 h hf (fun a2 ea2 ka2 na2 h => ?_)
    refine g_getI (k := 5) hC cr1 ui_1 ka2 na2 (by decide) fl_X4_50 rfl rfl dX4_fillGap_25 ?_
    refine g_icmp_ge (tgt := 54) hC dX4_fillGap_28 (by decide) h (fun c28 h => ?_) (fun c28 h => ?_)
    · exact g_vret hC hR dX4_fillGap_54 h
    · refine g_aload_n hC dX4_fillGap_31 rfl 0 rfl ?_
      refine g_aload_n hC dX4_fillGap_32 rfl 1 rfl ?_
      refine g_iload hC dX4_fillGap_33 2 rfl ?_
      refine g_iload hC dX4_fillGap_35 2 rfl ?_
      refine g_if_ne (tgt := 44) hC dX4_fillGap_37 (by decide) h (fun c37 h => ?_) (fun c37 h => ?_)
      · refine g_iconst (v := 0) hC dX4_fillGap_44 (by decide) ?_
        exact g_sub [0, 1, 2] rfl (k_X4_fillGap_45 hC hO hR hf t ht1 ht2 x3 hx3a hx3b x4 0 x4 x3 hx3a hx3b t ht1 ht2 (f_X4_fillGap_16 t x3 n) ih σ h)
      · refine g_iconst (v := 1) hC dX4_fillGap_40 (by decide) ?_
        refine g_goto (tgt := 45) hC dX4_fillGap_41 (by decide) ?_
        exact g_sub [0, 1, 2] rfl (k_X4_fillGap_45 hC hO hR hf t ht1 ht2 x3 hx3a hx3b x4 1 x4 x3 hx3a hx3b t ht1 ht2 (f_X4_fillGap_16 t x3 n) ih σ h)
set_option maxHeartbeats 4000000 in
set_option maxRecDepth 100000 in
theorem k_X4_fillGap_0 {E : ET} {F : FT} {fo : Option HS} (hC : Cx E F 5 cX4_fillGap RX4 GT) (hO : Ro F rm_X4_fillGap) (hR : RV E F fo) (hf : fo ≠ none) (t : Nat) (ht1 : kd t = 4) (ht2 : AL E t) (x1 : Int32) (x2 : Int32) (x3 : Nat) (hx3a : kd x3 = 3) (hx3b : AL E x3) (σ : HS) (h : f_X4_fillGap t x1 x2 x3 σ = fo) : G E F 0 [(0, .ref (E.2.2.1 t)), (1, .int x1), (2, .int x2), (3, .ref (E.2.2.1 x3))] [] σ := by
    refine g_aload_n hC dX4_fillGap_0 rfl 0 rfl ?_
    refine g_getR (cj := 9) (k := 0) hC cr4 ui_4 ht1 ht2 (by decide) fl_X4_36 rfl rfl dX4_fillGap_1 h hf (fun a1 ea1 ka1 na1 h => ?_)
    refine g_iload_n hC dX4_fillGap_4 rfl 2 rfl ?_
    refine g_iload_n hC dX4_fillGap_5 rfl 1 rfl ?_
    refine g_aload_n hC dX4_fillGap_6 rfl 0 rfl ?_
    refine g_getR (cj := 14) (k := 3) hC cr4 ui_4 ht1 ht2 (by decide) fl_X4_16 rfl rfl dX4_fillGap_7 h hf (fun a2 ea2 ka2 na2 h => ?_)
    obtain ⟨q3, hq3, h⟩ := bd_of h hf
    refine g_cVV (As := [.int x2, .int x1, .ref (E.2.2.1 a2)]) hC hO (c_X9_fillLead _ hC.2.2.2.2.2.2.1 a1 ka1 na1 x2 x1 a2 ka2 na2 σ (nn_of hq3)) gc_X4_56 (xk_X9_fillLead _ (Nat.le_of_ble_eq_true rfl) (Nat.le_of_ble_eq_true rfl)) cr9 ka1 na1 rfl (Nat.le_of_ble_eq_true rfl) dX4_fillGap_10 hq3 ?_
    refine g_iconst (v := 0) hC dX4_fillGap_13 (by decide) ?_
    refine g_istore (lv' := [(4, .int 0), (0, .ref (E.2.2.1 t)), (1, .int x1), (2, .int x2), (3, .ref (E.2.2.1 x3))]) hC dX4_fillGap_14 (by decide) rfl ?_
    exact g_sub [1, 4, 0] rfl (k_X4_fillGap_16 hC hO hR hf t ht1 ht2 x3 hx3a hx3b FU 0 q3 h)
theorem xk_X4_fillGap (R : Room) (h1 : 2 + 1 ≤ R.frames) (h2 : 112 ≤ R.locals) : xw R yX4_fillGap w_X4_fillGap GT cX4_fillGap 5 none rm_X4_fillGap 3 := ⟨rfl, rfl, rfl, h1, h2, ⟨by decide, by decide⟩, by decide +kernel⟩
theorem c_X4_fillGap (E : ET) (hE : EO E) (t : Nat) (ht1 : kd t = 4) (ht2 : AL E t) (x1 : Int32) (x2 : Int32) (x3 : Nat) (hx3a : kd x3 = 3) (hx3b : AL E x3) (σ : HS) (hn : f_X4_fillGap t x1 x2 x3 σ ≠ none) : CoV E yX4_fillGap w_X4_fillGap rm_X4_fillGap [.ref (E.2.2.1 t), .int x1, .int x2, .ref (E.2.2.1 x3)] σ (f_X4_fillGap t x1 x2 x3 σ) := CoV.of (lv := [(0, .ref (E.2.2.1 t)), (1, .int x1), (2, .int x2), (3, .ref (E.2.2.1 x3))]) hE (plainFor_of_name (by decide)) rfl (Nat.le_of_ble_eq_true rfl) rfl (fun F hC hO hR => k_X4_fillGap_0 hC hO hR hn t ht1 ht2 x1 x2 x3 hx3a hx3b σ rfl)
def rm_X4_fillRegret : Room := { frames := 2, cells := 0, slots := 0, locals := 76 }
set_option maxHeartbeats 4000000 in
set_option maxRecDepth 100000 in
theorem k_X4_fillRegret_70 {E : ET} {F : FT} {fo : Option HS} (hC : Cx E F 5 cX4_fillRegret RX4 GT) (hO : Ro F rm_X4_fillRegret) (hR : RV E F fo) (hf : fo ≠ none) (t : Nat) (ht1 : kd t = 4) (ht2 : AL E t) (x1 : Int32) (x2 : Nat) (hx2a : kd x2 = 3) (hx2b : AL E x2) (x3 : Int32) (r8 : Int32 → HS → Option HS) (h8 : ∀ (x3 : Int32) (σ : HS), r8 x3 σ = fo → G E F 8 [(0, .ref (E.2.2.1 t)), (1, .int x1), (2, .ref (E.2.2.1 x2)), (3, .int x3)] [] σ) (σ : HS) (h : f_X4_fillRegret_70 r8 t x1 x2 x3 σ = fo) : G E F 70 [(0, .ref (E.2.2.1 t)), (1, .int x1), (2, .ref (E.2.2.1 x2)), (3, .int x3)] [] σ := by
    refine g_iinc (v := x3 + 1) (lv' := [(3, .int (x3 + 1)), (0, .ref (E.2.2.1 t)), (1, .int x1), (2, .ref (E.2.2.1 x2))]) hC dX4_fillRegret_70 3 rfl rfl (by decide) rfl ?_
    refine g_goto (tgt := 8) hC dX4_fillRegret_73 (by decide) ?_
    exact g_sub [1, 2, 3, 0] rfl (h8 (x3 + 1) σ h)
set_option maxHeartbeats 4000000 in
set_option maxRecDepth 100000 in
theorem k_X4_fillRegret_41 {E : ET} {F : FT} {fo : Option HS} (hC : Cx E F 5 cX4_fillRegret RX4 GT) (hO : Ro F rm_X4_fillRegret) (hR : RV E F fo) (hf : fo ≠ none) (t : Nat) (ht1 : kd t = 4) (ht2 : AL E t) (x1 : Int32) (x2 : Nat) (hx2a : kd x2 = 3) (hx2b : AL E x2) (x3 : Int32) (r8 : Int32 → HS → Option HS) (h8 : ∀ (x3 : Int32) (σ : HS), r8 x3 σ = fo → G E F 8 [(0, .ref (E.2.2.1 t)), (1, .int x1), (2, .ref (E.2.2.1 x2)), (3, .int x3)] [] σ) : ∀ (n : Nat) (x4 : Int32) (σ : HS), f_X4_fillRegret_41 t x1 x2 x3 r8 n x4 σ = fo → G E F 41 [(0, .ref (E.2.2.1 t)), (1, .int x1), (2, .ref (E.2.2.1 x2)), (3, .int x3), (4, .int x4)] [] σ := by
  intro n
  induction n with
  | zero =>
    intro x4 σ h
    exact absurd (h.symm.trans rfl) hf
  | succ n ih =>
    intro x4 σ h
    refine g_iload hC dX4_fillRegret_41 4 rfl ?_
    refine g_aload_n hC dX4_fillRegret_43 rfl 0 rfl ?_
    refine g_getR (cj := 10) (k := 1) hC cr4 ui_4 ht1 ht2 (by decide) fl_X4_40 rfl rfl dX4_fillRegret_44 h hf (fun a1 ea1 ka1 na1 h => ?_)
    refine g_getR (cj := 1) (k := 2) hC cr10 ui_10 ka1 na1 (by decide) fl_X4_64 rfl rfl dX4_fillRegret_47 h hf (fun a2 ea2 ka2 na2 h => ?_)
    refine g_getI (k := 5) hC cr1 ui_1 ka2 na2 (by decide) fl_X4_50 rfl rfl dX4_fillRegret_50 ?_
    refine g_icmp_ge (tgt := 70) hC dX4_fillRegret_53 (by decide) h (fun c53 h => ?_) (fun c53 h => ?_)
    · exact g_sub [0, 1, 2, 3] rfl (k_X4_fillRegret_70 hC hO hR hf t ht1 ht2 x1 x2 hx2a hx2b x3 r8 h8 σ h)
    · refine g_aload_n hC dX4_fillRegret_56 rfl 0 rfl ?_
      refine g_aload_n hC dX4_fillRegret_57 rfl 2 rfl ?_
      refine g_iload hC dX4_fillRegret_58 4 rfl ?_
      refine g_iconst (v := 0) hC dX4_fillRegret_60 (by decide) ?_
      obtain ⟨q3, hq3, h⟩ := bd_of h hf
      refine g_cVV (As := [.ref (E.2.2.1 x2), .int x4, .int 0]) hC hO (c_X4_raise _ hC.2.2.2.2.2.2.1 t ht1 ht2 x2 hx2a hx2b x4 0 σ (nn_of hq3)) gc_X4_70 (xk_X4_raise _ (Nat.le_of_ble_eq_true rfl) (Nat.le_of_ble_eq_true rfl)) cr4 ht1 ht2 rfl (Nat.le_of_ble_eq_true rfl) dX4_fillRegret_61 hq3 ?_
      refine g_iinc (v := x4 + 1) (lv' := [(4, .int (x4 + 1)), (0, .ref (E.2.2.1 t)), (1, .int x1), (2, .ref (E.2.2.1 x2)), (3, .int x3)]) hC dX4_fillRegret_64 4 rfl rfl (by decide) rfl ?_
      refine g_goto (tgt := 41) hC dX4_fillRegret_67 (by decide) ?_
      exact g_sub [1, 2, 3, 4, 0] rfl (ih (x4 + 1) q3 h)
set_option maxHeartbeats 4000000 in
set_option maxRecDepth 100000 in
theorem k_X4_fillRegret_8 {E : ET} {F : FT} {fo : Option HS} (hC : Cx E F 5 cX4_fillRegret RX4 GT) (hO : Ro F rm_X4_fillRegret) (hR : RV E F fo) (hf : fo ≠ none) (t : Nat) (ht1 : kd t = 4) (ht2 : AL E t) (x1 : Int32) (x2 : Nat) (hx2a : kd x2 = 3) (hx2b : AL E x2) : ∀ (n : Nat) (x3 : Int32) (σ : HS), f_X4_fillRegret_8 t x1 x2 n x3 σ = fo → G E F 8 [(0, .ref (E.2.2.1 t)), (1, .int x1), (2, .ref (E.2.2.1 x2)), (3, .int x3)] [] σ := by
  intro n
  induction n with
  | zero =>
    intro x3 σ h
    exact absurd (h.symm.trans rfl) hf
  | succ n ih =>
    intro x3 σ h
    refine g_iload_n hC dX4_fillRegret_8 rfl 3 rfl ?_
    refine g_bipush (v := 8) hC dX4_fillRegret_9 (by decide) ?_
    refine g_icmp_ge (tgt := 76) hC dX4_fillRegret_11 (by decide) h (fun c11 h => ?_) (fun c11 h => ?_)
    · exact g_vret hC hR dX4_fillRegret_76 h
    · refine g_aload_n hC dX4_fillRegret_14 rfl 0 rfl ?_
      refine g_getR (cj := 9) (k := 0) hC cr4 ui_4 ht1 ht2 (by decide) fl_X4_36 rfl rfl dX4_fillRegret_15 h hf (fun a1 ea1 ka1 na1 h => ?_)
      refine g_iload_n hC dX4_fillRegret_18 rfl 3 rfl ?_
      obtain ⟨q2, hq2, h⟩ := bd_of h hf
      refine g_cVI (As := [.int x3]) hC hO (c_X9_isIn _ hC.2.2.2.2.2.2.1 a1 ka1 na1 x3 σ (nn_of hq2)) gc_X4_44 (xk_X9_isIn _ (Nat.le_of_ble_eq_true rfl) (Nat.le_of_ble_eq_true rfl)) cr9 ka1 na1 rfl (Nat.le_of_ble_eq_true rfl) dX4_fillRegret_19 hq2 ?_
      refine g_if_eq (tgt := 70) hC dX4_fillRegret_22 (by decide) h (fun c22 h => ?_) (fun c22 h => ?_)
      · exact g_sub [0, 1, 2, 3] rfl (k_X4_fillRegret_70 hC hO hR hf t ht1 ht2 x1 x2 hx2a hx2b x3 (f_X4_fillRegret_8 t x1 x2 n) ih q2.2 h)
      · refine g_aload_n hC dX4_fillRegret_25 rfl 0 rfl ?_
        refine g_getR (cj := 9) (k := 0) hC cr4 ui_4 ht1 ht2 (by decide) fl_X4_36 rfl rfl dX4_fillRegret_26 h hf (fun a3 ea3 ka3 na3 h => ?_)
        refine g_iload_n hC dX4_fillRegret_29 rfl 3 rfl ?_
        refine g_iload_n hC dX4_fillRegret_30 rfl 1 rfl ?_
        refine g_aload_n hC dX4_fillRegret_31 rfl 0 rfl ?_
        refine g_getR (cj := 14) (k := 3) hC cr4 ui_4 ht1 ht2 (by decide) fl_X4_16 rfl rfl dX4_fillRegret_32 h hf (fun a4 ea4 ka4 na4 h => ?_)
        obtain ⟨q5, hq5, h⟩ := bd_of h hf
        refine g_cVV (As := [.int x3, .int x1, .ref (E.2.2.1 a4)]) hC hO (c_X9_fillLead _ hC.2.2.2.2.2.2.1 a3 ka3 na3 x3 x1 a4 ka4 na4 q2.2 (nn_of hq5)) gc_X4_56 (xk_X9_fillLead _ (Nat.le_of_ble_eq_true rfl) (Nat.le_of_ble_eq_true rfl)) cr9 ka3 na3 rfl (Nat.le_of_ble_eq_true rfl) dX4_fillRegret_35 hq5 ?_
        refine g_iconst (v := 0) hC dX4_fillRegret_38 (by decide) ?_
        refine g_istore (lv' := [(4, .int 0), (0, .ref (E.2.2.1 t)), (1, .int x1), (2, .ref (E.2.2.1 x2)), (3, .int x3)]) hC dX4_fillRegret_39 (by decide) rfl ?_
        exact g_sub [1, 2, 3, 4, 0] rfl (k_X4_fillRegret_41 hC hO hR hf t ht1 ht2 x1 x2 hx2a hx2b x3 (f_X4_fillRegret_8 t x1 x2 n) ih FU 0 q5 h)
set_option maxHeartbeats 4000000 in
set_option maxRecDepth 100000 in
theorem k_X4_fillRegret_0 {E : ET} {F : FT} {fo : Option HS} (hC : Cx E F 5 cX4_fillRegret RX4 GT) (hO : Ro F rm_X4_fillRegret) (hR : RV E F fo) (hf : fo ≠ none) (t : Nat) (ht1 : kd t = 4) (ht2 : AL E t) (x1 : Int32) (x2 : Nat) (hx2a : kd x2 = 3) (hx2b : AL E x2) (σ : HS) (h : f_X4_fillRegret t x1 x2 σ = fo) : G E F 0 [(0, .ref (E.2.2.1 t)), (1, .int x1), (2, .ref (E.2.2.1 x2))] [] σ := by
    refine g_aload_n hC dX4_fillRegret_0 rfl 2 rfl ?_
    refine g_lconst (v := 0) hC dX4_fillRegret_1 (by decide) ?_
    refine g_lconst (v := 1) hC dX4_fillRegret_2 (by decide) ?_
    obtain ⟨q1, hq1, h⟩ := bd_of h hf
    refine g_cVV (As := [.long 0, .long 1]) hC hO (c_X3_become _ hC.2.2.2.2.2.2.1 x2 hx2a hx2b 0 1 σ (nn_of hq1)) gc_X4_74 (xk_X3_become _ (Nat.le_of_ble_eq_true rfl) (Nat.le_of_ble_eq_true rfl)) cr3 hx2a hx2b rfl (Nat.le_of_ble_eq_true rfl) dX4_fillRegret_3 hq1 ?_
    refine g_iconst (v := 0) hC dX4_fillRegret_6 (by decide) ?_
    refine g_istore_n (lv' := [(3, .int 0), (0, .ref (E.2.2.1 t)), (1, .int x1), (2, .ref (E.2.2.1 x2))]) hC dX4_fillRegret_7 rfl (by decide) rfl ?_
    exact g_sub [1, 2, 3, 0] rfl (k_X4_fillRegret_8 hC hO hR hf t ht1 ht2 x1 x2 hx2a hx2b FU 0 q1 h)
theorem xk_X4_fillRegret (R : Room) (h1 : 2 + 1 ≤ R.frames) (h2 : 112 ≤ R.locals) : xw R yX4_fillRegret w_X4_fillRegret GT cX4_fillRegret 5 none rm_X4_fillRegret 2 := ⟨rfl, rfl, rfl, h1, h2, ⟨by decide, by decide⟩, by decide +kernel⟩
theorem c_X4_fillRegret (E : ET) (hE : EO E) (t : Nat) (ht1 : kd t = 4) (ht2 : AL E t) (x1 : Int32) (x2 : Nat) (hx2a : kd x2 = 3) (hx2b : AL E x2) (σ : HS) (hn : f_X4_fillRegret t x1 x2 σ ≠ none) : CoV E yX4_fillRegret w_X4_fillRegret rm_X4_fillRegret [.ref (E.2.2.1 t), .int x1, .ref (E.2.2.1 x2)] σ (f_X4_fillRegret t x1 x2 σ) := CoV.of (lv := [(0, .ref (E.2.2.1 t)), (1, .int x1), (2, .ref (E.2.2.1 x2))]) hE (plainFor_of_name (by decide)) rfl (Nat.le_of_ble_eq_true rfl) rfl (fun F hC hO hR => k_X4_fillRegret_0 hC hO hR hn t ht1 ht2 x1 x2 hx2a hx2b σ rfl)
def rm_X4_leastRegret : Room := { frames := 3, cells := 0, slots := 0, locals := 112 }
theorem wc_X4_fillRegret : Cond.code yX4_fillRegret cX4_fillRegret 5 none ∈ GT := gtr_43 _ (List.mem_of_getElem? (i := 13) rfl)
theorem gc_X4_88 : GoodIn GT (wsV RX4 88 RX4 yX4_fillRegret w_X4_fillRegret) := gi_V (gtr_44 _ (List.mem_of_getElem? (i := 12) rfl)) (gtr_43 _ (List.mem_of_getElem? (i := 11) rfl)) (gtr_43 _ (List.mem_of_getElem? (i := 12) rfl)) (gtr_2 _ (List.mem_of_getElem? (i := 8) rfl)) wc_X4_fillRegret
theorem fl_X4_92 : Cond.fieldLink RX4 92 "EveryMeasure$Fraction" (TX3 0).2.1 (TX3 0).2.2.1 ∈ GT := gtr_44 _ (List.mem_of_getElem? (i := 10) rfl)
theorem fl_X4_96 : Cond.fieldLink RX4 96 "EveryMeasure$Fraction" (TX3 1).2.1 (TX3 1).2.2.1 ∈ GT := gtr_44 _ (List.mem_of_getElem? (i := 11) rfl)
set_option maxHeartbeats 4000000 in
set_option maxRecDepth 100000 in
theorem k_X4_leastRegret_65 {E : ET} {F : FT} {fo : Option (Int32 × HS)} (hC : Cx E F 8 cX4_leastRegret RX4 GT) (hO : Ro F rm_X4_leastRegret) (hR : RI E F .int fo) (hf : fo ≠ none) (t : Nat) (ht1 : kd t = 4) (ht2 : AL E t) (x1 : Nat) (hx1a : kd x1 = 3) (hx1b : AL E x1) (x2 : Int32) (x3 : Int64) (x5 : Int64) (x7 : Int32) (r10 : Int32 → Int64 → Int64 → Int32 → HS → Option (Int32 × HS)) (h10 : ∀ (x2 : Int32) (x3 : Int64) (x5 : Int64) (x7 : Int32) (σ : HS), r10 x2 x3 x5 x7 σ = fo → G E F 10 [(0, .ref (E.2.2.1 t)), (1, .ref (E.2.2.1 x1)), (2, .int x2), (3, .long x3), (5, .long x5), (7, .int x7)] [] σ) (σ : HS) (h : f_X4_leastRegret_65 r10 t x1 x2 x3 x5 x7 σ = fo) : G E F 65 [(0, .ref (E.2.2.1 t)), (1, .ref (E.2.2.1 x1)), (2, .int x2), (3, .long x3), (5, .long x5), (7, .int x7)] [] σ := by
    refine g_iinc (v := x7 + 1) (lv' := [(7, .int (x7 + 1)), (0, .ref (E.2.2.1 t)), (1, .ref (E.2.2.1 x1)), (2, .int x2), (3, .long x3), (5, .long x5)]) hC dX4_leastRegret_65 5 rfl rfl (by decide) rfl ?_
    refine g_goto (tgt := 10) hC dX4_leastRegret_68 (by decide) ?_
    exact g_sub [1, 2, 3, 4, 5, 0] rfl (h10 x2 x3 x5 (x7 + 1) σ h)
set_option maxHeartbeats 4000000 in
set_option maxRecDepth 100000 in
theorem k_X4_leastRegret_51 {E : ET} {F : FT} {fo : Option (Int32 × HS)} (hC : Cx E F 8 cX4_leastRegret RX4 GT) (hO : Ro F rm_X4_leastRegret) (hR : RI E F .int fo) (hf : fo ≠ none) (t : Nat) (ht1 : kd t = 4) (ht2 : AL E t) (x1 : Nat) (hx1a : kd x1 = 3) (hx1b : AL E x1) (x7 : Int32) (r10 : Int32 → Int64 → Int64 → Int32 → HS → Option (Int32 × HS)) (h10 : ∀ (x2 : Int32) (x3 : Int64) (x5 : Int64) (x7 : Int32) (σ : HS), r10 x2 x3 x5 x7 σ = fo → G E F 10 [(0, .ref (E.2.2.1 t)), (1, .ref (E.2.2.1 x1)), (2, .int x2), (3, .long x3), (5, .long x5), (7, .int x7)] [] σ) (σ : HS) (h : f_X4_leastRegret_51 r10 t x1 x7 σ = fo) : G E F 51 [(0, .ref (E.2.2.1 t)), (1, .ref (E.2.2.1 x1)), (7, .int x7)] [] σ := by
    refine g_iload hC dX4_leastRegret_51 2 rfl ?_
    refine g_istore_n (lv' := [(2, .int x7), (0, .ref (E.2.2.1 t)), (1, .ref (E.2.2.1 x1)), (7, .int x7)]) hC dX4_leastRegret_53 rfl (by decide) rfl ?_
    refine g_aload_n hC dX4_leastRegret_54 rfl 2 rfl ?_
    refine g_getJ (k := 0) hC cr3 ui_3 hx1a hx1b (by decide) fl_X4_92 rfl rfl dX4_leastRegret_55 ?_
    refine g_lstore_n (lv' := [(3, .long (σ.2.1 x1 0)), (2, .int x7), (0, .ref (E.2.2.1 t)), (1, .ref (E.2.2.1 x1)), (7, .int x7)]) hC dX4_leastRegret_58 rfl (by decide) rfl ?_
    refine g_aload_n hC dX4_leastRegret_59 rfl 3 rfl ?_
    refine g_getJ (k := 1) hC cr3 ui_3 hx1a hx1b (by decide) fl_X4_96 rfl rfl dX4_leastRegret_60 ?_
    refine g_lstore (lv' := [(5, .long (σ.2.1 x1 1)), (3, .long (σ.2.1 x1 0)), (2, .int x7), (0, .ref (E.2.2.1 t)), (1, .ref (E.2.2.1 x1)), (7, .int x7)]) hC dX4_leastRegret_63 (by decide) rfl ?_
    exact g_sub [3, 4, 2, 1, 0, 5] rfl (k_X4_leastRegret_65 hC hO hR hf t ht1 ht2 x1 hx1a hx1b x7 (σ.2.1 x1 0) (σ.2.1 x1 1) x7 r10 h10 σ h)
set_option maxHeartbeats 4000000 in
set_option maxRecDepth 100000 in
theorem k_X4_leastRegret_10 {E : ET} {F : FT} {fo : Option (Int32 × HS)} (hC : Cx E F 8 cX4_leastRegret RX4 GT) (hO : Ro F rm_X4_leastRegret) (hR : RI E F .int fo) (hf : fo ≠ none) (t : Nat) (ht1 : kd t = 4) (ht2 : AL E t) (x1 : Nat) (hx1a : kd x1 = 3) (hx1b : AL E x1) : ∀ (n : Nat) (x2 : Int32) (x3 : Int64) (x5 : Int64) (x7 : Int32) (σ : HS), f_X4_leastRegret_10 t x1 n x2 x3 x5 x7 σ = fo → G E F 10 [(0, .ref (E.2.2.1 t)), (1, .ref (E.2.2.1 x1)), (2, .int x2), (3, .long x3), (5, .long x5), (7, .int x7)] [] σ := by
  intro n
  induction n with
  | zero =>
    intro x2 x3 x5 x7 σ h
    exact absurd (h.symm.trans rfl) hf
  | succ n ih =>
    intro x2 x3 x5 x7 σ h
    refine g_iload hC dX4_leastRegret_10 5 rfl ?_
    refine g_bipush (v := 8) hC dX4_leastRegret_12 (by decide) ?_
    refine g_icmp_ge (tgt := 71) hC dX4_leastRegret_14 (by decide) h (fun c14 h => ?_) (fun c14 h => ?_)
    · refine g_iload_n hC dX4_leastRegret_71 rfl 2 rfl ?_
      exact g_iret hC hR dX4_leastRegret_72 rfl h
    · refine g_aload_n hC dX4_leastRegret_17 rfl 0 rfl ?_
      refine g_getR (cj := 9) (k := 0) hC cr4 ui_4 ht1 ht2 (by decide) fl_X4_36 rfl rfl dX4_leastRegret_18 h hf (fun a1 ea1 ka1 na1 h => ?_)
      refine g_iload hC dX4_leastRegret_21 5 rfl ?_
      obtain ⟨q2, hq2, h⟩ := bd_of h hf
      refine g_cVI (As := [.int x7]) hC hO (c_X9_isIn _ hC.2.2.2.2.2.2.1 a1 ka1 na1 x7 σ (nn_of hq2)) gc_X4_44 (xk_X9_isIn _ (Nat.le_of_ble_eq_true rfl) (Nat.le_of_ble_eq_true rfl)) cr9 ka1 na1 rfl (Nat.le_of_ble_eq_true rfl) dX4_leastRegret_23 hq2 ?_
      refine g_if_eq (tgt := 65) hC dX4_leastRegret_26 (by decide) h (fun c26 h => ?_) (fun c26 h => ?_)
      · exact g_sub [0, 1, 2, 3, 4, 5] rfl (k_X4_leastRegret_65 hC hO hR hf t ht1 ht2 x1 hx1a hx1b x2 x3 x5 x7 (f_X4_leastRegret_10 t x1 n) ih q2.2 h)
      · refine g_aload_n hC dX4_leastRegret_29 rfl 0 rfl ?_
        refine g_iload hC dX4_leastRegret_30 5 rfl ?_
        refine g_aload_n hC dX4_leastRegret_32 rfl 1 rfl ?_
        obtain ⟨q3, hq3, h⟩ := bd_of h hf
        refine g_cVV (As := [.int x7, .ref (E.2.2.1 x1)]) hC hO (c_X4_fillRegret _ hC.2.2.2.2.2.2.1 t ht1 ht2 x7 x1 hx1a hx1b q2.2 (nn_of hq3)) gc_X4_88 (xk_X4_fillRegret _ (Nat.le_of_ble_eq_true rfl) (Nat.le_of_ble_eq_true rfl)) cr4 ht1 ht2 rfl (Nat.le_of_ble_eq_true rfl) dX4_leastRegret_33 hq3 ?_
        refine g_iload_n hC dX4_leastRegret_36 rfl 2 rfl ?_
        refine g_iconst (v := (-1)) hC dX4_leastRegret_37 (by decide) ?_
        refine g_icmp_eq (tgt := 51) hC dX4_leastRegret_38 (by decide) h (fun c38 h => ?_) (fun c38 h => ?_)
        · exact g_sub [0, 1, 5] rfl (k_X4_leastRegret_51 hC hO hR hf t ht1 ht2 x1 hx1a hx1b x7 (f_X4_leastRegret_10 t x1 n) ih q3 h)
        · refine g_aload_n hC dX4_leastRegret_41 rfl 1 rfl ?_
          refine g_lload_n hC dX4_leastRegret_42 rfl 3 rfl ?_
          refine g_lload hC dX4_leastRegret_43 4 rfl ?_
          obtain ⟨q4, hq4, h⟩ := bd_of h hf
          refine g_cVI (As := [.long x3, .long x5]) hC hO (c_X3_isUnder _ hC.2.2.2.2.2.2.1 x1 hx1a hx1b x3 x5 q3 (nn_of hq4)) gc_X4_84 (xk_X3_isUnder _ (Nat.le_of_ble_eq_true rfl) (Nat.le_of_ble_eq_true rfl)) cr3 hx1a hx1b rfl (Nat.le_of_ble_eq_true rfl) dX4_leastRegret_45 hq4 ?_
          refine g_if_eq (tgt := 65) hC dX4_leastRegret_48 (by decide) h (fun c48 h => ?_) (fun c48 h => ?_)
          · exact g_sub [0, 1, 2, 3, 4, 5] rfl (k_X4_leastRegret_65 hC hO hR hf t ht1 ht2 x1 hx1a hx1b x2 x3 x5 x7 (f_X4_leastRegret_10 t x1 n) ih q4.2 h)
          · exact g_sub [0, 1, 5] rfl (k_X4_leastRegret_51 hC hO hR hf t ht1 ht2 x1 hx1a hx1b x7 (f_X4_leastRegret_10 t x1 n) ih q4.2 h)
set_option maxHeartbeats 4000000 in
set_option maxRecDepth 100000 in
theorem k_X4_leastRegret_0 {E : ET} {F : FT} {fo : Option (Int32 × HS)} (hC : Cx E F 8 cX4_leastRegret RX4 GT) (hO : Ro F rm_X4_leastRegret) (hR : RI E F .int fo) (hf : fo ≠ none) (t : Nat) (ht1 : kd t = 4) (ht2 : AL E t) (x1 : Nat) (hx1a : kd x1 = 3) (hx1b : AL E x1) (σ : HS) (h : f_X4_leastRegret t x1 σ = fo) : G E F 0 [(0, .ref (E.2.2.1 t)), (1, .ref (E.2.2.1 x1))] [] σ := by
    refine g_iconst (v := (-1)) hC dX4_leastRegret_0 (by decide) ?_
    refine g_istore_n (lv' := [(2, .int (-1)), (0, .ref (E.2.2.1 t)), (1, .ref (E.2.2.1 x1))]) hC dX4_leastRegret_1 rfl (by decide) rfl ?_
    refine g_lconst (v := 0) hC dX4_leastRegret_2 (by decide) ?_
    refine g_lstore_n (lv' := [(3, .long 0), (2, .int (-1)), (0, .ref (E.2.2.1 t)), (1, .ref (E.2.2.1 x1))]) hC dX4_leastRegret_3 rfl (by decide) rfl ?_
    refine g_lconst (v := 1) hC dX4_leastRegret_4 (by decide) ?_
    refine g_lstore (lv' := [(5, .long 1), (3, .long 0), (2, .int (-1)), (0, .ref (E.2.2.1 t)), (1, .ref (E.2.2.1 x1))]) hC dX4_leastRegret_5 (by decide) rfl ?_
    refine g_iconst (v := 0) hC dX4_leastRegret_7 (by decide) ?_
    refine g_istore (lv' := [(7, .int 0), (5, .long 1), (3, .long 0), (2, .int (-1)), (0, .ref (E.2.2.1 t)), (1, .ref (E.2.2.1 x1))]) hC dX4_leastRegret_8 (by decide) rfl ?_
    exact g_sub [4, 5, 3, 2, 1, 0] rfl (k_X4_leastRegret_10 hC hO hR hf t ht1 ht2 x1 hx1a hx1b FU (-1) 0 1 0 σ h)
theorem xk_X4_leastRegret (R : Room) (h1 : 3 + 1 ≤ R.frames) (h2 : 151 ≤ R.locals) : xw R yX4_leastRegret w_X4_leastRegret GT cX4_leastRegret 8 (some .int) rm_X4_leastRegret 1 := ⟨rfl, rfl, rfl, h1, h2, ⟨by decide, by decide⟩, by decide +kernel⟩
theorem c_X4_leastRegret (E : ET) (hE : EO E) (t : Nat) (ht1 : kd t = 4) (ht2 : AL E t) (x1 : Nat) (hx1a : kd x1 = 3) (hx1b : AL E x1) (σ : HS) (hn : f_X4_leastRegret t x1 σ ≠ none) : CoI E yX4_leastRegret w_X4_leastRegret rm_X4_leastRegret [.ref (E.2.2.1 t), .ref (E.2.2.1 x1)] σ (f_X4_leastRegret t x1 σ) := CoI.of (lv := [(0, .ref (E.2.2.1 t)), (1, .ref (E.2.2.1 x1))]) hE (plainFor_of_name (by decide)) rfl (Nat.le_of_ble_eq_true rfl) rfl (fun F hC hO hR => k_X4_leastRegret_0 hC hO hR hn t ht1 ht2 x1 hx1a hx1b σ rfl)
def rm_X4_whereBest : Room := { frames := 3, cells := 0, slots := 0, locals := 126 }
theorem fl_X4_124 : Cond.fieldLink RX4 124 "EveryMeasure$Weights" (TX10 3).2.1 (TX10 3).2.2.1 ∈ GT := gtr_41 _ (List.mem_of_getElem? (i := 7) rfl)
theorem gc_X4_128 : GoodIn GT (wsV RX4 128 RX1 yX1_become w_X1_become) := gi_V (gtr_41 _ (List.mem_of_getElem? (i := 8) rfl)) (gtr_24 _ (List.mem_of_getElem? (i := 12) rfl)) (gtr_24 _ (List.mem_of_getElem? (i := 13) rfl)) (gtr_4 _ (List.mem_of_getElem? (i := 21) rfl)) wc_X1_become
theorem gc_X4_131 : GoodIn GT (wsV RX4 131 RX1 yX1_becomeCut w_X1_becomeCut) := gi_V (gtr_41 _ (List.mem_of_getElem? (i := 9) rfl)) (gtr_25 _ (List.mem_of_getElem? (i := 0) rfl)) (gtr_25 _ (List.mem_of_getElem? (i := 1) rfl)) (gtr_4 _ (List.mem_of_getElem? (i := 21) rfl)) wc_X1_becomeCut
set_option maxHeartbeats 4000000 in
set_option maxRecDepth 100000 in
theorem k_X4_whereBest_111 {E : ET} {F : FT} {fo : Option (Nat × HS)} (hC : Cx E F 7 cX4_whereBest RX4 GT) (hO : Ro F rm_X4_whereBest) (hR : RR E F fo) (hf : fo ≠ none) (t : Nat) (ht1 : kd t = 4) (ht2 : AL E t) (x1 : Int32) (x2 : Int32) (x3 : Int32) (x4 : Nat) (hx4a : kd x4 = 17) (hx4b : AL E x4) (x5 : Int32) (x6 : Int32) (r29 : Int32 → Int32 → HS → Option (Nat × HS)) (h29 : ∀ (x5 : Int32) (x6 : Int32) (σ : HS), r29 x5 x6 σ = fo → G E F 29 [(0, .ref (E.2.2.1 t)), (1, .int x1), (2, .int x2), (3, .int x3), (4, .ref (E.2.2.1 x4)), (5, .int x5), (6, .int x6)] [] σ) (σ : HS) (h : f_X4_whereBest_111 r29 t x1 x2 x3 x4 x5 x6 σ = fo) : G E F 111 [(0, .ref (E.2.2.1 t)), (1, .int x1), (2, .int x2), (3, .int x3), (4, .ref (E.2.2.1 x4)), (5, .int x5), (6, .int x6)] [] σ := by
    refine g_iinc (v := x6 + 1) (lv' := [(6, .int (x6 + 1)), (0, .ref (E.2.2.1 t)), (1, .int x1), (2, .int x2), (3, .int x3), (4, .ref (E.2.2.1 x4)), (5, .int x5)]) hC dX4_whereBest_111 6 rfl rfl (by decide) rfl ?_
    refine g_goto (tgt := 29) hC dX4_whereBest_114 (by decide) ?_
    exact g_sub [1, 2, 3, 4, 5, 6, 0] rfl (h29 x5 (x6 + 1) σ h)
set_option maxHeartbeats 4000000 in
set_option maxRecDepth 100000 in
theorem k_X4_whereBest_29 {E : ET} {F : FT} {fo : Option (Nat × HS)} (hC : Cx E F 7 cX4_whereBest RX4 GT) (hO : Ro F rm_X4_whereBest) (hR : RR E F fo) (hf : fo ≠ none) (t : Nat) (ht1 : kd t = 4) (ht2 : AL E t) (x1 : Int32) (x2 : Int32) (x3 : Int32) (x4 : Nat) (hx4a : kd x4 = 17) (hx4b : AL E x4) : ∀ (n : Nat) (x5 : Int32) (x6 : Int32) (σ : HS), f_X4_whereBest_29 t x1 x2 x3 x4 n x5 x6 σ = fo → G E F 29 [(0, .ref (E.2.2.1 t)), (1, .int x1), (2, .int x2), (3, .int x3), (4, .ref (E.2.2.1 x4)), (5, .int x5), (6, .int x6)] [] σ := by
  intro n
  induction n with
  | zero =>
    intro x5 x6 σ h
    exact absurd (h.symm.trans rfl) hf
  | succ n ih =>
    intro x5 x6 σ h
    refine g_iload hC dX4_whereBest_29 6 rfl ?_
    refine g_bipush (v := 8) hC dX4_whereBest_31 (by decide) ?_
    refine g_icmp_ge (tgt := 117) hC dX4_whereBest_33 (by decide) h (fun c33 h => ?_) (fun c33 h => ?_)
    · refine g_aload hC dX4_whereBest_117 4 rfl ?_
      refine g_iload hC dX4_whereBest_119 5 rfl ?_
      refine g_aaldC (cj := 1) hC hx4a hx4b dX4_whereBest_121 h hf (fun a1 ea1 ka1 na1 h => ?_)
      exact g_aret hC hR na1 dX4_whereBest_122 h
    · refine g_iload hC dX4_whereBest_36 6 rfl ?_
      refine g_iload_n hC dX4_whereBest_38 rfl 1 rfl ?_
      refine g_icmp_eq (tgt := 111) hC dX4_whereBest_39 (by decide) h (fun c39 h => ?_) (fun c39 h => ?_)
      · exact g_sub [0, 1, 2, 3, 4, 5, 6] rfl (k_X4_whereBest_111 hC hO hR hf t ht1 ht2 x1 x2 x3 x4 hx4a hx4b x5 x6 (f_X4_whereBest_29 t x1 x2 x3 x4 n) ih σ h)
      · refine g_aload_n hC dX4_whereBest_42 rfl 0 rfl ?_
        refine g_getR (cj := 9) (k := 0) hC cr4 ui_4 ht1 ht2 (by decide) fl_X4_36 rfl rfl dX4_whereBest_43 h hf (fun a2 ea2 ka2 na2 h => ?_)
        refine g_iload hC dX4_whereBest_46 6 rfl ?_
        obtain ⟨q3, hq3, h⟩ := bd_of h hf
        refine g_cVI (As := [.int x6]) hC hO (c_X9_isIn _ hC.2.2.2.2.2.2.1 a2 ka2 na2 x6 σ (nn_of hq3)) gc_X4_44 (xk_X9_isIn _ (Nat.le_of_ble_eq_true rfl) (Nat.le_of_ble_eq_true rfl)) cr9 ka2 na2 rfl (Nat.le_of_ble_eq_true rfl) dX4_whereBest_48 hq3 ?_
        refine g_if_eq (tgt := 111) hC dX4_whereBest_51 (by decide) h (fun c51 h => ?_) (fun c51 h => ?_)
        · exact g_sub [0, 1, 2, 3, 4, 5, 6] rfl (k_X4_whereBest_111 hC hO hR hf t ht1 ht2 x1 x2 x3 x4 hx4a hx4b x5 x6 (f_X4_whereBest_29 t x1 x2 x3 x4 n) ih q3.2 h)
        · refine g_aload hC dX4_whereBest_54 4 rfl ?_
          refine g_iload hC dX4_whereBest_56 5 rfl ?_
          refine g_aaldC (cj := 1) hC hx4a hx4b dX4_whereBest_58 h hf (fun a4 ea4 ka4 na4 h => ?_)
          refine g_getI (k := 5) hC cr1 ui_1 ka4 na4 (by decide) fl_X4_50 rfl rfl dX4_whereBest_59 ?_
          refine g_if_le (tgt := 111) hC dX4_whereBest_62 (by decide) h (fun c62 h => ?_) (fun c62 h => ?_)
          · exact g_sub [0, 1, 2, 3, 4, 5, 6] rfl (k_X4_whereBest_111 hC hO hR hf t ht1 ht2 x1 x2 x3 x4 hx4a hx4b x5 x6 (f_X4_whereBest_29 t x1 x2 x3 x4 n) ih q3.2 h)
          · refine g_aload_n hC dX4_whereBest_65 rfl 0 rfl ?_
            refine g_getR (cj := 9) (k := 0) hC cr4 ui_4 ht1 ht2 (by decide) fl_X4_36 rfl rfl dX4_whereBest_66 h hf (fun a5 ea5 ka5 na5 h => ?_)
            refine g_iload_n hC dX4_whereBest_69 rfl 1 rfl ?_
            refine g_iload hC dX4_whereBest_70 6 rfl ?_
            refine g_aload_n hC dX4_whereBest_72 rfl 0 rfl ?_
            refine g_getR (cj := 14) (k := 3) hC cr4 ui_4 ht1 ht2 (by decide) fl_X4_16 rfl rfl dX4_whereBest_73 h hf (fun a6 ea6 ka6 na6 h => ?_)
            obtain ⟨q7, hq7, h⟩ := bd_of h hf
            refine g_cVV (As := [.int x1, .int x6, .ref (E.2.2.1 a6)]) hC hO (c_X9_fillLead _ hC.2.2.2.2.2.2.1 a5 ka5 na5 x1 x6 a6 ka6 na6 q3.2 (nn_of hq7)) gc_X4_56 (xk_X9_fillLead _ (Nat.le_of_ble_eq_true rfl) (Nat.le_of_ble_eq_true rfl)) cr9 ka5 na5 rfl (Nat.le_of_ble_eq_true rfl) dX4_whereBest_76 hq7 ?_
            refine g_aload_n hC dX4_whereBest_79 rfl 0 rfl ?_
            refine g_getR (cj := 14) (k := 3) hC cr4 ui_4 ht1 ht2 (by decide) fl_X4_16 rfl rfl dX4_whereBest_80 h hf (fun a8 ea8 ka8 na8 h => ?_)
            refine g_iload_n hC dX4_whereBest_83 rfl 2 rfl ?_
            refine g_dup2_11 hC dX4_whereBest_84 rfl rfl ?_
            refine g_iald hC ka8 na8 dX4_whereBest_85 h hf (fun h => ?_)
            refine g_iload_n hC dX4_whereBest_86 rfl 3 rfl ?_
            refine g_iadd hC dX4_whereBest_87 ?_
            refine g_iast hC ka8 na8 dX4_whereBest_88 h hf (fun h => ?_)
            refine g_aload hC dX4_whereBest_89 4 rfl ?_
            refine g_iload hC dX4_whereBest_91 5 rfl ?_
            refine g_iconst (v := 1) hC dX4_whereBest_93 (by decide) ?_
            refine g_iadd hC dX4_whereBest_94 ?_
            refine g_aaldC (cj := 1) hC hx4a hx4b dX4_whereBest_95 h hf (fun a9 ea9 ka9 na9 h => ?_)
            refine g_aload hC dX4_whereBest_96 4 rfl ?_
            refine g_iload hC dX4_whereBest_98 5 rfl ?_
            refine g_aaldC (cj := 1) hC hx4a hx4b dX4_whereBest_100 h hf (fun a10 ea10 ka10 na10 h => ?_)
            refine g_aload_n hC dX4_whereBest_101 rfl 0 rfl ?_
            refine g_getR (cj := 14) (k := 3) hC cr4 ui_4 ht1 ht2 (by decide) fl_X4_16 rfl rfl dX4_whereBest_102 h hf (fun a11 ea11 ka11 na11 h => ?_)
            obtain ⟨q12, hq12, h⟩ := bd_of h hf
            refine g_cVV (As := [.ref (E.2.2.1 a10), .ref (E.2.2.1 a11)]) hC hO (c_X1_becomeCut _ hC.2.2.2.2.2.2.1 a9 ka9 na9 a10 ka10 na10 a11 ka11 na11 (sI q7 a8 x2.toNatClampNeg ((q7.1 a8 x2.toNatClampNeg) + x3)) (nn_of hq12)) gc_X4_131 (xk_X1_becomeCut _ (Nat.le_of_ble_eq_true rfl) (Nat.le_of_ble_eq_true rfl)) cr1 ka9 na9 rfl (Nat.le_of_ble_eq_true rfl) dX4_whereBest_105 hq12 ?_
            refine g_iinc (v := x5 + 1) (lv' := [(5, .int (x5 + 1)), (0, .ref (E.2.2.1 t)), (1, .int x1), (2, .int x2), (3, .int x3), (4, .ref (E.2.2.1 x4)), (6, .int x6)]) hC dX4_whereBest_108 5 rfl rfl (by decide) rfl ?_
            exact g_sub [1, 2, 3, 4, 5, 0, 6] rfl (k_X4_whereBest_111 hC hO hR hf t ht1 ht2 x1 x2 x3 x4 hx4a hx4b (x5 + 1) x6 (f_X4_whereBest_29 t x1 x2 x3 x4 n) ih q12 h)
set_option maxHeartbeats 4000000 in
set_option maxRecDepth 100000 in
theorem k_X4_whereBest_0 {E : ET} {F : FT} {fo : Option (Nat × HS)} (hC : Cx E F 7 cX4_whereBest RX4 GT) (hO : Ro F rm_X4_whereBest) (hR : RR E F fo) (hf : fo ≠ none) (t : Nat) (ht1 : kd t = 4) (ht2 : AL E t) (x1 : Int32) (x2 : Int32) (x3 : Int32) (σ : HS) (h : f_X4_whereBest t x1 x2 x3 σ = fo) : G E F 0 [(0, .ref (E.2.2.1 t)), (1, .int x1), (2, .int x2), (3, .int x3)] [] σ := by
    refine g_aload_n hC dX4_whereBest_0 rfl 0 rfl ?_
    refine g_getR (cj := 10) (k := 1) hC cr4 ui_4 ht1 ht2 (by decide) fl_X4_40 rfl rfl dX4_whereBest_1 h hf (fun a1 ea1 ka1 na1 h => ?_)
    refine g_getR (cj := 17) (k := 3) hC cr10 ui_10 ka1 na1 (by decide) fl_X4_124 rfl rfl dX4_whereBest_4 h hf (fun a2 ea2 ka2 na2 h => ?_)
    refine g_astore (lv' := [(4, .ref (E.2.2.1 a2)), (0, .ref (E.2.2.1 t)), (1, .int x1), (2, .int x2), (3, .int x3)]) hC dX4_whereBest_7 (by decide) rfl ?_
    refine g_aload hC dX4_whereBest_9 0 rfl ?_
    refine g_iconst (v := 0) hC dX4_whereBest_11 (by decide) ?_
    refine g_aaldC (cj := 1) hC ka2 na2 dX4_whereBest_12 h hf (fun a3 ea3 ka3 na3 h => ?_)
    refine g_aload_n hC dX4_whereBest_13 rfl 1 rfl ?_
    refine g_getR (cj := 10) (k := 1) hC cr4 ui_4 ht1 ht2 (by decide) fl_X4_40 rfl rfl dX4_whereBest_14 h hf (fun a4 ea4 ka4 na4 h => ?_)
    refine g_getR (cj := 1) (k := 2) hC cr10 ui_10 ka4 na4 (by decide) fl_X4_64 rfl rfl dX4_whereBest_17 h hf (fun a5 ea5 ka5 na5 h => ?_)
    obtain ⟨q6, hq6, h⟩ := bd_of h hf
    refine g_cVV (As := [.ref (E.2.2.1 a5)]) hC hO (c_X1_become _ hC.2.2.2.2.2.2.1 a3 ka3 na3 a5 ka5 na5 σ (nn_of hq6)) gc_X4_128 (xk_X1_become _ (Nat.le_of_ble_eq_true rfl) (Nat.le_of_ble_eq_true rfl)) cr1 ka3 na3 rfl (Nat.le_of_ble_eq_true rfl) dX4_whereBest_20 hq6 ?_
    refine g_iconst (v := 0) hC dX4_whereBest_23 (by decide) ?_
    refine g_istore (lv' := [(5, .int 0), (4, .ref (E.2.2.1 a2)), (0, .ref (E.2.2.1 t)), (1, .int x1), (2, .int x2), (3, .int x3)]) hC dX4_whereBest_24 (by decide) rfl ?_
    refine g_iconst (v := 0) hC dX4_whereBest_26 (by decide) ?_
    refine g_istore (lv' := [(6, .int 0), (5, .int 0), (4, .ref (E.2.2.1 a2)), (0, .ref (E.2.2.1 t)), (1, .int x1), (2, .int x2), (3, .int x3)]) hC dX4_whereBest_27 (by decide) rfl ?_
    exact g_sub [3, 4, 5, 6, 2, 1, 0] rfl (k_X4_whereBest_29 hC hO hR hf t ht1 ht2 x1 x2 x3 a2 ka2 na2 FU 0 0 q6 h)
theorem xk_X4_whereBest (R : Room) (h1 : 3 + 1 ≤ R.frames) (h2 : 164 ≤ R.locals) : xw R yX4_whereBest w_X4_whereBest GT cX4_whereBest 7 (some (.object "EveryMeasure$Cone")) rm_X4_whereBest 3 := ⟨rfl, rfl, rfl, h1, h2, ⟨by decide, by decide⟩, by decide +kernel⟩
theorem c_X4_whereBest (E : ET) (hE : EO E) (t : Nat) (ht1 : kd t = 4) (ht2 : AL E t) (x1 : Int32) (x2 : Int32) (x3 : Int32) (σ : HS) (hn : f_X4_whereBest t x1 x2 x3 σ ≠ none) : CoR E yX4_whereBest w_X4_whereBest rm_X4_whereBest [.ref (E.2.2.1 t), .int x1, .int x2, .int x3] σ (f_X4_whereBest t x1 x2 x3 σ) := CoR.of (lv := [(0, .ref (E.2.2.1 t)), (1, .int x1), (2, .int x2), (3, .int x3)]) (by first | exact Or.inl ⟨_, rfl⟩ | exact Or.inr ⟨_, rfl⟩) hE (plainFor_of_name (by decide)) rfl (Nat.le_of_ble_eq_true rfl) rfl (fun F hC hO hR => k_X4_whereBest_0 hC hO hR hn t ht1 ht2 x1 x2 x3 σ rfl)
def rm_X4_mayBeBest_ : Room := { frames := 4, cells := 0, slots := 0, locals := 164 }
theorem wc_X4_whereBest : Cond.code yX4_whereBest cX4_whereBest 7 (some (.object "EveryMeasure$Cone")) ∈ GT := gtr_41 _ (List.mem_of_getElem? (i := 6) rfl)
theorem gc_X4_120 : GoodIn GT (wsV RX4 120 RX4 yX4_whereBest w_X4_whereBest) := gi_V (gtr_41 _ (List.mem_of_getElem? (i := 3) rfl)) (gtr_41 _ (List.mem_of_getElem? (i := 4) rfl)) (gtr_41 _ (List.mem_of_getElem? (i := 5) rfl)) (gtr_2 _ (List.mem_of_getElem? (i := 8) rfl)) wc_X4_whereBest
set_option maxHeartbeats 4000000 in
set_option maxRecDepth 100000 in
theorem k_X4_mayBeBest__18 {E : ET} {F : FT} {fo : Option (Int32 × HS)} (hC : Cx E F 2 cX4_mayBeBest_ RX4 GT) (hO : Ro F rm_X4_mayBeBest_) (hR : RI E F .boolean fo) (hf : fo ≠ none) (s0 : Int32) (σ : HS) (h : f_X4_mayBeBest__18 s0 σ = fo) : G E F 18 [] [.int s0] σ := by
    obtain ⟨hz, h⟩ := zr_of h hf
    exact g_iret hC hR dX4_mayBeBest__18 hz h
set_option maxHeartbeats 4000000 in
set_option maxRecDepth 100000 in
theorem k_X4_mayBeBest__0 {E : ET} {F : FT} {fo : Option (Int32 × HS)} (hC : Cx E F 2 cX4_mayBeBest_ RX4 GT) (hO : Ro F rm_X4_mayBeBest_) (hR : RI E F .boolean fo) (hf : fo ≠ none) (t : Nat) (ht1 : kd t = 4) (ht2 : AL E t) (x1 : Int32) (σ : HS) (h : f_X4_mayBeBest_ t x1 σ = fo) : G E F 0 [(0, .ref (E.2.2.1 t)), (1, .int x1)] [] σ := by
    refine g_aload_n hC dX4_mayBeBest__0 rfl 0 rfl ?_
    refine g_iload_n hC dX4_mayBeBest__1 rfl 1 rfl ?_
    refine g_iconst (v := 0) hC dX4_mayBeBest__2 (by decide) ?_
    refine g_iconst (v := 0) hC dX4_mayBeBest__3 (by decide) ?_
    obtain ⟨q1, hq1, h⟩ := bd_of h hf
    refine g_cVR (As := [.int x1, .int 0, .int 0]) hC hO (c_X4_whereBest _ hC.2.2.2.2.2.2.1 t ht1 ht2 x1 0 0 σ (nn_of hq1)) gc_X4_120 (xk_X4_whereBest _ (Nat.le_of_ble_eq_true rfl) (Nat.le_of_ble_eq_true rfl)) cr4 ht1 ht2 rfl (Nat.le_of_ble_eq_true rfl) dX4_mayBeBest__4 hq1 (fun na2 => ?_)
    obtain ⟨a2, ea2, ka2, h⟩ := rk_of h hf
    rw [Option.some.inj ea2] at na2 ⊢
    refine g_getI (k := 5) hC cr1 ui_1 ka2 na2 (by decide) fl_X4_50 rfl rfl dX4_mayBeBest__7 ?_
    refine g_if_le (tgt := 17) hC dX4_mayBeBest__10 (by decide) h (fun c10 h => ?_) (fun c10 h => ?_)
    · refine g_iconst (v := 0) hC dX4_mayBeBest__17 (by decide) ?_
      exact g_sub [] rfl (k_X4_mayBeBest__18 hC hO hR hf 0 q1.2 h)
    · refine g_iconst (v := 1) hC dX4_mayBeBest__13 (by decide) ?_
      refine g_goto (tgt := 18) hC dX4_mayBeBest__14 (by decide) ?_
      exact g_sub [] rfl (k_X4_mayBeBest__18 hC hO hR hf 1 q1.2 h)
theorem xk_X4_mayBeBest_ (R : Room) (h1 : 4 + 1 ≤ R.frames) (h2 : 197 ≤ R.locals) : xw R yX4_mayBeBest_ w_X4_mayBeBest_ GT cX4_mayBeBest_ 2 (some .boolean) rm_X4_mayBeBest_ 1 := ⟨rfl, rfl, rfl, h1, h2, ⟨by decide, by decide⟩, by decide +kernel⟩
theorem c_X4_mayBeBest_ (E : ET) (hE : EO E) (t : Nat) (ht1 : kd t = 4) (ht2 : AL E t) (x1 : Int32) (σ : HS) (hn : f_X4_mayBeBest_ t x1 σ ≠ none) : CoI E yX4_mayBeBest_ w_X4_mayBeBest_ rm_X4_mayBeBest_ [.ref (E.2.2.1 t), .int x1] σ (f_X4_mayBeBest_ t x1 σ) := CoI.of (lv := [(0, .ref (E.2.2.1 t)), (1, .int x1)]) hE (plainFor_of_name (by decide)) rfl (Nat.le_of_ble_eq_true rfl) rfl (fun F hC hO hR => k_X4_mayBeBest__0 hC hO hR hn t ht1 ht2 x1 σ rfl)
def rm_X4_mayBeBest : Room := { frames := 5, cells := 0, slots := 0, locals := 197 }
theorem wc_X4_mayBeBest_ : Cond.code yX4_mayBeBest_ cX4_mayBeBest_ 2 (some .boolean) ∈ GT := gtr_41 _ (List.mem_of_getElem? (i := 2) rfl)
theorem gc_X4_117 : GoodIn GT (wsV RX4 117 RX4 yX4_mayBeBest_ w_X4_mayBeBest_) := gi_V (gtr_40 _ (List.mem_of_getElem? (i := 23) rfl)) (gtr_41 _ (List.mem_of_getElem? (i := 0) rfl)) (gtr_41 _ (List.mem_of_getElem? (i := 1) rfl)) (gtr_2 _ (List.mem_of_getElem? (i := 8) rfl)) wc_X4_mayBeBest_
set_option maxHeartbeats 4000000 in
set_option maxRecDepth 100000 in
theorem k_X4_mayBeBest_80 {E : ET} {F : FT} {fo : Option (Int32 × HS)} (hC : Cx E F 3 cX4_mayBeBest RX4 GT) (hO : Ro F rm_X4_mayBeBest) (hR : RI E F .int fo) (hf : fo ≠ none) (t : Nat) (ht1 : kd t = 4) (ht2 : AL E t) (x1 : Int32) (x2 : Int32) (r41 : Int32 → Int32 → HS → Option (Int32 × HS)) (h41 : ∀ (x1 : Int32) (x2 : Int32) (σ : HS), r41 x1 x2 σ = fo → G E F 41 [(0, .ref (E.2.2.1 t)), (1, .int x1), (2, .int x2)] [] σ) (σ : HS) (h : f_X4_mayBeBest_80 r41 t x1 x2 σ = fo) : G E F 80 [(0, .ref (E.2.2.1 t)), (1, .int x1), (2, .int x2)] [] σ := by
    refine g_iinc (v := x2 + 1) (lv' := [(2, .int (x2 + 1)), (0, .ref (E.2.2.1 t)), (1, .int x1)]) hC dX4_mayBeBest_80 2 rfl rfl (by decide) rfl ?_
    refine g_goto (tgt := 41) hC dX4_mayBeBest_83 (by decide) ?_
    exact g_sub [1, 2, 0] rfl (h41 x1 (x2 + 1) σ h)
set_option maxHeartbeats 4000000 in
set_option maxRecDepth 100000 in
theorem k_X4_mayBeBest_41 {E : ET} {F : FT} {fo : Option (Int32 × HS)} (hC : Cx E F 3 cX4_mayBeBest RX4 GT) (hO : Ro F rm_X4_mayBeBest) (hR : RI E F .int fo) (hf : fo ≠ none) (t : Nat) (ht1 : kd t = 4) (ht2 : AL E t) : ∀ (n : Nat) (x1 : Int32) (x2 : Int32) (σ : HS), f_X4_mayBeBest_41 t n x1 x2 σ = fo → G E F 41 [(0, .ref (E.2.2.1 t)), (1, .int x1), (2, .int x2)] [] σ := by
  intro n
  induction n with
  | zero =>
    intro x1 x2 σ h
    exact absurd (h.symm.trans rfl) hf
  | succ n ih =>
    intro x1 x2 σ h
    refine g_iload_n hC dX4_mayBeBest_41 rfl 2 rfl ?_
    refine g_bipush (v := 8) hC dX4_mayBeBest_42 (by decide) ?_
    refine g_icmp_ge (tgt := 86) hC dX4_mayBeBest_44 (by decide) h (fun c44 h => ?_) (fun c44 h => ?_)
    · refine g_iload_n hC dX4_mayBeBest_86 rfl 1 rfl ?_
      exact g_iret hC hR dX4_mayBeBest_87 rfl h
    · refine g_aload_n hC dX4_mayBeBest_47 rfl 0 rfl ?_
      refine g_getR (cj := 9) (k := 0) hC cr4 ui_4 ht1 ht2 (by decide) fl_X4_36 rfl rfl dX4_mayBeBest_48 h hf (fun a1 ea1 ka1 na1 h => ?_)
      refine g_iload_n hC dX4_mayBeBest_51 rfl 2 rfl ?_
      obtain ⟨q2, hq2, h⟩ := bd_of h hf
      refine g_cVI (As := [.int x2]) hC hO (c_X9_isIn _ hC.2.2.2.2.2.2.1 a1 ka1 na1 x2 σ (nn_of hq2)) gc_X4_44 (xk_X9_isIn _ (Nat.le_of_ble_eq_true rfl) (Nat.le_of_ble_eq_true rfl)) cr9 ka1 na1 rfl (Nat.le_of_ble_eq_true rfl) dX4_mayBeBest_52 hq2 ?_
      refine g_if_eq (tgt := 80) hC dX4_mayBeBest_55 (by decide) h (fun c55 h => ?_) (fun c55 h => ?_)
      · exact g_sub [0, 1, 2] rfl (k_X4_mayBeBest_80 hC hO hR hf t ht1 ht2 x1 x2 (f_X4_mayBeBest_41 t n) ih q2.2 h)
      · refine g_iload_n hC dX4_mayBeBest_58 rfl 1 rfl ?_
        refine g_iconst (v := 1) hC dX4_mayBeBest_59 (by decide) ?_
        refine g_iload_n hC dX4_mayBeBest_60 rfl 2 rfl ?_
        refine g_ishl hC dX4_mayBeBest_61 ?_
        refine g_iand hC dX4_mayBeBest_62 ?_
        refine g_if_ne (tgt := 80) hC dX4_mayBeBest_63 (by decide) h (fun c63 h => ?_) (fun c63 h => ?_)
        · exact g_sub [0, 1, 2] rfl (k_X4_mayBeBest_80 hC hO hR hf t ht1 ht2 x1 x2 (f_X4_mayBeBest_41 t n) ih q2.2 h)
        · refine g_aload_n hC dX4_mayBeBest_66 rfl 0 rfl ?_
          refine g_iload_n hC dX4_mayBeBest_67 rfl 2 rfl ?_
          obtain ⟨q3, hq3, h⟩ := bd_of h hf
          refine g_cVI (As := [.int x2]) hC hO (c_X4_mayBeBest_ _ hC.2.2.2.2.2.2.1 t ht1 ht2 x2 q2.2 (nn_of hq3)) gc_X4_117 (xk_X4_mayBeBest_ _ (Nat.le_of_ble_eq_true rfl) (Nat.le_of_ble_eq_true rfl)) cr4 ht1 ht2 rfl (Nat.le_of_ble_eq_true rfl) dX4_mayBeBest_68 hq3 ?_
          refine g_if_eq (tgt := 80) hC dX4_mayBeBest_71 (by decide) h (fun c71 h => ?_) (fun c71 h => ?_)
          · exact g_sub [0, 1, 2] rfl (k_X4_mayBeBest_80 hC hO hR hf t ht1 ht2 x1 x2 (f_X4_mayBeBest_41 t n) ih q3.2 h)
          · refine g_iload_n hC dX4_mayBeBest_74 rfl 1 rfl ?_
            refine g_iconst (v := 1) hC dX4_mayBeBest_75 (by decide) ?_
            refine g_iload_n hC dX4_mayBeBest_76 rfl 2 rfl ?_
            refine g_ishl hC dX4_mayBeBest_77 ?_
            refine g_ior hC dX4_mayBeBest_78 ?_
            refine g_istore_n (lv' := [(1, .int (x1 ||| ((1 : Int32) <<< (x2 &&& 31)))), (0, .ref (E.2.2.1 t)), (2, .int x2)]) hC dX4_mayBeBest_79 rfl (by decide) rfl ?_
            exact g_sub [1, 0, 2] rfl (k_X4_mayBeBest_80 hC hO hR hf t ht1 ht2 (x1 ||| ((1 : Int32) <<< (x2 &&& 31))) x2 (f_X4_mayBeBest_41 t n) ih q3.2 h)
set_option maxHeartbeats 4000000 in
set_option maxRecDepth 100000 in
theorem k_X4_mayBeBest_4 {E : ET} {F : FT} {fo : Option (Int32 × HS)} (hC : Cx E F 3 cX4_mayBeBest RX4 GT) (hO : Ro F rm_X4_mayBeBest) (hR : RI E F .int fo) (hf : fo ≠ none) (t : Nat) (ht1 : kd t = 4) (ht2 : AL E t) : ∀ (n : Nat) (x1 : Int32) (x2 : Int32) (σ : HS), f_X4_mayBeBest_4 t n x1 x2 σ = fo → G E F 4 [(0, .ref (E.2.2.1 t)), (1, .int x1), (2, .int x2)] [] σ := by
  intro n
  induction n with
  | zero =>
    intro x1 x2 σ h
    exact absurd (h.symm.trans rfl) hf
  | succ n ih =>
    intro x1 x2 σ h
    refine g_iload_n hC dX4_mayBeBest_4 rfl 2 rfl ?_
    refine g_aload_n hC dX4_mayBeBest_5 rfl 0 rfl ?_
    refine g_getR (cj := 10) (k := 1) hC cr4 ui_4 ht1 ht2 (by decide) fl_X4_40 rfl rfl dX4_mayBeBest_6 h hf (fun a1 ea1 ka1 na1 h => ?_)
    refine g_getR (cj := 1) (k := 2) hC cr10 ui_10 ka1 na1 (by decide) fl_X4_64 rfl rfl dX4_mayBeBest_9 h hf (fun a2 ea2 ka2 na2 h => ?_)
    refine g_getI (k := 5) hC cr1 ui_1 ka2 na2 (by decide) fl_X4_50 rfl rfl dX4_mayBeBest_12 ?_
    refine g_icmp_ge (tgt := 39) hC dX4_mayBeBest_15 (by decide) h (fun c15 h => ?_) (fun c15 h => ?_)
    · refine g_iconst (v := 0) hC dX4_mayBeBest_39 (by decide) ?_
      refine g_istore_n (lv' := [(2, .int 0), (0, .ref (E.2.2.1 t)), (1, .int x1)]) hC dX4_mayBeBest_40 rfl (by decide) rfl ?_
      exact g_sub [1, 2, 0] rfl (k_X4_mayBeBest_41 hC hO hR hf t ht1 ht2 FU x1 0 σ h)
    · refine g_iload_n hC dX4_mayBeBest_18 rfl 1 rfl ?_
      refine g_aload_n hC dX4_mayBeBest_19 rfl 0 rfl ?_
      refine g_aload_n hC dX4_mayBeBest_20 rfl 0 rfl ?_
      refine g_getR (cj := 10) (k := 1) hC cr4 ui_4 ht1 ht2 (by decide) fl_X4_40 rfl rfl dX4_mayBeBest_21 h hf (fun a3 ea3 ka3 na3 h => ?_)
      refine g_getR (cj := 1) (k := 2) hC cr10 ui_10 ka3 na3 (by decide) fl_X4_64 rfl rfl dX4_mayBeBest_24 h hf (fun a4 ea4 ka4 na4 h => ?_)
      refine g_iload_n hC dX4_mayBeBest_27 rfl 2 rfl ?_
      obtain ⟨q5, hq5, h⟩ := bd_of h hf
      refine g_cVI (As := [.ref (E.2.2.1 a4), .int x2]) hC hO (c_X4_bestByCorner _ hC.2.2.2.2.2.2.1 t ht1 ht2 a4 ka4 na4 x2 σ (nn_of hq5)) gc_X4_113 (xk_X4_bestByCorner _ (Nat.le_of_ble_eq_true rfl) (Nat.le_of_ble_eq_true rfl)) cr4 ht1 ht2 rfl (Nat.le_of_ble_eq_true rfl) dX4_mayBeBest_28 hq5 ?_
      refine g_ior hC dX4_mayBeBest_31 ?_
      refine g_istore_n (lv' := [(1, .int (x1 ||| q5.1)), (0, .ref (E.2.2.1 t)), (2, .int x2)]) hC dX4_mayBeBest_32 rfl (by decide) rfl ?_
      refine g_iinc (v := x2 + 1) (lv' := [(2, .int (x2 + 1)), (1, .int (x1 ||| q5.1)), (0, .ref (E.2.2.1 t))]) hC dX4_mayBeBest_33 2 rfl rfl (by decide) rfl ?_
      refine g_goto (tgt := 4) hC dX4_mayBeBest_36 (by decide) ?_
      exact g_sub [2, 1, 0] rfl (ih (x1 ||| q5.1) (x2 + 1) q5.2 h)
set_option maxHeartbeats 4000000 in
set_option maxRecDepth 100000 in
theorem k_X4_mayBeBest_0 {E : ET} {F : FT} {fo : Option (Int32 × HS)} (hC : Cx E F 3 cX4_mayBeBest RX4 GT) (hO : Ro F rm_X4_mayBeBest) (hR : RI E F .int fo) (hf : fo ≠ none) (t : Nat) (ht1 : kd t = 4) (ht2 : AL E t) (σ : HS) (h : f_X4_mayBeBest t σ = fo) : G E F 0 [(0, .ref (E.2.2.1 t))] [] σ := by
    refine g_iconst (v := 0) hC dX4_mayBeBest_0 (by decide) ?_
    refine g_istore_n (lv' := [(1, .int 0), (0, .ref (E.2.2.1 t))]) hC dX4_mayBeBest_1 rfl (by decide) rfl ?_
    refine g_iconst (v := 0) hC dX4_mayBeBest_2 (by decide) ?_
    refine g_istore_n (lv' := [(2, .int 0), (1, .int 0), (0, .ref (E.2.2.1 t))]) hC dX4_mayBeBest_3 rfl (by decide) rfl ?_
    exact g_sub [2, 1, 0] rfl (k_X4_mayBeBest_4 hC hO hR hf t ht1 ht2 FU 0 0 σ h)
theorem xk_X4_mayBeBest (R : Room) (h1 : 5 + 1 ≤ R.frames) (h2 : 231 ≤ R.locals) : xw R yX4_mayBeBest w_X4_mayBeBest GT cX4_mayBeBest 3 (some .int) rm_X4_mayBeBest 0 := ⟨rfl, rfl, rfl, h1, h2, ⟨by decide, by decide⟩, by decide +kernel⟩
theorem c_X4_mayBeBest (E : ET) (hE : EO E) (t : Nat) (ht1 : kd t = 4) (ht2 : AL E t) (σ : HS) (hn : f_X4_mayBeBest t σ ≠ none) : CoI E yX4_mayBeBest w_X4_mayBeBest rm_X4_mayBeBest [.ref (E.2.2.1 t)] σ (f_X4_mayBeBest t σ) := CoI.of (lv := [(0, .ref (E.2.2.1 t))]) hE (plainFor_of_name (by decide)) rfl (Nat.le_of_ble_eq_true rfl) rfl (fun F hC hO hR => k_X4_mayBeBest_0 hC hO hR hn t ht1 ht2 σ rfl)
def rm_X4_leadsOf : Room := { frames := 1, cells := 0, slots := 0, locals := 36 }
theorem fl_X4_11 : Cond.fieldLink RX4 11 "EveryMeasure$Judge" (TX4 2).2.1 (TX4 2).2.2.1 ∈ GT := gtr_5 _ (List.mem_of_getElem? (i := 16) rfl)
set_option maxHeartbeats 4000000 in
set_option maxRecDepth 100000 in
theorem k_X4_leadsOf_2 {E : ET} {F : FT} {fo : Option (Nat × HS)} (hC : Cx E F 3 cX4_leadsOf RX4 GT) (hO : Ro F rm_X4_leadsOf) (hR : RR E F fo) (hf : fo ≠ none) (t : Nat) (ht1 : kd t = 4) (ht2 : AL E t) (x1 : Int32) : ∀ (n : Nat) (x2 : Int32) (σ : HS), f_X4_leadsOf_2 t x1 n x2 σ = fo → G E F 2 [(0, .ref (E.2.2.1 t)), (1, .int x1), (2, .int x2)] [] σ := by
  intro n
  induction n with
  | zero =>
    intro x2 σ h
    exact absurd (h.symm.trans rfl) hf
  | succ n ih =>
    intro x2 σ h
    refine g_iload_n hC dX4_leadsOf_2 rfl 2 rfl ?_
    refine g_bipush (v := 8) hC dX4_leadsOf_3 (by decide) ?_
    refine g_icmp_ge (tgt := 29) hC dX4_leadsOf_5 (by decide) h (fun c5 h => ?_) (fun c5 h => ?_)
    · refine g_aload_n hC dX4_leadsOf_29 rfl 0 rfl ?_
      refine g_getR (cj := 18) (k := 2) hC cr4 ui_4 ht1 ht2 (by decide) fl_X4_11 rfl rfl dX4_leadsOf_30 h hf (fun a1 ea1 ka1 na1 h => ?_)
      exact g_aret hC hR na1 dX4_leadsOf_33 h
    · refine g_aload_n hC dX4_leadsOf_8 rfl 0 rfl ?_
      refine g_getR (cj := 9) (k := 0) hC cr4 ui_4 ht1 ht2 (by decide) fl_X4_36 rfl rfl dX4_leadsOf_9 h hf (fun a2 ea2 ka2 na2 h => ?_)
      refine g_iload_n hC dX4_leadsOf_12 rfl 1 rfl ?_
      refine g_iload_n hC dX4_leadsOf_13 rfl 2 rfl ?_
      refine g_aload_n hC dX4_leadsOf_14 rfl 0 rfl ?_
      refine g_getR (cj := 18) (k := 2) hC cr4 ui_4 ht1 ht2 (by decide) fl_X4_11 rfl rfl dX4_leadsOf_15 h hf (fun a3 ea3 ka3 na3 h => ?_)
      refine g_iload_n hC dX4_leadsOf_18 rfl 2 rfl ?_
      refine g_aaldI (cj := 14) hC ka3 na3 dX4_leadsOf_19 h hf (fun a4 ea4 ka4 na4 h => ?_)
      obtain ⟨q5, hq5, h⟩ := bd_of h hf
      refine g_cVV (As := [.int x1, .int x2, .ref (E.2.2.1 a4)]) hC hO (c_X9_fillLead _ hC.2.2.2.2.2.2.1 a2 ka2 na2 x1 x2 a4 ka4 na4 σ (nn_of hq5)) gc_X4_56 (xk_X9_fillLead _ (Nat.le_of_ble_eq_true rfl) (Nat.le_of_ble_eq_true rfl)) cr9 ka2 na2 rfl (Nat.le_of_ble_eq_true rfl) dX4_leadsOf_20 hq5 ?_
      refine g_iinc (v := x2 + 1) (lv' := [(2, .int (x2 + 1)), (0, .ref (E.2.2.1 t)), (1, .int x1)]) hC dX4_leadsOf_23 2 rfl rfl (by decide) rfl ?_
      refine g_goto (tgt := 2) hC dX4_leadsOf_26 (by decide) ?_
      exact g_sub [1, 2, 0] rfl (ih (x2 + 1) q5 h)
set_option maxHeartbeats 4000000 in
set_option maxRecDepth 100000 in
theorem k_X4_leadsOf_0 {E : ET} {F : FT} {fo : Option (Nat × HS)} (hC : Cx E F 3 cX4_leadsOf RX4 GT) (hO : Ro F rm_X4_leadsOf) (hR : RR E F fo) (hf : fo ≠ none) (t : Nat) (ht1 : kd t = 4) (ht2 : AL E t) (x1 : Int32) (σ : HS) (h : f_X4_leadsOf t x1 σ = fo) : G E F 0 [(0, .ref (E.2.2.1 t)), (1, .int x1)] [] σ := by
    refine g_iconst (v := 0) hC dX4_leadsOf_0 (by decide) ?_
    refine g_istore_n (lv' := [(2, .int 0), (0, .ref (E.2.2.1 t)), (1, .int x1)]) hC dX4_leadsOf_1 rfl (by decide) rfl ?_
    exact g_sub [1, 2, 0] rfl (k_X4_leadsOf_2 hC hO hR hf t ht1 ht2 x1 FU 0 σ h)
theorem xk_X4_leadsOf (R : Room) (h1 : 1 + 1 ≤ R.frames) (h2 : 70 ≤ R.locals) : xw R yX4_leadsOf w_X4_leadsOf GT cX4_leadsOf 3 (some (.array (.array .int))) rm_X4_leadsOf 1 := ⟨rfl, rfl, rfl, h1, h2, ⟨by decide, by decide⟩, by decide +kernel⟩
theorem c_X4_leadsOf (E : ET) (hE : EO E) (t : Nat) (ht1 : kd t = 4) (ht2 : AL E t) (x1 : Int32) (σ : HS) (hn : f_X4_leadsOf t x1 σ ≠ none) : CoR E yX4_leadsOf w_X4_leadsOf rm_X4_leadsOf [.ref (E.2.2.1 t), .int x1] σ (f_X4_leadsOf t x1 σ) := CoR.of (lv := [(0, .ref (E.2.2.1 t)), (1, .int x1)]) (by first | exact Or.inl ⟨_, rfl⟩ | exact Or.inr ⟨_, rfl⟩) hE (plainFor_of_name (by decide)) rfl (Nat.le_of_ble_eq_true rfl) rfl (fun F hC hO hR => k_X4_leadsOf_0 hC hO hR hn t ht1 ht2 x1 σ rfl)
def rm_X4_markBehind : Room := { frames := 0, cells := 0, slots := 0, locals := 0 }
theorem fl_X4_30 : Cond.fieldLink RX4 30 "EveryMeasure$Judge" (TX4 7).2.1 (TX4 7).2.2.1 ∈ GT := gtr_5 _ (List.mem_of_getElem? (i := 21) rfl)
set_option maxHeartbeats 4000000 in
set_option maxRecDepth 100000 in
theorem k_X4_markBehind_47 {E : ET} {F : FT} {fo : Option HS} (hC : Cx E F 4 cX4_markBehind RX4 GT) (hO : Ro F rm_X4_markBehind) (hR : RV E F fo) (hf : fo ≠ none) (t : Nat) (ht1 : kd t = 4) (ht2 : AL E t) (x1 : Int32) (x2 : Int32) (x3 : Int32) (r2 : Int32 → HS → Option HS) (h2 : ∀ (x2 : Int32) (σ : HS), r2 x2 σ = fo → G E F 2 [(0, .ref (E.2.2.1 t)), (1, .int x1), (2, .int x2)] [] σ) (r10 : Int32 → HS → Option HS) (h10 : ∀ (x3 : Int32) (σ : HS), r10 x3 σ = fo → G E F 10 [(0, .ref (E.2.2.1 t)), (1, .int x1), (2, .int x2), (3, .int x3)] [] σ) (σ : HS) (h : f_X4_markBehind_47 r2 r10 t x1 x2 x3 σ = fo) : G E F 47 [(0, .ref (E.2.2.1 t)), (1, .int x1), (2, .int x2), (3, .int x3)] [] σ := by
    refine g_iinc (v := x3 + 1) (lv' := [(3, .int (x3 + 1)), (0, .ref (E.2.2.1 t)), (1, .int x1), (2, .int x2)]) hC dX4_markBehind_47 3 rfl rfl (by decide) rfl ?_
    refine g_goto (tgt := 10) hC dX4_markBehind_50 (by decide) ?_
    exact g_sub [1, 2, 3, 0] rfl (h10 (x3 + 1) σ h)
set_option maxHeartbeats 4000000 in
set_option maxRecDepth 100000 in
theorem k_X4_markBehind_10 {E : ET} {F : FT} {fo : Option HS} (hC : Cx E F 4 cX4_markBehind RX4 GT) (hO : Ro F rm_X4_markBehind) (hR : RV E F fo) (hf : fo ≠ none) (t : Nat) (ht1 : kd t = 4) (ht2 : AL E t) (x1 : Int32) (x2 : Int32) (r2 : Int32 → HS → Option HS) (h2 : ∀ (x2 : Int32) (σ : HS), r2 x2 σ = fo → G E F 2 [(0, .ref (E.2.2.1 t)), (1, .int x1), (2, .int x2)] [] σ) : ∀ (n : Nat) (x3 : Int32) (σ : HS), f_X4_markBehind_10 t x1 x2 r2 n x3 σ = fo → G E F 10 [(0, .ref (E.2.2.1 t)), (1, .int x1), (2, .int x2), (3, .int x3)] [] σ := by
  intro n
  induction n with
  | zero =>
    intro x3 σ h
    exact absurd (h.symm.trans rfl) hf
  | succ n ih =>
    intro x3 σ h
    refine g_iload_n hC dX4_markBehind_10 rfl 3 rfl ?_
    refine g_bipush (v := 8) hC dX4_markBehind_11 (by decide) ?_
    refine g_icmp_ge (tgt := 53) hC dX4_markBehind_13 (by decide) h (fun c13 h => ?_) (fun c13 h => ?_)
    · refine g_iinc (v := x2 + 1) (lv' := [(2, .int (x2 + 1)), (0, .ref (E.2.2.1 t)), (1, .int x1), (3, .int x3)]) hC dX4_markBehind_53 2 rfl rfl (by decide) rfl ?_
      refine g_goto (tgt := 2) hC dX4_markBehind_56 (by decide) ?_
      exact g_sub [1, 2, 0] rfl (h2 (x2 + 1) σ h)
    · refine g_aload_n hC dX4_markBehind_16 rfl 0 rfl ?_
      refine g_getR (cj := 15) (k := 5) hC cr4 ui_4 ht1 ht2 (by decide) fl_X4_23 rfl rfl dX4_markBehind_17 h hf (fun a1 ea1 ka1 na1 h => ?_)
      refine g_iload_n hC dX4_markBehind_20 rfl 2 rfl ?_
      refine g_lald hC ka1 na1 dX4_markBehind_21 h hf (fun h => ?_)
      refine g_aload_n hC dX4_markBehind_22 rfl 0 rfl ?_
      refine g_getR (cj := 15) (k := 5) hC cr4 ui_4 ht1 ht2 (by decide) fl_X4_23 rfl rfl dX4_markBehind_23 h hf (fun a2 ea2 ka2 na2 h => ?_)
      refine g_iload_n hC dX4_markBehind_26 rfl 3 rfl ?_
      refine g_lald hC ka2 na2 dX4_markBehind_27 h hf (fun h => ?_)
      refine g_lc_lt (tgt := 47) hC dX4_markBehind_28 dX4_markBehind_29 (by decide) h (fun c28 h => ?_) (fun c28 h => ?_)
      · exact g_sub [0, 1, 2, 3] rfl (k_X4_markBehind_47 hC hO hR hf t ht1 ht2 x1 x2 x3 r2 h2 (f_X4_markBehind_10 t x1 x2 r2 n) ih σ h)
      · refine g_aload_n hC dX4_markBehind_32 rfl 0 rfl ?_
        refine g_getR (cj := 14) (k := 7) hC cr4 ui_4 ht1 ht2 (by decide) fl_X4_30 rfl rfl dX4_markBehind_33 h hf (fun a3 ea3 ka3 na3 h => ?_)
        refine g_iload_n hC dX4_markBehind_36 rfl 2 rfl ?_
        refine g_bipush (v := 8) hC dX4_markBehind_37 (by decide) ?_
        refine g_imul hC dX4_markBehind_39 ?_
        refine g_iload_n hC dX4_markBehind_40 rfl 3 rfl ?_
        refine g_iadd hC dX4_markBehind_41 ?_
        refine g_dup2_11 hC dX4_markBehind_42 rfl rfl ?_
        refine g_iald hC ka3 na3 dX4_markBehind_43 h hf (fun h => ?_)
        refine g_iload_n hC dX4_markBehind_44 rfl 1 rfl ?_
        refine g_ior hC dX4_markBehind_45 ?_
        refine g_iast hC ka3 na3 dX4_markBehind_46 h hf (fun h => ?_)
        exact g_sub [0, 1, 2, 3] rfl (k_X4_markBehind_47 hC hO hR hf t ht1 ht2 x1 x2 x3 r2 h2 (f_X4_markBehind_10 t x1 x2 r2 n) ih (sI σ a3 ((x2 * 8) + x3).toNatClampNeg ((σ.1 a3 ((x2 * 8) + x3).toNatClampNeg) ||| x1)) h)
set_option maxHeartbeats 4000000 in
set_option maxRecDepth 100000 in
theorem k_X4_markBehind_2 {E : ET} {F : FT} {fo : Option HS} (hC : Cx E F 4 cX4_markBehind RX4 GT) (hO : Ro F rm_X4_markBehind) (hR : RV E F fo) (hf : fo ≠ none) (t : Nat) (ht1 : kd t = 4) (ht2 : AL E t) (x1 : Int32) : ∀ (n : Nat) (x2 : Int32) (σ : HS), f_X4_markBehind_2 t x1 n x2 σ = fo → G E F 2 [(0, .ref (E.2.2.1 t)), (1, .int x1), (2, .int x2)] [] σ := by
  intro n
  induction n with
  | zero =>
    intro x2 σ h
    exact absurd (h.symm.trans rfl) hf
  | succ n ih =>
    intro x2 σ h
    refine g_iload_n hC dX4_markBehind_2 rfl 2 rfl ?_
    refine g_bipush (v := 8) hC dX4_markBehind_3 (by decide) ?_
    refine g_icmp_ge (tgt := 59) hC dX4_markBehind_5 (by decide) h (fun c5 h => ?_) (fun c5 h => ?_)
    · exact g_vret hC hR dX4_markBehind_59 h
    · refine g_iconst (v := 0) hC dX4_markBehind_8 (by decide) ?_
      refine g_istore_n (lv' := [(3, .int 0), (0, .ref (E.2.2.1 t)), (1, .int x1), (2, .int x2)]) hC dX4_markBehind_9 rfl (by decide) rfl ?_
      exact g_sub [1, 2, 3, 0] rfl (k_X4_markBehind_10 hC hO hR hf t ht1 ht2 x1 x2 (f_X4_markBehind_2 t x1 n) ih FU 0 σ h)
set_option maxHeartbeats 4000000 in
set_option maxRecDepth 100000 in
theorem k_X4_markBehind_0 {E : ET} {F : FT} {fo : Option HS} (hC : Cx E F 4 cX4_markBehind RX4 GT) (hO : Ro F rm_X4_markBehind) (hR : RV E F fo) (hf : fo ≠ none) (t : Nat) (ht1 : kd t = 4) (ht2 : AL E t) (x1 : Int32) (σ : HS) (h : f_X4_markBehind t x1 σ = fo) : G E F 0 [(0, .ref (E.2.2.1 t)), (1, .int x1)] [] σ := by
    refine g_iconst (v := 0) hC dX4_markBehind_0 (by decide) ?_
    refine g_istore_n (lv' := [(2, .int 0), (0, .ref (E.2.2.1 t)), (1, .int x1)]) hC dX4_markBehind_1 rfl (by decide) rfl ?_
    exact g_sub [1, 2, 0] rfl (k_X4_markBehind_2 hC hO hR hf t ht1 ht2 x1 FU 0 σ h)
theorem xk_X4_markBehind (R : Room) (h1 : 0 + 1 ≤ R.frames) (h2 : 35 ≤ R.locals) : xw R yX4_markBehind w_X4_markBehind GT cX4_markBehind 4 none rm_X4_markBehind 1 := ⟨rfl, rfl, rfl, h1, h2, ⟨by decide, by decide⟩, by decide +kernel⟩
theorem c_X4_markBehind (E : ET) (hE : EO E) (t : Nat) (ht1 : kd t = 4) (ht2 : AL E t) (x1 : Int32) (σ : HS) (hn : f_X4_markBehind t x1 σ ≠ none) : CoV E yX4_markBehind w_X4_markBehind rm_X4_markBehind [.ref (E.2.2.1 t), .int x1] σ (f_X4_markBehind t x1 σ) := CoV.of (lv := [(0, .ref (E.2.2.1 t)), (1, .int x1)]) hE (plainFor_of_name (by decide)) rfl (Nat.le_of_ble_eq_true rfl) rfl (fun F hC hO hR => k_X4_markBehind_0 hC hO hR hn t ht1 ht2 x1 σ rfl)
def rm_X4_fillBehind : Room := { frames := 4, cells := 0, slots := 0, locals := 164 }
theorem wc_X4_markBehind : Cond.code yX4_markBehind cX4_markBehind 4 none ∈ GT := gtr_46 _ (List.mem_of_getElem? (i := 2) rfl)
theorem gc_X4_153 : GoodIn GT (wsV RX4 153 RX4 yX4_markBehind w_X4_markBehind) := gi_V (gtr_45 _ (List.mem_of_getElem? (i := 23) rfl)) (gtr_46 _ (List.mem_of_getElem? (i := 0) rfl)) (gtr_46 _ (List.mem_of_getElem? (i := 1) rfl)) (gtr_2 _ (List.mem_of_getElem? (i := 8) rfl)) wc_X4_markBehind
set_option maxHeartbeats 4000000 in
set_option maxRecDepth 100000 in
theorem k_X4_fillBehind_80 {E : ET} {F : FT} {fo : Option HS} (hC : Cx E F 4 cX4_fillBehind RX4 GT) (hO : Ro F rm_X4_fillBehind) (hR : RV E F fo) (hf : fo ≠ none) (t : Nat) (ht1 : kd t = 4) (ht2 : AL E t) (x1 : Int32) (r26 : Int32 → HS → Option HS) (h26 : ∀ (x1 : Int32) (σ : HS), r26 x1 σ = fo → G E F 26 [(0, .ref (E.2.2.1 t)), (1, .int x1)] [] σ) (σ : HS) (h : f_X4_fillBehind_80 r26 t x1 σ = fo) : G E F 80 [(0, .ref (E.2.2.1 t)), (1, .int x1)] [] σ := by
    refine g_iinc (v := x1 + 1) (lv' := [(1, .int (x1 + 1)), (0, .ref (E.2.2.1 t))]) hC dX4_fillBehind_80 1 rfl rfl (by decide) rfl ?_
    refine g_goto (tgt := 26) hC dX4_fillBehind_83 (by decide) ?_
    exact g_sub [1, 0] rfl (h26 (x1 + 1) σ h)
set_option maxHeartbeats 4000000 in
set_option maxRecDepth 100000 in
theorem k_X4_fillBehind_53 {E : ET} {F : FT} {fo : Option HS} (hC : Cx E F 4 cX4_fillBehind RX4 GT) (hO : Ro F rm_X4_fillBehind) (hR : RV E F fo) (hf : fo ≠ none) (t : Nat) (ht1 : kd t = 4) (ht2 : AL E t) (x1 : Int32) (x2 : Nat) (hx2a : kd x2 = 1) (hx2b : AL E x2) (r26 : Int32 → HS → Option HS) (h26 : ∀ (x1 : Int32) (σ : HS), r26 x1 σ = fo → G E F 26 [(0, .ref (E.2.2.1 t)), (1, .int x1)] [] σ) : ∀ (n : Nat) (x3 : Int32) (σ : HS), f_X4_fillBehind_53 t x1 x2 r26 n x3 σ = fo → G E F 53 [(0, .ref (E.2.2.1 t)), (1, .int x1), (2, .ref (E.2.2.1 x2)), (3, .int x3)] [] σ := by
  intro n
  induction n with
  | zero =>
    intro x3 σ h
    exact absurd (h.symm.trans rfl) hf
  | succ n ih =>
    intro x3 σ h
    refine g_iload_n hC dX4_fillBehind_53 rfl 3 rfl ?_
    refine g_aload_n hC dX4_fillBehind_54 rfl 2 rfl ?_
    refine g_getI (k := 5) hC cr1 ui_1 hx2a hx2b (by decide) fl_X4_50 rfl rfl dX4_fillBehind_55 ?_
    refine g_icmp_ge (tgt := 80) hC dX4_fillBehind_58 (by decide) h (fun c58 h => ?_) (fun c58 h => ?_)
    · exact g_sub [0, 1] rfl (k_X4_fillBehind_80 hC hO hR hf t ht1 ht2 x1 r26 h26 σ h)
    · refine g_aload_n hC dX4_fillBehind_61 rfl 0 rfl ?_
      refine g_aload_n hC dX4_fillBehind_62 rfl 2 rfl ?_
      refine g_iload_n hC dX4_fillBehind_63 rfl 3 rfl ?_
      obtain ⟨q1, hq1, h⟩ := bd_of h hf
      refine g_cVV (As := [.ref (E.2.2.1 x2), .int x3]) hC hO (c_X4_fillGoods _ hC.2.2.2.2.2.2.1 t ht1 ht2 x2 hx2a hx2b x3 σ (nn_of hq1)) gc_X4_102 (xk_X4_fillGoods _ (Nat.le_of_ble_eq_true rfl) (Nat.le_of_ble_eq_true rfl)) cr4 ht1 ht2 rfl (Nat.le_of_ble_eq_true rfl) dX4_fillBehind_64 hq1 ?_
      refine g_aload_n hC dX4_fillBehind_67 rfl 0 rfl ?_
      refine g_iconst (v := 1) hC dX4_fillBehind_68 (by decide) ?_
      refine g_iload_n hC dX4_fillBehind_69 rfl 1 rfl ?_
      refine g_ishl hC dX4_fillBehind_70 ?_
      obtain ⟨q2, hq2, h⟩ := bd_of h hf
      refine g_cVV (As := [.int ((1 : Int32) <<< (x1 &&& 31))]) hC hO (c_X4_markBehind _ hC.2.2.2.2.2.2.1 t ht1 ht2 ((1 : Int32) <<< (x1 &&& 31)) q1 (nn_of hq2)) gc_X4_153 (xk_X4_markBehind _ (Nat.le_of_ble_eq_true rfl) (Nat.le_of_ble_eq_true rfl)) cr4 ht1 ht2 rfl (Nat.le_of_ble_eq_true rfl) dX4_fillBehind_71 hq2 ?_
      refine g_iinc (v := x3 + 1) (lv' := [(3, .int (x3 + 1)), (0, .ref (E.2.2.1 t)), (1, .int x1), (2, .ref (E.2.2.1 x2))]) hC dX4_fillBehind_74 3 rfl rfl (by decide) rfl ?_
      refine g_goto (tgt := 53) hC dX4_fillBehind_77 (by decide) ?_
      exact g_sub [1, 2, 3, 0] rfl (ih (x3 + 1) q2 h)
set_option maxHeartbeats 4000000 in
set_option maxRecDepth 100000 in
theorem k_X4_fillBehind_26 {E : ET} {F : FT} {fo : Option HS} (hC : Cx E F 4 cX4_fillBehind RX4 GT) (hO : Ro F rm_X4_fillBehind) (hR : RV E F fo) (hf : fo ≠ none) (t : Nat) (ht1 : kd t = 4) (ht2 : AL E t) : ∀ (n : Nat) (x1 : Int32) (σ : HS), f_X4_fillBehind_26 t n x1 σ = fo → G E F 26 [(0, .ref (E.2.2.1 t)), (1, .int x1)] [] σ := by
  intro n
  induction n with
  | zero =>
    intro x1 σ h
    exact absurd (h.symm.trans rfl) hf
  | succ n ih =>
    intro x1 σ h
    refine g_iload_n hC dX4_fillBehind_26 rfl 1 rfl ?_
    refine g_bipush (v := 8) hC dX4_fillBehind_27 (by decide) ?_
    refine g_icmp_ge (tgt := 86) hC dX4_fillBehind_29 (by decide) h (fun c29 h => ?_) (fun c29 h => ?_)
    · exact g_vret hC hR dX4_fillBehind_86 h
    · refine g_aload_n hC dX4_fillBehind_32 rfl 0 rfl ?_
      refine g_getR (cj := 9) (k := 0) hC cr4 ui_4 ht1 ht2 (by decide) fl_X4_36 rfl rfl dX4_fillBehind_33 h hf (fun a1 ea1 ka1 na1 h => ?_)
      refine g_iload_n hC dX4_fillBehind_36 rfl 1 rfl ?_
      obtain ⟨q2, hq2, h⟩ := bd_of h hf
      refine g_cVI (As := [.int x1]) hC hO (c_X9_isIn _ hC.2.2.2.2.2.2.1 a1 ka1 na1 x1 σ (nn_of hq2)) gc_X4_44 (xk_X9_isIn _ (Nat.le_of_ble_eq_true rfl) (Nat.le_of_ble_eq_true rfl)) cr9 ka1 na1 rfl (Nat.le_of_ble_eq_true rfl) dX4_fillBehind_37 hq2 ?_
      refine g_if_eq (tgt := 80) hC dX4_fillBehind_40 (by decide) h (fun c40 h => ?_) (fun c40 h => ?_)
      · exact g_sub [0, 1] rfl (k_X4_fillBehind_80 hC hO hR hf t ht1 ht2 x1 (f_X4_fillBehind_26 t n) ih q2.2 h)
      · refine g_aload_n hC dX4_fillBehind_43 rfl 0 rfl ?_
        refine g_iload_n hC dX4_fillBehind_44 rfl 1 rfl ?_
        refine g_iconst (v := 0) hC dX4_fillBehind_45 (by decide) ?_
        refine g_iconst (v := 0) hC dX4_fillBehind_46 (by decide) ?_
        obtain ⟨q3, hq3, h⟩ := bd_of h hf
        refine g_cVR (As := [.int x1, .int 0, .int 0]) hC hO (c_X4_whereBest _ hC.2.2.2.2.2.2.1 t ht1 ht2 x1 0 0 q2.2 (nn_of hq3)) gc_X4_120 (xk_X4_whereBest _ (Nat.le_of_ble_eq_true rfl) (Nat.le_of_ble_eq_true rfl)) cr4 ht1 ht2 rfl (Nat.le_of_ble_eq_true rfl) dX4_fillBehind_47 hq3 (fun na4 => ?_)
        obtain ⟨a4, ea4, ka4, h⟩ := rk_of h hf
        rw [Option.some.inj ea4] at na4 ⊢
        refine g_astore_n (lv' := [(2, .ref (E.2.2.1 a4)), (0, .ref (E.2.2.1 t)), (1, .int x1)]) hC dX4_fillBehind_50 rfl (by decide) rfl ?_
        refine g_iconst (v := 0) hC dX4_fillBehind_51 (by decide) ?_
        refine g_istore_n (lv' := [(3, .int 0), (2, .ref (E.2.2.1 a4)), (0, .ref (E.2.2.1 t)), (1, .int x1)]) hC dX4_fillBehind_52 rfl (by decide) rfl ?_
        exact g_sub [2, 3, 1, 0] rfl (k_X4_fillBehind_53 hC hO hR hf t ht1 ht2 x1 a4 ka4 na4 (f_X4_fillBehind_26 t n) ih FU 0 q3.2 h)
set_option maxHeartbeats 4000000 in
set_option maxRecDepth 100000 in
theorem k_X4_fillBehind_2 {E : ET} {F : FT} {fo : Option HS} (hC : Cx E F 4 cX4_fillBehind RX4 GT) (hO : Ro F rm_X4_fillBehind) (hR : RV E F fo) (hf : fo ≠ none) (t : Nat) (ht1 : kd t = 4) (ht2 : AL E t) : ∀ (n : Nat) (x1 : Int32) (σ : HS), f_X4_fillBehind_2 t n x1 σ = fo → G E F 2 [(0, .ref (E.2.2.1 t)), (1, .int x1)] [] σ := by
  intro n
  induction n with
  | zero =>
    intro x1 σ h
    exact absurd (h.symm.trans rfl) hf
  | succ n ih =>
    intro x1 σ h
    refine g_iload_n hC dX4_fillBehind_2 rfl 1 rfl ?_
    refine g_aload_n hC dX4_fillBehind_3 rfl 0 rfl ?_
    refine g_getR (cj := 14) (k := 7) hC cr4 ui_4 ht1 ht2 (by decide) fl_X4_30 rfl rfl dX4_fillBehind_4 h hf (fun a1 ea1 ka1 na1 h => ?_)
    refine g_alen (v := Int32.ofNat (ln a1)) hC ka1 (by decide) na1 rfl dX4_fillBehind_7 ?_
    refine g_icmp_ge (tgt := 24) hC dX4_fillBehind_8 (by decide) h (fun c8 h => ?_) (fun c8 h => ?_)
    · refine g_iconst (v := 0) hC dX4_fillBehind_24 (by decide) ?_
      refine g_istore_n (lv' := [(1, .int 0), (0, .ref (E.2.2.1 t))]) hC dX4_fillBehind_25 rfl (by decide) rfl ?_
      exact g_sub [1, 0] rfl (k_X4_fillBehind_26 hC hO hR hf t ht1 ht2 FU 0 σ h)
    · refine g_aload_n hC dX4_fillBehind_11 rfl 0 rfl ?_
      refine g_getR (cj := 14) (k := 7) hC cr4 ui_4 ht1 ht2 (by decide) fl_X4_30 rfl rfl dX4_fillBehind_12 h hf (fun a2 ea2 ka2 na2 h => ?_)
      refine g_iload_n hC dX4_fillBehind_15 rfl 1 rfl ?_
      refine g_iconst (v := 0) hC dX4_fillBehind_16 (by decide) ?_
      refine g_iast hC ka2 na2 dX4_fillBehind_17 h hf (fun h => ?_)
      refine g_iinc (v := x1 + 1) (lv' := [(1, .int (x1 + 1)), (0, .ref (E.2.2.1 t))]) hC dX4_fillBehind_18 1 rfl rfl (by decide) rfl ?_
      refine g_goto (tgt := 2) hC dX4_fillBehind_21 (by decide) ?_
      exact g_sub [1, 0] rfl (ih (x1 + 1) (sI σ a2 x1.toNatClampNeg 0) h)
set_option maxHeartbeats 4000000 in
set_option maxRecDepth 100000 in
theorem k_X4_fillBehind_0 {E : ET} {F : FT} {fo : Option HS} (hC : Cx E F 4 cX4_fillBehind RX4 GT) (hO : Ro F rm_X4_fillBehind) (hR : RV E F fo) (hf : fo ≠ none) (t : Nat) (ht1 : kd t = 4) (ht2 : AL E t) (σ : HS) (h : f_X4_fillBehind t σ = fo) : G E F 0 [(0, .ref (E.2.2.1 t))] [] σ := by
    refine g_iconst (v := 0) hC dX4_fillBehind_0 (by decide) ?_
    refine g_istore_n (lv' := [(1, .int 0), (0, .ref (E.2.2.1 t))]) hC dX4_fillBehind_1 rfl (by decide) rfl ?_
    exact g_sub [1, 0] rfl (k_X4_fillBehind_2 hC hO hR hf t ht1 ht2 FU 0 σ h)
theorem xk_X4_fillBehind (R : Room) (h1 : 4 + 1 ≤ R.frames) (h2 : 199 ≤ R.locals) : xw R yX4_fillBehind w_X4_fillBehind GT cX4_fillBehind 4 none rm_X4_fillBehind 0 := ⟨rfl, rfl, rfl, h1, h2, ⟨by decide, by decide⟩, by decide +kernel⟩
theorem c_X4_fillBehind (E : ET) (hE : EO E) (t : Nat) (ht1 : kd t = 4) (ht2 : AL E t) (σ : HS) (hn : f_X4_fillBehind t σ ≠ none) : CoV E yX4_fillBehind w_X4_fillBehind rm_X4_fillBehind [.ref (E.2.2.1 t)] σ (f_X4_fillBehind t σ) := CoV.of (lv := [(0, .ref (E.2.2.1 t))]) hE (plainFor_of_name (by decide)) rfl (Nat.le_of_ble_eq_true rfl) rfl (fun F hC hO hR => k_X4_fillBehind_0 hC hO hR hn t ht1 ht2 σ rfl)
def rm_X4_greaterCount : Room := { frames := 1, cells := 0, slots := 0, locals := 33 }
theorem gc_X4_142 : GoodIn GT (va_wsS RX4 142 yJ6_bitCount_0f7a4 w_J6_bitCount_0f7a4) := gi_S (gtr_46 _ (List.mem_of_getElem? (i := 10) rfl)) (gtr_25 _ (List.mem_of_getElem? (i := 12) rfl)) (gtr_25 _ (List.mem_of_getElem? (i := 13) rfl)) wc_J6_bitCount_0f7a4
theorem wc_J9_max_7cf53 : Cond.code yJ9_max_7cf53 cJ9_max_7cf53 2 (some .int) ∈ GT := gtr_46 _ (List.mem_of_getElem? (i := 9) rfl)
theorem gc_X4_147 : GoodIn GT (va_wsS RX4 147 yJ9_max_7cf53 w_J9_max_7cf53) := gi_S (gtr_46 _ (List.mem_of_getElem? (i := 7) rfl)) (gtr_46 _ (List.mem_of_getElem? (i := 8) rfl)) (gtr_49 _ (List.mem_of_getElem? (i := 7) rfl)) wc_J9_max_7cf53
set_option maxHeartbeats 4000000 in
set_option maxRecDepth 100000 in
theorem k_X4_greaterCount_13 {E : ET} {F : FT} {fo : Option (Int32 × HS)} (hC : Cx E F 6 cX4_greaterCount RX4 GT) (hO : Ro F rm_X4_greaterCount) (hR : RI E F .int fo) (hf : fo ≠ none) (σ : HS) (h : f_X4_greaterCount_13 σ = fo) : G E F 13 [] [] σ := by
    refine g_iconst (v := (-1)) hC dX4_greaterCount_13 (by decide) ?_
    exact g_iret hC hR dX4_greaterCount_14 rfl h
set_option maxHeartbeats 4000000 in
set_option maxRecDepth 100000 in
theorem k_X4_greaterCount_0 {E : ET} {F : FT} {fo : Option (Int32 × HS)} (hC : Cx E F 6 cX4_greaterCount RX4 GT) (hO : Ro F rm_X4_greaterCount) (hR : RI E F .int fo) (hf : fo ≠ none) (t : Nat) (ht1 : kd t = 4) (ht2 : AL E t) (x1 : Int32) (σ : HS) (h : f_X4_greaterCount t x1 σ = fo) : G E F 0 [(0, .ref (E.2.2.1 t)), (1, .int x1)] [] σ := by
    refine g_iload_n hC dX4_greaterCount_0 rfl 1 rfl ?_
    refine g_if_lt (tgt := 13) hC dX4_greaterCount_1 (by decide) h (fun c1 h => ?_) (fun c1 h => ?_)
    · exact g_sub [] rfl (k_X4_greaterCount_13 hC hO hR hf σ h)
    · refine g_iload_n hC dX4_greaterCount_4 rfl 1 rfl ?_
      refine g_aload_n hC dX4_greaterCount_5 rfl 0 rfl ?_
      refine g_getR (cj := 14) (k := 7) hC cr4 ui_4 ht1 ht2 (by decide) fl_X4_30 rfl rfl dX4_greaterCount_6 h hf (fun a1 ea1 ka1 na1 h => ?_)
      refine g_alen (v := Int32.ofNat (ln a1)) hC ka1 (by decide) na1 rfl dX4_greaterCount_9 ?_
      refine g_icmp_lt (tgt := 15) hC dX4_greaterCount_10 (by decide) h (fun c10 h => ?_) (fun c10 h => ?_)
      · refine g_iload_n hC dX4_greaterCount_15 rfl 1 rfl ?_
        refine g_bipush (v := 8) hC dX4_greaterCount_16 (by decide) ?_
        refine g_idiv hC dX4_greaterCount_18 (by decide) ?_
        refine g_istore_n (lv' := [(2, .int (x1 / 8)), (0, .ref (E.2.2.1 t)), (1, .int x1)]) hC dX4_greaterCount_19 rfl (by decide) rfl ?_
        refine g_iload_n hC dX4_greaterCount_20 rfl 2 rfl ?_
        refine g_bipush (v := 8) hC dX4_greaterCount_21 (by decide) ?_
        refine g_irem hC dX4_greaterCount_23 (by decide) ?_
        refine g_istore_n (lv' := [(3, .int (x1 - x1 / 8 * 8)), (2, .int (x1 / 8)), (0, .ref (E.2.2.1 t)), (1, .int x1)]) hC dX4_greaterCount_24 rfl (by decide) rfl ?_
        refine g_aload_n hC dX4_greaterCount_25 rfl 2 rfl ?_
        refine g_getR (cj := 14) (k := 7) hC cr4 ui_4 ht1 ht2 (by decide) fl_X4_30 rfl rfl dX4_greaterCount_26 h hf (fun a2 ea2 ka2 na2 h => ?_)
        refine g_iload_n hC dX4_greaterCount_29 rfl 1 rfl ?_
        refine g_bipush (v := 8) hC dX4_greaterCount_30 (by decide) ?_
        refine g_imul hC dX4_greaterCount_32 ?_
        refine g_iload_n hC dX4_greaterCount_33 rfl 0 rfl ?_
        refine g_iadd hC dX4_greaterCount_34 ?_
        refine g_iald hC ka2 na2 dX4_greaterCount_35 h hf (fun h => ?_)
        obtain ⟨q3, hq3, h⟩ := bd_of h hf
        refine g_cSI (As := [.int (σ.1 a2 (((x1 / 8) * 8) + (x1 - x1 / 8 * 8)).toNatClampNeg)]) hC hO (c_J6_bitCount_0f7a4 _ hC.2.2.2.2.2.2.1 (σ.1 a2 (((x1 / 8) * 8) + (x1 - x1 / 8 * 8)).toNatClampNeg) σ (nn_of hq3)) gc_X4_142 (xk_J6_bitCount_0f7a4 _ (Nat.le_of_ble_eq_true rfl) (Nat.le_of_ble_eq_true rfl)) rfl (Nat.le_of_ble_eq_true rfl) dX4_greaterCount_36 hq3 ?_
        refine g_istore (lv' := [(4, .int q3.1), (3, .int (x1 - x1 / 8 * 8)), (2, .int (x1 / 8)), (0, .ref (E.2.2.1 t)), (1, .int x1)]) hC dX4_greaterCount_39 (by decide) rfl ?_
        refine g_aload_n hC dX4_greaterCount_41 rfl 3 rfl ?_
        refine g_getR (cj := 14) (k := 7) hC cr4 ui_4 ht1 ht2 (by decide) fl_X4_30 rfl rfl dX4_greaterCount_42 h hf (fun a4 ea4 ka4 na4 h => ?_)
        refine g_iload_n hC dX4_greaterCount_45 rfl 1 rfl ?_
        refine g_bipush (v := 8) hC dX4_greaterCount_46 (by decide) ?_
        refine g_imul hC dX4_greaterCount_48 ?_
        refine g_iload_n hC dX4_greaterCount_49 rfl 2 rfl ?_
        refine g_iadd hC dX4_greaterCount_50 ?_
        refine g_iald hC ka4 na4 dX4_greaterCount_51 h hf (fun h => ?_)
        obtain ⟨q5, hq5, h⟩ := bd_of h hf
        refine g_cSI (As := [.int (q3.2.1 a4 (((x1 - x1 / 8 * 8) * 8) + (x1 / 8)).toNatClampNeg)]) hC hO (c_J6_bitCount_0f7a4 _ hC.2.2.2.2.2.2.1 (q3.2.1 a4 (((x1 - x1 / 8 * 8) * 8) + (x1 / 8)).toNatClampNeg) q3.2 (nn_of hq5)) gc_X4_142 (xk_J6_bitCount_0f7a4 _ (Nat.le_of_ble_eq_true rfl) (Nat.le_of_ble_eq_true rfl)) rfl (Nat.le_of_ble_eq_true rfl) dX4_greaterCount_52 hq5 ?_
        refine g_istore (lv' := [(5, .int q5.1), (4, .int q3.1), (3, .int (x1 - x1 / 8 * 8)), (2, .int (x1 / 8)), (0, .ref (E.2.2.1 t)), (1, .int x1)]) hC dX4_greaterCount_55 (by decide) rfl ?_
        refine g_iload hC dX4_greaterCount_57 1 rfl ?_
        refine g_iload hC dX4_greaterCount_59 0 rfl ?_
        obtain ⟨q6, hq6, h⟩ := bd_of h hf
        refine g_cSI (As := [.int q3.1, .int q5.1]) hC hO (c_J9_max_7cf53 _ hC.2.2.2.2.2.2.1 q3.1 q5.1 q5.2 (nn_of hq6)) gc_X4_147 (xk_J9_max_7cf53 _ (Nat.le_of_ble_eq_true rfl) (Nat.le_of_ble_eq_true rfl)) rfl (Nat.le_of_ble_eq_true rfl) dX4_greaterCount_61 hq6 ?_
        exact g_iret hC hR dX4_greaterCount_64 rfl h
      · exact g_sub [] rfl (k_X4_greaterCount_13 hC hO hR hf σ h)
theorem xk_X4_greaterCount (R : Room) (h1 : 1 + 1 ≤ R.frames) (h2 : 70 ≤ R.locals) : xw R yX4_greaterCount w_X4_greaterCount GT cX4_greaterCount 6 (some .int) rm_X4_greaterCount 1 := ⟨rfl, rfl, rfl, h1, h2, ⟨by decide, by decide⟩, by decide +kernel⟩
theorem c_X4_greaterCount (E : ET) (hE : EO E) (t : Nat) (ht1 : kd t = 4) (ht2 : AL E t) (x1 : Int32) (σ : HS) (hn : f_X4_greaterCount t x1 σ ≠ none) : CoI E yX4_greaterCount w_X4_greaterCount rm_X4_greaterCount [.ref (E.2.2.1 t), .int x1] σ (f_X4_greaterCount t x1 σ) := CoI.of (lv := [(0, .ref (E.2.2.1 t)), (1, .int x1)]) hE (plainFor_of_name (by decide)) rfl (Nat.le_of_ble_eq_true rfl) rfl (fun F hC hO hR => k_X4_greaterCount_0 hC hO hR hn t ht1 ht2 x1 σ rfl)
def rm_X4_partsMost : Room := { frames := 5, cells := 0, slots := 0, locals := 199 }
theorem wc_X4_fillBehind : Cond.code yX4_fillBehind cX4_fillBehind 4 none ∈ GT := gtr_45 _ (List.mem_of_getElem? (i := 22) rfl)
theorem gc_X4_135 : GoodIn GT (wsV RX4 135 RX4 yX4_fillBehind w_X4_fillBehind) := gi_V (gtr_45 _ (List.mem_of_getElem? (i := 19) rfl)) (gtr_45 _ (List.mem_of_getElem? (i := 20) rfl)) (gtr_45 _ (List.mem_of_getElem? (i := 21) rfl)) (gtr_2 _ (List.mem_of_getElem? (i := 8) rfl)) wc_X4_fillBehind
theorem wc_X4_greaterCount : Cond.code yX4_greaterCount cX4_greaterCount 6 (some .int) ∈ GT := gtr_46 _ (List.mem_of_getElem? (i := 6) rfl)
theorem gc_X4_138 : GoodIn GT (wsV RX4 138 RX4 yX4_greaterCount w_X4_greaterCount) := gi_V (gtr_46 _ (List.mem_of_getElem? (i := 3) rfl)) (gtr_46 _ (List.mem_of_getElem? (i := 4) rfl)) (gtr_46 _ (List.mem_of_getElem? (i := 5) rfl)) (gtr_2 _ (List.mem_of_getElem? (i := 8) rfl)) wc_X4_greaterCount
set_option maxHeartbeats 4000000 in
set_option maxRecDepth 100000 in
theorem k_X4_partsMost_88 {E : ET} {F : FT} {fo : Option (Int32 × HS)} (hC : Cx E F 6 cX4_partsMost RX4 GT) (hO : Ro F rm_X4_partsMost) (hR : RI E F .int fo) (hf : fo ≠ none) (t : Nat) (ht1 : kd t = 4) (ht2 : AL E t) (x1 : Int32) (x2 : Int32) (x3 : Int32) (r8 : Int32 → Int32 → HS → Option (Int32 × HS)) (h8 : ∀ (x1 : Int32) (x2 : Int32) (σ : HS), r8 x1 x2 σ = fo → G E F 8 [(0, .ref (E.2.2.1 t)), (1, .int x1), (2, .int x2)] [] σ) (r18 : Int32 → Int32 → HS → Option (Int32 × HS)) (h18 : ∀ (x1 : Int32) (x3 : Int32) (σ : HS), r18 x1 x3 σ = fo → G E F 18 [(0, .ref (E.2.2.1 t)), (1, .int x1), (2, .int x2), (3, .int x3)] [] σ) (σ : HS) (h : f_X4_partsMost_88 r8 r18 t x1 x2 x3 σ = fo) : G E F 88 [(0, .ref (E.2.2.1 t)), (1, .int x1), (2, .int x2), (3, .int x3)] [] σ := by
    refine g_iinc (v := x3 + 1) (lv' := [(3, .int (x3 + 1)), (0, .ref (E.2.2.1 t)), (1, .int x1), (2, .int x2)]) hC dX4_partsMost_88 3 rfl rfl (by decide) rfl ?_
    refine g_goto (tgt := 18) hC dX4_partsMost_91 (by decide) ?_
    exact g_sub [1, 2, 3, 0] rfl (h18 x1 (x3 + 1) σ h)
set_option maxHeartbeats 4000000 in
set_option maxRecDepth 100000 in
theorem k_X4_partsMost_85 {E : ET} {F : FT} {fo : Option (Int32 × HS)} (hC : Cx E F 6 cX4_partsMost RX4 GT) (hO : Ro F rm_X4_partsMost) (hR : RI E F .int fo) (hf : fo ≠ none) (t : Nat) (ht1 : kd t = 4) (ht2 : AL E t) (x2 : Int32) (x3 : Int32) (x4 : Int32) (r8 : Int32 → Int32 → HS → Option (Int32 × HS)) (h8 : ∀ (x1 : Int32) (x2 : Int32) (σ : HS), r8 x1 x2 σ = fo → G E F 8 [(0, .ref (E.2.2.1 t)), (1, .int x1), (2, .int x2)] [] σ) (r18 : Int32 → Int32 → HS → Option (Int32 × HS)) (h18 : ∀ (x1 : Int32) (x3 : Int32) (σ : HS), r18 x1 x3 σ = fo → G E F 18 [(0, .ref (E.2.2.1 t)), (1, .int x1), (2, .int x2), (3, .int x3)] [] σ) (σ : HS) (h : f_X4_partsMost_85 r8 r18 t x2 x3 x4 σ = fo) : G E F 85 [(0, .ref (E.2.2.1 t)), (2, .int x2), (3, .int x3), (4, .int x4)] [] σ := by
    refine g_iload hC dX4_partsMost_85 3 rfl ?_
    refine g_istore_n (lv' := [(1, .int x4), (0, .ref (E.2.2.1 t)), (2, .int x2), (3, .int x3), (4, .int x4)]) hC dX4_partsMost_87 rfl (by decide) rfl ?_
    exact g_sub [1, 0, 2, 3] rfl (k_X4_partsMost_88 hC hO hR hf t ht1 ht2 x4 x2 x3 r8 h8 r18 h18 σ h)
set_option maxHeartbeats 4000000 in
set_option maxRecDepth 100000 in
theorem k_X4_partsMost_59 {E : ET} {F : FT} {fo : Option (Int32 × HS)} (hC : Cx E F 6 cX4_partsMost RX4 GT) (hO : Ro F rm_X4_partsMost) (hR : RI E F .int fo) (hf : fo ≠ none) (t : Nat) (ht1 : kd t = 4) (ht2 : AL E t) (x1 : Int32) (x2 : Int32) (x3 : Int32) (x4 : Int32) (s0 : Int32) (r8 : Int32 → Int32 → HS → Option (Int32 × HS)) (h8 : ∀ (x1 : Int32) (x2 : Int32) (σ : HS), r8 x1 x2 σ = fo → G E F 8 [(0, .ref (E.2.2.1 t)), (1, .int x1), (2, .int x2)] [] σ) (r18 : Int32 → Int32 → HS → Option (Int32 × HS)) (h18 : ∀ (x1 : Int32) (x3 : Int32) (σ : HS), r18 x1 x3 σ = fo → G E F 18 [(0, .ref (E.2.2.1 t)), (1, .int x1), (2, .int x2), (3, .int x3)] [] σ) (σ : HS) (h : f_X4_partsMost_59 r8 r18 t x1 x2 x3 x4 s0 σ = fo) : G E F 59 [(0, .ref (E.2.2.1 t)), (1, .int x1), (2, .int x2), (3, .int x3), (4, .int x4)] [.int s0] σ := by
    refine g_istore (lv' := [(5, .int s0), (0, .ref (E.2.2.1 t)), (1, .int x1), (2, .int x2), (3, .int x3), (4, .int x4)]) hC dX4_partsMost_59 (by decide) rfl ?_
    refine g_iload hC dX4_partsMost_61 0 rfl ?_
    refine g_if_eq (tgt := 88) hC dX4_partsMost_63 (by decide) h (fun c63 h => ?_) (fun c63 h => ?_)
    · exact g_sub [1, 2, 3, 4] rfl (k_X4_partsMost_88 hC hO hR hf t ht1 ht2 x1 x2 x3 r8 h8 r18 h18 σ h)
    · refine g_iload_n hC dX4_partsMost_66 rfl 2 rfl ?_
      refine g_iconst (v := (-1)) hC dX4_partsMost_67 (by decide) ?_
      refine g_icmp_eq (tgt := 85) hC dX4_partsMost_68 (by decide) h (fun c68 h => ?_) (fun c68 h => ?_)
      · exact g_sub [1, 3, 4, 5] rfl (k_X4_partsMost_85 hC hO hR hf t ht1 ht2 x2 x3 x4 r8 h8 r18 h18 σ h)
      · refine g_aload_n hC dX4_partsMost_71 rfl 1 rfl ?_
        refine g_iload hC dX4_partsMost_72 5 rfl ?_
        obtain ⟨q1, hq1, h⟩ := bd_of h hf
        refine g_cVI (As := [.int x4]) hC hO (c_X4_greaterCount _ hC.2.2.2.2.2.2.1 t ht1 ht2 x4 σ (nn_of hq1)) gc_X4_138 (xk_X4_greaterCount _ (Nat.le_of_ble_eq_true rfl) (Nat.le_of_ble_eq_true rfl)) cr4 ht1 ht2 rfl (Nat.le_of_ble_eq_true rfl) dX4_partsMost_74 hq1 ?_
        refine g_aload_n hC dX4_partsMost_77 rfl 1 rfl ?_
        refine g_iload_n hC dX4_partsMost_78 rfl 2 rfl ?_
        obtain ⟨q2, hq2, h⟩ := bd_of h hf
        refine g_cVI (As := [.int x1]) hC hO (c_X4_greaterCount _ hC.2.2.2.2.2.2.1 t ht1 ht2 x1 q1.2 (nn_of hq2)) gc_X4_138 (xk_X4_greaterCount _ (Nat.le_of_ble_eq_true rfl) (Nat.le_of_ble_eq_true rfl)) cr4 ht1 ht2 rfl (Nat.le_of_ble_eq_true rfl) dX4_partsMost_79 hq2 ?_
        refine g_icmp_ge (tgt := 88) hC dX4_partsMost_82 (by decide) h (fun c82 h => ?_) (fun c82 h => ?_)
        · exact g_sub [1, 2, 3, 4] rfl (k_X4_partsMost_88 hC hO hR hf t ht1 ht2 x1 x2 x3 r8 h8 r18 h18 q2.2 h)
        · exact g_sub [1, 3, 4, 5] rfl (k_X4_partsMost_85 hC hO hR hf t ht1 ht2 x2 x3 x4 r8 h8 r18 h18 q2.2 h)
set_option maxHeartbeats 4000000 in
set_option maxRecDepth 100000 in
theorem k_X4_partsMost_58 {E : ET} {F : FT} {fo : Option (Int32 × HS)} (hC : Cx E F 6 cX4_partsMost RX4 GT) (hO : Ro F rm_X4_partsMost) (hR : RI E F .int fo) (hf : fo ≠ none) (t : Nat) (ht1 : kd t = 4) (ht2 : AL E t) (x1 : Int32) (x2 : Int32) (x3 : Int32) (x4 : Int32) (r8 : Int32 → Int32 → HS → Option (Int32 × HS)) (h8 : ∀ (x1 : Int32) (x2 : Int32) (σ : HS), r8 x1 x2 σ = fo → G E F 8 [(0, .ref (E.2.2.1 t)), (1, .int x1), (2, .int x2)] [] σ) (r18 : Int32 → Int32 → HS → Option (Int32 × HS)) (h18 : ∀ (x1 : Int32) (x3 : Int32) (σ : HS), r18 x1 x3 σ = fo → G E F 18 [(0, .ref (E.2.2.1 t)), (1, .int x1), (2, .int x2), (3, .int x3)] [] σ) (σ : HS) (h : f_X4_partsMost_58 r8 r18 t x1 x2 x3 x4 σ = fo) : G E F 58 [(0, .ref (E.2.2.1 t)), (1, .int x1), (2, .int x2), (3, .int x3), (4, .int x4)] [] σ := by
    refine g_iconst (v := 0) hC dX4_partsMost_58 (by decide) ?_
    exact g_sub [0, 1, 2, 3, 4] rfl (k_X4_partsMost_59 hC hO hR hf t ht1 ht2 x1 x2 x3 x4 0 r8 h8 r18 h18 σ h)
set_option maxHeartbeats 4000000 in
set_option maxRecDepth 100000 in
theorem k_X4_partsMost_18 {E : ET} {F : FT} {fo : Option (Int32 × HS)} (hC : Cx E F 6 cX4_partsMost RX4 GT) (hO : Ro F rm_X4_partsMost) (hR : RI E F .int fo) (hf : fo ≠ none) (t : Nat) (ht1 : kd t = 4) (ht2 : AL E t) (x2 : Int32) (r8 : Int32 → Int32 → HS → Option (Int32 × HS)) (h8 : ∀ (x1 : Int32) (x2 : Int32) (σ : HS), r8 x1 x2 σ = fo → G E F 8 [(0, .ref (E.2.2.1 t)), (1, .int x1), (2, .int x2)] [] σ) : ∀ (n : Nat) (x1 : Int32) (x3 : Int32) (σ : HS), f_X4_partsMost_18 t x2 r8 n x1 x3 σ = fo → G E F 18 [(0, .ref (E.2.2.1 t)), (1, .int x1), (2, .int x2), (3, .int x3)] [] σ := by
  intro n
  induction n with
  | zero =>
    intro x1 x3 σ h
    exact absurd (h.symm.trans rfl) hf
  | succ n ih =>
    intro x1 x3 σ h
    refine g_iload_n hC dX4_partsMost_18 rfl 3 rfl ?_
    refine g_bipush (v := 8) hC dX4_partsMost_19 (by decide) ?_
    refine g_icmp_ge (tgt := 94) hC dX4_partsMost_21 (by decide) h (fun c21 h => ?_) (fun c21 h => ?_)
    · refine g_iinc (v := x2 + 1) (lv' := [(2, .int (x2 + 1)), (0, .ref (E.2.2.1 t)), (1, .int x1), (3, .int x3)]) hC dX4_partsMost_94 2 rfl rfl (by decide) rfl ?_
      refine g_goto (tgt := 8) hC dX4_partsMost_97 (by decide) ?_
      exact g_sub [1, 2, 0] rfl (h8 x1 (x2 + 1) σ h)
    · refine g_iload_n hC dX4_partsMost_24 rfl 2 rfl ?_
      refine g_bipush (v := 8) hC dX4_partsMost_25 (by decide) ?_
      refine g_imul hC dX4_partsMost_27 ?_
      refine g_iload_n hC dX4_partsMost_28 rfl 3 rfl ?_
      refine g_iadd hC dX4_partsMost_29 ?_
      refine g_istore (lv' := [(4, .int ((x2 * 8) + x3)), (0, .ref (E.2.2.1 t)), (1, .int x1), (2, .int x2), (3, .int x3)]) hC dX4_partsMost_30 (by decide) rfl ?_
      refine g_aload_n hC dX4_partsMost_32 rfl 1 rfl ?_
      refine g_getR (cj := 9) (k := 0) hC cr4 ui_4 ht1 ht2 (by decide) fl_X4_36 rfl rfl dX4_partsMost_33 h hf (fun a1 ea1 ka1 na1 h => ?_)
      refine g_iload_n hC dX4_partsMost_36 rfl 3 rfl ?_
      obtain ⟨q2, hq2, h⟩ := bd_of h hf
      refine g_cVI (As := [.int x2]) hC hO (c_X9_isIn _ hC.2.2.2.2.2.2.1 a1 ka1 na1 x2 σ (nn_of hq2)) gc_X4_44 (xk_X9_isIn _ (Nat.le_of_ble_eq_true rfl) (Nat.le_of_ble_eq_true rfl)) cr9 ka1 na1 rfl (Nat.le_of_ble_eq_true rfl) dX4_partsMost_37 hq2 ?_
      refine g_if_eq (tgt := 58) hC dX4_partsMost_40 (by decide) h (fun c40 h => ?_) (fun c40 h => ?_)
      · exact g_sub [1, 2, 3, 4, 0] rfl (k_X4_partsMost_58 hC hO hR hf t ht1 ht2 x1 x2 x3 ((x2 * 8) + x3) r8 h8 (f_X4_partsMost_18 t x2 r8 n) ih q2.2 h)
      · refine g_aload_n hC dX4_partsMost_43 rfl 1 rfl ?_
        refine g_getR (cj := 9) (k := 0) hC cr4 ui_4 ht1 ht2 (by decide) fl_X4_36 rfl rfl dX4_partsMost_44 h hf (fun a3 ea3 ka3 na3 h => ?_)
        refine g_iload_n hC dX4_partsMost_47 rfl 4 rfl ?_
        obtain ⟨q4, hq4, h⟩ := bd_of h hf
        refine g_cVI (As := [.int x3]) hC hO (c_X9_isIn _ hC.2.2.2.2.2.2.1 a3 ka3 na3 x3 q2.2 (nn_of hq4)) gc_X4_44 (xk_X9_isIn _ (Nat.le_of_ble_eq_true rfl) (Nat.le_of_ble_eq_true rfl)) cr9 ka3 na3 rfl (Nat.le_of_ble_eq_true rfl) dX4_partsMost_48 hq4 ?_
        refine g_if_eq (tgt := 58) hC dX4_partsMost_51 (by decide) h (fun c51 h => ?_) (fun c51 h => ?_)
        · exact g_sub [1, 2, 3, 4, 0] rfl (k_X4_partsMost_58 hC hO hR hf t ht1 ht2 x1 x2 x3 ((x2 * 8) + x3) r8 h8 (f_X4_partsMost_18 t x2 r8 n) ih q4.2 h)
        · refine g_iconst (v := 1) hC dX4_partsMost_54 (by decide) ?_
          refine g_goto (tgt := 59) hC dX4_partsMost_55 (by decide) ?_
          exact g_sub [1, 2, 3, 4, 0] rfl (k_X4_partsMost_59 hC hO hR hf t ht1 ht2 x1 x2 x3 ((x2 * 8) + x3) 1 r8 h8 (f_X4_partsMost_18 t x2 r8 n) ih q4.2 h)
set_option maxHeartbeats 4000000 in
set_option maxRecDepth 100000 in
theorem k_X4_partsMost_8 {E : ET} {F : FT} {fo : Option (Int32 × HS)} (hC : Cx E F 6 cX4_partsMost RX4 GT) (hO : Ro F rm_X4_partsMost) (hR : RI E F .int fo) (hf : fo ≠ none) (t : Nat) (ht1 : kd t = 4) (ht2 : AL E t) : ∀ (n : Nat) (x1 : Int32) (x2 : Int32) (σ : HS), f_X4_partsMost_8 t n x1 x2 σ = fo → G E F 8 [(0, .ref (E.2.2.1 t)), (1, .int x1), (2, .int x2)] [] σ := by
  intro n
  induction n with
  | zero =>
    intro x1 x2 σ h
    exact absurd (h.symm.trans rfl) hf
  | succ n ih =>
    intro x1 x2 σ h
    refine g_iload_n hC dX4_partsMost_8 rfl 2 rfl ?_
    refine g_bipush (v := 8) hC dX4_partsMost_9 (by decide) ?_
    refine g_icmp_ge (tgt := 100) hC dX4_partsMost_11 (by decide) h (fun c11 h => ?_) (fun c11 h => ?_)
    · refine g_iload_n hC dX4_partsMost_100 rfl 1 rfl ?_
      exact g_iret hC hR dX4_partsMost_101 rfl h
    · refine g_iload_n hC dX4_partsMost_14 rfl 2 rfl ?_
      refine g_iconst (v := 1) hC dX4_partsMost_15 (by decide) ?_
      refine g_iadd hC dX4_partsMost_16 ?_
      refine g_istore_n (lv' := [(3, .int (x2 + 1)), (0, .ref (E.2.2.1 t)), (1, .int x1), (2, .int x2)]) hC dX4_partsMost_17 rfl (by decide) rfl ?_
      exact g_sub [1, 2, 3, 0] rfl (k_X4_partsMost_18 hC hO hR hf t ht1 ht2 x2 (f_X4_partsMost_8 t n) ih FU x1 (x2 + 1) σ h)
set_option maxHeartbeats 4000000 in
set_option maxRecDepth 100000 in
theorem k_X4_partsMost_0 {E : ET} {F : FT} {fo : Option (Int32 × HS)} (hC : Cx E F 6 cX4_partsMost RX4 GT) (hO : Ro F rm_X4_partsMost) (hR : RI E F .int fo) (hf : fo ≠ none) (t : Nat) (ht1 : kd t = 4) (ht2 : AL E t) (σ : HS) (h : f_X4_partsMost t σ = fo) : G E F 0 [(0, .ref (E.2.2.1 t))] [] σ := by
    refine g_aload_n hC dX4_partsMost_0 rfl 0 rfl ?_
    obtain ⟨q1, hq1, h⟩ := bd_of h hf
    refine g_cVV (As := []) hC hO (c_X4_fillBehind _ hC.2.2.2.2.2.2.1 t ht1 ht2 σ (nn_of hq1)) gc_X4_135 (xk_X4_fillBehind _ (Nat.le_of_ble_eq_true rfl) (Nat.le_of_ble_eq_true rfl)) cr4 ht1 ht2 rfl (Nat.le_of_ble_eq_true rfl) dX4_partsMost_1 hq1 ?_
    refine g_iconst (v := (-1)) hC dX4_partsMost_4 (by decide) ?_
    refine g_istore_n (lv' := [(1, .int (-1)), (0, .ref (E.2.2.1 t))]) hC dX4_partsMost_5 rfl (by decide) rfl ?_
    refine g_iconst (v := 0) hC dX4_partsMost_6 (by decide) ?_
    refine g_istore_n (lv' := [(2, .int 0), (1, .int (-1)), (0, .ref (E.2.2.1 t))]) hC dX4_partsMost_7 rfl (by decide) rfl ?_
    exact g_sub [2, 1, 0] rfl (k_X4_partsMost_8 hC hO hR hf t ht1 ht2 FU (-1) 0 q1 h)
theorem xk_X4_partsMost (R : Room) (h1 : 5 + 1 ≤ R.frames) (h2 : 236 ≤ R.locals) : xw R yX4_partsMost w_X4_partsMost GT cX4_partsMost 6 (some .int) rm_X4_partsMost 0 := ⟨rfl, rfl, rfl, h1, h2, ⟨by decide, by decide⟩, by decide +kernel⟩
theorem c_X4_partsMost (E : ET) (hE : EO E) (t : Nat) (ht1 : kd t = 4) (ht2 : AL E t) (σ : HS) (hn : f_X4_partsMost t σ ≠ none) : CoI E yX4_partsMost w_X4_partsMost rm_X4_partsMost [.ref (E.2.2.1 t)] σ (f_X4_partsMost t σ) := CoI.of (lv := [(0, .ref (E.2.2.1 t))]) hE (plainFor_of_name (by decide)) rfl (Nat.le_of_ble_eq_true rfl) rfl (fun F hC hO hR => k_X4_partsMost_0 hC hO hR hn t ht1 ht2 σ rfl)
def rm_X4_haveAllCorners : Room := { frames := 0, cells := 0, slots := 0, locals := 0 }
theorem fl_X4_27 : Cond.fieldLink RX4 27 "EveryMeasure$Judge" (TX4 6).2.1 (TX4 6).2.2.1 ∈ GT := gtr_5 _ (List.mem_of_getElem? (i := 20) rfl)
set_option maxHeartbeats 4000000 in
set_option maxRecDepth 100000 in
theorem k_X4_haveAllCorners_2 {E : ET} {F : FT} {fo : Option (Int32 × HS)} (hC : Cx E F 4 cX4_haveAllCorners RX4 GT) (hO : Ro F rm_X4_haveAllCorners) (hR : RI E F .boolean fo) (hf : fo ≠ none) (t : Nat) (ht1 : kd t = 4) (ht2 : AL E t) (x1 : Nat) (hx1a : kd x1 = 1) (hx1b : AL E x1) (x2 : Int32) : ∀ (n : Nat) (x3 : Int32) (σ : HS), f_X4_haveAllCorners_2 t x1 x2 n x3 σ = fo → G E F 2 [(0, .ref (E.2.2.1 t)), (1, .ref (E.2.2.1 x1)), (2, .int x2), (3, .int x3)] [] σ := by
  intro n
  induction n with
  | zero =>
    intro x3 σ h
    exact absurd (h.symm.trans rfl) hf
  | succ n ih =>
    intro x3 σ h
    refine g_iload_n hC dX4_haveAllCorners_2 rfl 3 rfl ?_
    refine g_aload_n hC dX4_haveAllCorners_3 rfl 1 rfl ?_
    refine g_getI (k := 5) hC cr1 ui_1 hx1a hx1b (by decide) fl_X4_50 rfl rfl dX4_haveAllCorners_4 ?_
    refine g_icmp_ge (tgt := 29) hC dX4_haveAllCorners_7 (by decide) h (fun c7 h => ?_) (fun c7 h => ?_)
    · refine g_iconst (v := 1) hC dX4_haveAllCorners_29 (by decide) ?_
      exact g_iret hC hR dX4_haveAllCorners_30 rfl h
    · refine g_aload_n hC dX4_haveAllCorners_10 rfl 0 rfl ?_
      refine g_getR (cj := 14) (k := 6) hC cr4 ui_4 ht1 ht2 (by decide) fl_X4_27 rfl rfl dX4_haveAllCorners_11 h hf (fun a1 ea1 ka1 na1 h => ?_)
      refine g_iload_n hC dX4_haveAllCorners_14 rfl 3 rfl ?_
      refine g_iald hC ka1 na1 dX4_haveAllCorners_15 h hf (fun h => ?_)
      refine g_iload_n hC dX4_haveAllCorners_16 rfl 2 rfl ?_
      refine g_iand hC dX4_haveAllCorners_17 ?_
      refine g_if_ne (tgt := 23) hC dX4_haveAllCorners_18 (by decide) h (fun c18 h => ?_) (fun c18 h => ?_)
      · refine g_iinc (v := x3 + 1) (lv' := [(3, .int (x3 + 1)), (0, .ref (E.2.2.1 t)), (1, .ref (E.2.2.1 x1)), (2, .int x2)]) hC dX4_haveAllCorners_23 3 rfl rfl (by decide) rfl ?_
        refine g_goto (tgt := 2) hC dX4_haveAllCorners_26 (by decide) ?_
        exact g_sub [1, 2, 3, 0] rfl (ih (x3 + 1) σ h)
      · refine g_iconst (v := 0) hC dX4_haveAllCorners_21 (by decide) ?_
        exact g_iret hC hR dX4_haveAllCorners_22 rfl h
set_option maxHeartbeats 4000000 in
set_option maxRecDepth 100000 in
theorem k_X4_haveAllCorners_0 {E : ET} {F : FT} {fo : Option (Int32 × HS)} (hC : Cx E F 4 cX4_haveAllCorners RX4 GT) (hO : Ro F rm_X4_haveAllCorners) (hR : RI E F .boolean fo) (hf : fo ≠ none) (t : Nat) (ht1 : kd t = 4) (ht2 : AL E t) (x1 : Nat) (hx1a : kd x1 = 1) (hx1b : AL E x1) (x2 : Int32) (σ : HS) (h : f_X4_haveAllCorners t x1 x2 σ = fo) : G E F 0 [(0, .ref (E.2.2.1 t)), (1, .ref (E.2.2.1 x1)), (2, .int x2)] [] σ := by
    refine g_iconst (v := 0) hC dX4_haveAllCorners_0 (by decide) ?_
    refine g_istore_n (lv' := [(3, .int 0), (0, .ref (E.2.2.1 t)), (1, .ref (E.2.2.1 x1)), (2, .int x2)]) hC dX4_haveAllCorners_1 rfl (by decide) rfl ?_
    exact g_sub [1, 2, 3, 0] rfl (k_X4_haveAllCorners_2 hC hO hR hf t ht1 ht2 x1 hx1a hx1b x2 FU 0 σ h)
theorem xk_X4_haveAllCorners (R : Room) (h1 : 0 + 1 ≤ R.frames) (h2 : 35 ≤ R.locals) : xw R yX4_haveAllCorners w_X4_haveAllCorners GT cX4_haveAllCorners 4 (some .boolean) rm_X4_haveAllCorners 2 := ⟨rfl, rfl, rfl, h1, h2, ⟨by decide, by decide⟩, by decide +kernel⟩
theorem c_X4_haveAllCorners (E : ET) (hE : EO E) (t : Nat) (ht1 : kd t = 4) (ht2 : AL E t) (x1 : Nat) (hx1a : kd x1 = 1) (hx1b : AL E x1) (x2 : Int32) (σ : HS) (hn : f_X4_haveAllCorners t x1 x2 σ ≠ none) : CoI E yX4_haveAllCorners w_X4_haveAllCorners rm_X4_haveAllCorners [.ref (E.2.2.1 t), .ref (E.2.2.1 x1), .int x2] σ (f_X4_haveAllCorners t x1 x2 σ) := CoI.of (lv := [(0, .ref (E.2.2.1 t)), (1, .ref (E.2.2.1 x1)), (2, .int x2)]) hE (plainFor_of_name (by decide)) rfl (Nat.le_of_ble_eq_true rfl) rfl (fun F hC hO hR => k_X4_haveAllCorners_0 hC hO hR hn t ht1 ht2 x1 hx1a hx1b x2 σ rfl)
def rm_X4_isBestAhead : Room := { frames := 2, cells := 0, slots := 0, locals := 84 }
theorem fl_X4_20 : Cond.fieldLink RX4 20 "EveryMeasure$Judge" (TX4 4).2.1 (TX4 4).2.2.1 ∈ GT := gtr_5 _ (List.mem_of_getElem? (i := 18) rfl)
theorem wc_X1_impliesWith : Cond.code yX1_impliesWith cX1_impliesWith 16 (some .boolean) ∈ GT := gtr_36 _ (List.mem_of_getElem? (i := 5) rfl)
theorem gc_X4_177 : GoodIn GT (wsV RX4 177 RX1 yX1_impliesWith w_X1_impliesWith) := gi_V (gtr_47 _ (List.mem_of_getElem? (i := 20) rfl)) (gtr_36 _ (List.mem_of_getElem? (i := 3) rfl)) (gtr_36 _ (List.mem_of_getElem? (i := 4) rfl)) (gtr_4 _ (List.mem_of_getElem? (i := 21) rfl)) wc_X1_impliesWith
set_option maxHeartbeats 4000000 in
set_option maxRecDepth 100000 in
theorem k_X4_isBestAhead_78 {E : ET} {F : FT} {fo : Option (Int32 × HS)} (hC : Cx E F 5 cX4_isBestAhead RX4 GT) (hO : Ro F rm_X4_isBestAhead) (hR : RI E F .boolean fo) (hf : fo ≠ none) (t : Nat) (ht1 : kd t = 4) (ht2 : AL E t) (x1 : Nat) (hx1a : kd x1 = 1) (hx1b : AL E x1) (x2 : Int32) (x3 : Int32) (x4 : Int32) (r16 : Int32 → HS → Option (Int32 × HS)) (h16 : ∀ (x4 : Int32) (σ : HS), r16 x4 σ = fo → G E F 16 [(0, .ref (E.2.2.1 t)), (1, .ref (E.2.2.1 x1)), (2, .int x2), (3, .int x3), (4, .int x4)] [] σ) (σ : HS) (h : f_X4_isBestAhead_78 r16 t x1 x2 x3 x4 σ = fo) : G E F 78 [(0, .ref (E.2.2.1 t)), (1, .ref (E.2.2.1 x1)), (2, .int x2), (3, .int x3), (4, .int x4)] [] σ := by
    refine g_iinc (v := x4 + 1) (lv' := [(4, .int (x4 + 1)), (0, .ref (E.2.2.1 t)), (1, .ref (E.2.2.1 x1)), (2, .int x2), (3, .int x3)]) hC dX4_isBestAhead_78 4 rfl rfl (by decide) rfl ?_
    refine g_goto (tgt := 16) hC dX4_isBestAhead_81 (by decide) ?_
    exact g_sub [1, 2, 3, 4, 0] rfl (h16 (x4 + 1) σ h)
set_option maxHeartbeats 4000000 in
set_option maxRecDepth 100000 in
theorem k_X4_isBestAhead_16 {E : ET} {F : FT} {fo : Option (Int32 × HS)} (hC : Cx E F 5 cX4_isBestAhead RX4 GT) (hO : Ro F rm_X4_isBestAhead) (hR : RI E F .boolean fo) (hf : fo ≠ none) (t : Nat) (ht1 : kd t = 4) (ht2 : AL E t) (x1 : Nat) (hx1a : kd x1 = 1) (hx1b : AL E x1) (x2 : Int32) (x3 : Int32) : ∀ (n : Nat) (x4 : Int32) (σ : HS), f_X4_isBestAhead_16 t x1 x2 x3 n x4 σ = fo → G E F 16 [(0, .ref (E.2.2.1 t)), (1, .ref (E.2.2.1 x1)), (2, .int x2), (3, .int x3), (4, .int x4)] [] σ := by
  intro n
  induction n with
  | zero =>
    intro x4 σ h
    exact absurd (h.symm.trans rfl) hf
  | succ n ih =>
    intro x4 σ h
    refine g_iload hC dX4_isBestAhead_16 4 rfl ?_
    refine g_bipush (v := 8) hC dX4_isBestAhead_18 (by decide) ?_
    refine g_icmp_ge (tgt := 84) hC dX4_isBestAhead_20 (by decide) h (fun c20 h => ?_) (fun c20 h => ?_)
    · refine g_iconst (v := 1) hC dX4_isBestAhead_84 (by decide) ?_
      exact g_iret hC hR dX4_isBestAhead_85 rfl h
    · refine g_aload_n hC dX4_isBestAhead_23 rfl 0 rfl ?_
      refine g_getR (cj := 9) (k := 0) hC cr4 ui_4 ht1 ht2 (by decide) fl_X4_36 rfl rfl dX4_isBestAhead_24 h hf (fun a1 ea1 ka1 na1 h => ?_)
      refine g_iload hC dX4_isBestAhead_27 4 rfl ?_
      obtain ⟨q2, hq2, h⟩ := bd_of h hf
      refine g_cVI (As := [.int x4]) hC hO (c_X9_isIn _ hC.2.2.2.2.2.2.1 a1 ka1 na1 x4 σ (nn_of hq2)) gc_X4_44 (xk_X9_isIn _ (Nat.le_of_ble_eq_true rfl) (Nat.le_of_ble_eq_true rfl)) cr9 ka1 na1 rfl (Nat.le_of_ble_eq_true rfl) dX4_isBestAhead_29 hq2 ?_
      refine g_if_eq (tgt := 78) hC dX4_isBestAhead_32 (by decide) h (fun c32 h => ?_) (fun c32 h => ?_)
      · exact g_sub [0, 1, 2, 3, 4] rfl (k_X4_isBestAhead_78 hC hO hR hf t ht1 ht2 x1 hx1a hx1b x2 x3 x4 (f_X4_isBestAhead_16 t x1 x2 x3 n) ih q2.2 h)
      · refine g_iload hC dX4_isBestAhead_35 4 rfl ?_
        refine g_iload_n hC dX4_isBestAhead_37 rfl 2 rfl ?_
        refine g_icmp_eq (tgt := 78) hC dX4_isBestAhead_38 (by decide) h (fun c38 h => ?_) (fun c38 h => ?_)
        · exact g_sub [0, 1, 2, 3, 4] rfl (k_X4_isBestAhead_78 hC hO hR hf t ht1 ht2 x1 hx1a hx1b x2 x3 x4 (f_X4_isBestAhead_16 t x1 x2 x3 n) ih q2.2 h)
        · refine g_iload hC dX4_isBestAhead_41 4 rfl ?_
          refine g_iload_n hC dX4_isBestAhead_43 rfl 3 rfl ?_
          refine g_icmp_eq (tgt := 78) hC dX4_isBestAhead_44 (by decide) h (fun c44 h => ?_) (fun c44 h => ?_)
          · exact g_sub [0, 1, 2, 3, 4] rfl (k_X4_isBestAhead_78 hC hO hR hf t ht1 ht2 x1 hx1a hx1b x2 x3 x4 (f_X4_isBestAhead_16 t x1 x2 x3 n) ih q2.2 h)
          · refine g_aload_n hC dX4_isBestAhead_47 rfl 0 rfl ?_
            refine g_getR (cj := 9) (k := 0) hC cr4 ui_4 ht1 ht2 (by decide) fl_X4_36 rfl rfl dX4_isBestAhead_48 h hf (fun a3 ea3 ka3 na3 h => ?_)
            refine g_iload_n hC dX4_isBestAhead_51 rfl 2 rfl ?_
            refine g_iload hC dX4_isBestAhead_52 4 rfl ?_
            refine g_aload_n hC dX4_isBestAhead_54 rfl 0 rfl ?_
            refine g_getR (cj := 14) (k := 4) hC cr4 ui_4 ht1 ht2 (by decide) fl_X4_20 rfl rfl dX4_isBestAhead_55 h hf (fun a4 ea4 ka4 na4 h => ?_)
            obtain ⟨q5, hq5, h⟩ := bd_of h hf
            refine g_cVV (As := [.int x2, .int x4, .ref (E.2.2.1 a4)]) hC hO (c_X9_fillLead _ hC.2.2.2.2.2.2.1 a3 ka3 na3 x2 x4 a4 ka4 na4 q2.2 (nn_of hq5)) gc_X4_56 (xk_X9_fillLead _ (Nat.le_of_ble_eq_true rfl) (Nat.le_of_ble_eq_true rfl)) cr9 ka3 na3 rfl (Nat.le_of_ble_eq_true rfl) dX4_isBestAhead_58 hq5 ?_
            refine g_aload_n hC dX4_isBestAhead_61 rfl 1 rfl ?_
            refine g_aload_n hC dX4_isBestAhead_62 rfl 0 rfl ?_
            refine g_getR (cj := 14) (k := 3) hC cr4 ui_4 ht1 ht2 (by decide) fl_X4_16 rfl rfl dX4_isBestAhead_63 h hf (fun a6 ea6 ka6 na6 h => ?_)
            refine g_aload_n hC dX4_isBestAhead_66 rfl 0 rfl ?_
            refine g_getR (cj := 14) (k := 4) hC cr4 ui_4 ht1 ht2 (by decide) fl_X4_20 rfl rfl dX4_isBestAhead_67 h hf (fun a7 ea7 ka7 na7 h => ?_)
            obtain ⟨q8, hq8, h⟩ := bd_of h hf
            refine g_cVI (As := [.ref (E.2.2.1 a6), .ref (E.2.2.1 a7)]) hC hO (c_X1_impliesWith _ hC.2.2.2.2.2.2.1 x1 hx1a hx1b a6 ka6 na6 a7 ka7 na7 q5 (nn_of hq8)) gc_X4_177 (xk_X1_impliesWith _ (Nat.le_of_ble_eq_true rfl) (Nat.le_of_ble_eq_true rfl)) cr1 hx1a hx1b rfl (Nat.le_of_ble_eq_true rfl) dX4_isBestAhead_70 hq8 ?_
            refine g_if_ne (tgt := 78) hC dX4_isBestAhead_73 (by decide) h (fun c73 h => ?_) (fun c73 h => ?_)
            · exact g_sub [0, 1, 2, 3, 4] rfl (k_X4_isBestAhead_78 hC hO hR hf t ht1 ht2 x1 hx1a hx1b x2 x3 x4 (f_X4_isBestAhead_16 t x1 x2 x3 n) ih q8.2 h)
            · refine g_iconst (v := 0) hC dX4_isBestAhead_76 (by decide) ?_
              exact g_iret hC hR dX4_isBestAhead_77 rfl h
set_option maxHeartbeats 4000000 in
set_option maxRecDepth 100000 in
theorem k_X4_isBestAhead_0 {E : ET} {F : FT} {fo : Option (Int32 × HS)} (hC : Cx E F 5 cX4_isBestAhead RX4 GT) (hO : Ro F rm_X4_isBestAhead) (hR : RI E F .boolean fo) (hf : fo ≠ none) (t : Nat) (ht1 : kd t = 4) (ht2 : AL E t) (x1 : Nat) (hx1a : kd x1 = 1) (hx1b : AL E x1) (x2 : Int32) (x3 : Int32) (σ : HS) (h : f_X4_isBestAhead t x1 x2 x3 σ = fo) : G E F 0 [(0, .ref (E.2.2.1 t)), (1, .ref (E.2.2.1 x1)), (2, .int x2), (3, .int x3)] [] σ := by
    refine g_aload_n hC dX4_isBestAhead_0 rfl 0 rfl ?_
    refine g_getR (cj := 9) (k := 0) hC cr4 ui_4 ht1 ht2 (by decide) fl_X4_36 rfl rfl dX4_isBestAhead_1 h hf (fun a1 ea1 ka1 na1 h => ?_)
    refine g_iload_n hC dX4_isBestAhead_4 rfl 2 rfl ?_
    refine g_iload_n hC dX4_isBestAhead_5 rfl 3 rfl ?_
    refine g_aload_n hC dX4_isBestAhead_6 rfl 0 rfl ?_
    refine g_getR (cj := 14) (k := 3) hC cr4 ui_4 ht1 ht2 (by decide) fl_X4_16 rfl rfl dX4_isBestAhead_7 h hf (fun a2 ea2 ka2 na2 h => ?_)
    obtain ⟨q3, hq3, h⟩ := bd_of h hf
    refine g_cVV (As := [.int x2, .int x3, .ref (E.2.2.1 a2)]) hC hO (c_X9_fillLead _ hC.2.2.2.2.2.2.1 a1 ka1 na1 x2 x3 a2 ka2 na2 σ (nn_of hq3)) gc_X4_56 (xk_X9_fillLead _ (Nat.le_of_ble_eq_true rfl) (Nat.le_of_ble_eq_true rfl)) cr9 ka1 na1 rfl (Nat.le_of_ble_eq_true rfl) dX4_isBestAhead_10 hq3 ?_
    refine g_iconst (v := 0) hC dX4_isBestAhead_13 (by decide) ?_
    refine g_istore (lv' := [(4, .int 0), (0, .ref (E.2.2.1 t)), (1, .ref (E.2.2.1 x1)), (2, .int x2), (3, .int x3)]) hC dX4_isBestAhead_14 (by decide) rfl ?_
    exact g_sub [1, 2, 3, 4, 0] rfl (k_X4_isBestAhead_16 hC hO hR hf t ht1 ht2 x1 hx1a hx1b x2 x3 FU 0 q3 h)
theorem xk_X4_isBestAhead (R : Room) (h1 : 2 + 1 ≤ R.frames) (h2 : 120 ≤ R.locals) : xw R yX4_isBestAhead w_X4_isBestAhead GT cX4_isBestAhead 5 (some .boolean) rm_X4_isBestAhead 3 := ⟨rfl, rfl, rfl, h1, h2, ⟨by decide, by decide⟩, by decide +kernel⟩
theorem c_X4_isBestAhead (E : ET) (hE : EO E) (t : Nat) (ht1 : kd t = 4) (ht2 : AL E t) (x1 : Nat) (hx1a : kd x1 = 1) (hx1b : AL E x1) (x2 : Int32) (x3 : Int32) (σ : HS) (hn : f_X4_isBestAhead t x1 x2 x3 σ ≠ none) : CoI E yX4_isBestAhead w_X4_isBestAhead rm_X4_isBestAhead [.ref (E.2.2.1 t), .ref (E.2.2.1 x1), .int x2, .int x3] σ (f_X4_isBestAhead t x1 x2 x3 σ) := CoI.of (lv := [(0, .ref (E.2.2.1 t)), (1, .ref (E.2.2.1 x1)), (2, .int x2), (3, .int x3)]) hE (plainFor_of_name (by decide)) rfl (Nat.le_of_ble_eq_true rfl) rfl (fun F hC hO hR => k_X4_isBestAhead_0 hC hO hR hn t ht1 ht2 x1 hx1a hx1b x2 x3 σ rfl)
def rm_X4_oneQuestionDoes : Room := { frames := 3, cells := 0, slots := 0, locals := 120 }
theorem wc_X4_haveAllCorners : Cond.code yX4_haveAllCorners cX4_haveAllCorners 4 (some .boolean) ∈ GT := gtr_47 _ (List.mem_of_getElem? (i := 15) rfl)
theorem gc_X4_169 : GoodIn GT (wsV RX4 169 RX4 yX4_haveAllCorners w_X4_haveAllCorners) := gi_V (gtr_47 _ (List.mem_of_getElem? (i := 12) rfl)) (gtr_47 _ (List.mem_of_getElem? (i := 13) rfl)) (gtr_47 _ (List.mem_of_getElem? (i := 14) rfl)) (gtr_2 _ (List.mem_of_getElem? (i := 8) rfl)) wc_X4_haveAllCorners
theorem wc_X4_isBestAhead : Cond.code yX4_isBestAhead cX4_isBestAhead 5 (some .boolean) ∈ GT := gtr_47 _ (List.mem_of_getElem? (i := 19) rfl)
theorem gc_X4_173 : GoodIn GT (wsV RX4 173 RX4 yX4_isBestAhead w_X4_isBestAhead) := gi_V (gtr_47 _ (List.mem_of_getElem? (i := 16) rfl)) (gtr_47 _ (List.mem_of_getElem? (i := 17) rfl)) (gtr_47 _ (List.mem_of_getElem? (i := 18) rfl)) (gtr_2 _ (List.mem_of_getElem? (i := 8) rfl)) wc_X4_isBestAhead
set_option maxHeartbeats 4000000 in
set_option maxRecDepth 100000 in
theorem k_X4_oneQuestionDoes_117 {E : ET} {F : FT} {fo : Option (Int32 × HS)} (hC : Cx E F 5 cX4_oneQuestionDoes RX4 GT) (hO : Ro F rm_X4_oneQuestionDoes) (hR : RI E F .boolean fo) (hf : fo ≠ none) (t : Nat) (ht1 : kd t = 4) (ht2 : AL E t) (x1 : Nat) (hx1a : kd x1 = 1) (hx1b : AL E x1) (x2 : Int32) (x3 : Int32) (r30 : Int32 → HS → Option (Int32 × HS)) (h30 : ∀ (x2 : Int32) (σ : HS), r30 x2 σ = fo → G E F 30 [(0, .ref (E.2.2.1 t)), (1, .ref (E.2.2.1 x1)), (2, .int x2)] [] σ) (r40 : Int32 → HS → Option (Int32 × HS)) (h40 : ∀ (x3 : Int32) (σ : HS), r40 x3 σ = fo → G E F 40 [(0, .ref (E.2.2.1 t)), (1, .ref (E.2.2.1 x1)), (2, .int x2), (3, .int x3)] [] σ) (σ : HS) (h : f_X4_oneQuestionDoes_117 r30 r40 t x1 x2 x3 σ = fo) : G E F 117 [(0, .ref (E.2.2.1 t)), (1, .ref (E.2.2.1 x1)), (2, .int x2), (3, .int x3)] [] σ := by
    refine g_iinc (v := x3 + 1) (lv' := [(3, .int (x3 + 1)), (0, .ref (E.2.2.1 t)), (1, .ref (E.2.2.1 x1)), (2, .int x2)]) hC dX4_oneQuestionDoes_117 3 rfl rfl (by decide) rfl ?_
    refine g_goto (tgt := 40) hC dX4_oneQuestionDoes_120 (by decide) ?_
    exact g_sub [1, 2, 3, 0] rfl (h40 (x3 + 1) σ h)
set_option maxHeartbeats 4000000 in
set_option maxRecDepth 100000 in
theorem k_X4_oneQuestionDoes_73 {E : ET} {F : FT} {fo : Option (Int32 × HS)} (hC : Cx E F 5 cX4_oneQuestionDoes RX4 GT) (hO : Ro F rm_X4_oneQuestionDoes) (hR : RI E F .boolean fo) (hf : fo ≠ none) (t : Nat) (ht1 : kd t = 4) (ht2 : AL E t) (x1 : Nat) (hx1a : kd x1 = 1) (hx1b : AL E x1) (x2 : Int32) (x3 : Int32) (s0 : Int32) (r30 : Int32 → HS → Option (Int32 × HS)) (h30 : ∀ (x2 : Int32) (σ : HS), r30 x2 σ = fo → G E F 30 [(0, .ref (E.2.2.1 t)), (1, .ref (E.2.2.1 x1)), (2, .int x2)] [] σ) (r40 : Int32 → HS → Option (Int32 × HS)) (h40 : ∀ (x3 : Int32) (σ : HS), r40 x3 σ = fo → G E F 40 [(0, .ref (E.2.2.1 t)), (1, .ref (E.2.2.1 x1)), (2, .int x2), (3, .int x3)] [] σ) (σ : HS) (h : f_X4_oneQuestionDoes_73 r30 r40 t x1 x2 x3 s0 σ = fo) : G E F 73 [(0, .ref (E.2.2.1 t)), (1, .ref (E.2.2.1 x1)), (2, .int x2), (3, .int x3)] [.int s0] σ := by
    refine g_istore (lv' := [(4, .int s0), (0, .ref (E.2.2.1 t)), (1, .ref (E.2.2.1 x1)), (2, .int x2), (3, .int x3)]) hC dX4_oneQuestionDoes_73 (by decide) rfl ?_
    refine g_iload hC dX4_oneQuestionDoes_75 0 rfl ?_
    refine g_if_eq (tgt := 117) hC dX4_oneQuestionDoes_77 (by decide) h (fun c77 h => ?_) (fun c77 h => ?_)
    · exact g_sub [1, 2, 3, 4] rfl (k_X4_oneQuestionDoes_117 hC hO hR hf t ht1 ht2 x1 hx1a hx1b x2 x3 r30 h30 r40 h40 σ h)
    · refine g_aload_n hC dX4_oneQuestionDoes_80 rfl 1 rfl ?_
      refine g_aload_n hC dX4_oneQuestionDoes_81 rfl 2 rfl ?_
      refine g_iconst (v := 1) hC dX4_oneQuestionDoes_82 (by decide) ?_
      refine g_iload_n hC dX4_oneQuestionDoes_83 rfl 3 rfl ?_
      refine g_ishl hC dX4_oneQuestionDoes_84 ?_
      refine g_iconst (v := 1) hC dX4_oneQuestionDoes_85 (by decide) ?_
      refine g_iload_n hC dX4_oneQuestionDoes_86 rfl 4 rfl ?_
      refine g_ishl hC dX4_oneQuestionDoes_87 ?_
      refine g_ior hC dX4_oneQuestionDoes_88 ?_
      obtain ⟨q1, hq1, h⟩ := bd_of h hf
      refine g_cVI (As := [.ref (E.2.2.1 x1), .int (((1 : Int32) <<< (x2 &&& 31)) ||| ((1 : Int32) <<< (x3 &&& 31)))]) hC hO (c_X4_haveAllCorners _ hC.2.2.2.2.2.2.1 t ht1 ht2 x1 hx1a hx1b (((1 : Int32) <<< (x2 &&& 31)) ||| ((1 : Int32) <<< (x3 &&& 31))) σ (nn_of hq1)) gc_X4_169 (xk_X4_haveAllCorners _ (Nat.le_of_ble_eq_true rfl) (Nat.le_of_ble_eq_true rfl)) cr4 ht1 ht2 rfl (Nat.le_of_ble_eq_true rfl) dX4_oneQuestionDoes_89 hq1 ?_
      refine g_if_eq (tgt := 117) hC dX4_oneQuestionDoes_92 (by decide) h (fun c92 h => ?_) (fun c92 h => ?_)
      · exact g_sub [1, 2, 3, 4] rfl (k_X4_oneQuestionDoes_117 hC hO hR hf t ht1 ht2 x1 hx1a hx1b x2 x3 r30 h30 r40 h40 q1.2 h)
      · refine g_aload_n hC dX4_oneQuestionDoes_95 rfl 1 rfl ?_
        refine g_aload_n hC dX4_oneQuestionDoes_96 rfl 2 rfl ?_
        refine g_iload_n hC dX4_oneQuestionDoes_97 rfl 3 rfl ?_
        refine g_iload_n hC dX4_oneQuestionDoes_98 rfl 4 rfl ?_
        obtain ⟨q2, hq2, h⟩ := bd_of h hf
        refine g_cVI (As := [.ref (E.2.2.1 x1), .int x2, .int x3]) hC hO (c_X4_isBestAhead _ hC.2.2.2.2.2.2.1 t ht1 ht2 x1 hx1a hx1b x2 x3 q1.2 (nn_of hq2)) gc_X4_173 (xk_X4_isBestAhead _ (Nat.le_of_ble_eq_true rfl) (Nat.le_of_ble_eq_true rfl)) cr4 ht1 ht2 rfl (Nat.le_of_ble_eq_true rfl) dX4_oneQuestionDoes_99 hq2 ?_
        refine g_if_eq (tgt := 117) hC dX4_oneQuestionDoes_102 (by decide) h (fun c102 h => ?_) (fun c102 h => ?_)
        · exact g_sub [1, 2, 3, 4] rfl (k_X4_oneQuestionDoes_117 hC hO hR hf t ht1 ht2 x1 hx1a hx1b x2 x3 r30 h30 r40 h40 q2.2 h)
        · refine g_aload_n hC dX4_oneQuestionDoes_105 rfl 1 rfl ?_
          refine g_aload_n hC dX4_oneQuestionDoes_106 rfl 2 rfl ?_
          refine g_iload_n hC dX4_oneQuestionDoes_107 rfl 4 rfl ?_
          refine g_iload_n hC dX4_oneQuestionDoes_108 rfl 3 rfl ?_
          obtain ⟨q3, hq3, h⟩ := bd_of h hf
          refine g_cVI (As := [.ref (E.2.2.1 x1), .int x3, .int x2]) hC hO (c_X4_isBestAhead _ hC.2.2.2.2.2.2.1 t ht1 ht2 x1 hx1a hx1b x3 x2 q2.2 (nn_of hq3)) gc_X4_173 (xk_X4_isBestAhead _ (Nat.le_of_ble_eq_true rfl) (Nat.le_of_ble_eq_true rfl)) cr4 ht1 ht2 rfl (Nat.le_of_ble_eq_true rfl) dX4_oneQuestionDoes_109 hq3 ?_
          refine g_if_eq (tgt := 117) hC dX4_oneQuestionDoes_112 (by decide) h (fun c112 h => ?_) (fun c112 h => ?_)
          · exact g_sub [1, 2, 3, 4] rfl (k_X4_oneQuestionDoes_117 hC hO hR hf t ht1 ht2 x1 hx1a hx1b x2 x3 r30 h30 r40 h40 q3.2 h)
          · refine g_iconst (v := 1) hC dX4_oneQuestionDoes_115 (by decide) ?_
            exact g_iret hC hR dX4_oneQuestionDoes_116 rfl h
set_option maxHeartbeats 4000000 in
set_option maxRecDepth 100000 in
theorem k_X4_oneQuestionDoes_72 {E : ET} {F : FT} {fo : Option (Int32 × HS)} (hC : Cx E F 5 cX4_oneQuestionDoes RX4 GT) (hO : Ro F rm_X4_oneQuestionDoes) (hR : RI E F .boolean fo) (hf : fo ≠ none) (t : Nat) (ht1 : kd t = 4) (ht2 : AL E t) (x1 : Nat) (hx1a : kd x1 = 1) (hx1b : AL E x1) (x2 : Int32) (x3 : Int32) (r30 : Int32 → HS → Option (Int32 × HS)) (h30 : ∀ (x2 : Int32) (σ : HS), r30 x2 σ = fo → G E F 30 [(0, .ref (E.2.2.1 t)), (1, .ref (E.2.2.1 x1)), (2, .int x2)] [] σ) (r40 : Int32 → HS → Option (Int32 × HS)) (h40 : ∀ (x3 : Int32) (σ : HS), r40 x3 σ = fo → G E F 40 [(0, .ref (E.2.2.1 t)), (1, .ref (E.2.2.1 x1)), (2, .int x2), (3, .int x3)] [] σ) (σ : HS) (h : f_X4_oneQuestionDoes_72 r30 r40 t x1 x2 x3 σ = fo) : G E F 72 [(0, .ref (E.2.2.1 t)), (1, .ref (E.2.2.1 x1)), (2, .int x2), (3, .int x3)] [] σ := by
    refine g_iconst (v := 0) hC dX4_oneQuestionDoes_72 (by decide) ?_
    exact g_sub [0, 1, 2, 3] rfl (k_X4_oneQuestionDoes_73 hC hO hR hf t ht1 ht2 x1 hx1a hx1b x2 x3 0 r30 h30 r40 h40 σ h)
set_option maxHeartbeats 4000000 in
set_option maxRecDepth 100000 in
theorem k_X4_oneQuestionDoes_40 {E : ET} {F : FT} {fo : Option (Int32 × HS)} (hC : Cx E F 5 cX4_oneQuestionDoes RX4 GT) (hO : Ro F rm_X4_oneQuestionDoes) (hR : RI E F .boolean fo) (hf : fo ≠ none) (t : Nat) (ht1 : kd t = 4) (ht2 : AL E t) (x1 : Nat) (hx1a : kd x1 = 1) (hx1b : AL E x1) (x2 : Int32) (r30 : Int32 → HS → Option (Int32 × HS)) (h30 : ∀ (x2 : Int32) (σ : HS), r30 x2 σ = fo → G E F 30 [(0, .ref (E.2.2.1 t)), (1, .ref (E.2.2.1 x1)), (2, .int x2)] [] σ) : ∀ (n : Nat) (x3 : Int32) (σ : HS), f_X4_oneQuestionDoes_40 t x1 x2 r30 n x3 σ = fo → G E F 40 [(0, .ref (E.2.2.1 t)), (1, .ref (E.2.2.1 x1)), (2, .int x2), (3, .int x3)] [] σ := by
  intro n
  induction n with
  | zero =>
    intro x3 σ h
    exact absurd (h.symm.trans rfl) hf
  | succ n ih =>
    intro x3 σ h
    refine g_iload_n hC dX4_oneQuestionDoes_40 rfl 3 rfl ?_
    refine g_bipush (v := 8) hC dX4_oneQuestionDoes_41 (by decide) ?_
    refine g_icmp_ge (tgt := 123) hC dX4_oneQuestionDoes_43 (by decide) h (fun c43 h => ?_) (fun c43 h => ?_)
    · refine g_iinc (v := x2 + 1) (lv' := [(2, .int (x2 + 1)), (0, .ref (E.2.2.1 t)), (1, .ref (E.2.2.1 x1)), (3, .int x3)]) hC dX4_oneQuestionDoes_123 2 rfl rfl (by decide) rfl ?_
      refine g_goto (tgt := 30) hC dX4_oneQuestionDoes_126 (by decide) ?_
      exact g_sub [1, 2, 0] rfl (h30 (x2 + 1) σ h)
    · refine g_aload_n hC dX4_oneQuestionDoes_46 rfl 0 rfl ?_
      refine g_getR (cj := 9) (k := 0) hC cr4 ui_4 ht1 ht2 (by decide) fl_X4_36 rfl rfl dX4_oneQuestionDoes_47 h hf (fun a1 ea1 ka1 na1 h => ?_)
      refine g_iload_n hC dX4_oneQuestionDoes_50 rfl 2 rfl ?_
      obtain ⟨q2, hq2, h⟩ := bd_of h hf
      refine g_cVI (As := [.int x2]) hC hO (c_X9_isIn _ hC.2.2.2.2.2.2.1 a1 ka1 na1 x2 σ (nn_of hq2)) gc_X4_44 (xk_X9_isIn _ (Nat.le_of_ble_eq_true rfl) (Nat.le_of_ble_eq_true rfl)) cr9 ka1 na1 rfl (Nat.le_of_ble_eq_true rfl) dX4_oneQuestionDoes_51 hq2 ?_
      refine g_if_eq (tgt := 72) hC dX4_oneQuestionDoes_54 (by decide) h (fun c54 h => ?_) (fun c54 h => ?_)
      · exact g_sub [0, 1, 2, 3] rfl (k_X4_oneQuestionDoes_72 hC hO hR hf t ht1 ht2 x1 hx1a hx1b x2 x3 r30 h30 (f_X4_oneQuestionDoes_40 t x1 x2 r30 n) ih q2.2 h)
      · refine g_aload_n hC dX4_oneQuestionDoes_57 rfl 0 rfl ?_
        refine g_getR (cj := 9) (k := 0) hC cr4 ui_4 ht1 ht2 (by decide) fl_X4_36 rfl rfl dX4_oneQuestionDoes_58 h hf (fun a3 ea3 ka3 na3 h => ?_)
        refine g_iload_n hC dX4_oneQuestionDoes_61 rfl 3 rfl ?_
        obtain ⟨q4, hq4, h⟩ := bd_of h hf
        refine g_cVI (As := [.int x3]) hC hO (c_X9_isIn _ hC.2.2.2.2.2.2.1 a3 ka3 na3 x3 q2.2 (nn_of hq4)) gc_X4_44 (xk_X9_isIn _ (Nat.le_of_ble_eq_true rfl) (Nat.le_of_ble_eq_true rfl)) cr9 ka3 na3 rfl (Nat.le_of_ble_eq_true rfl) dX4_oneQuestionDoes_62 hq4 ?_
        refine g_if_eq (tgt := 72) hC dX4_oneQuestionDoes_65 (by decide) h (fun c65 h => ?_) (fun c65 h => ?_)
        · exact g_sub [0, 1, 2, 3] rfl (k_X4_oneQuestionDoes_72 hC hO hR hf t ht1 ht2 x1 hx1a hx1b x2 x3 r30 h30 (f_X4_oneQuestionDoes_40 t x1 x2 r30 n) ih q4.2 h)
        · refine g_iconst (v := 1) hC dX4_oneQuestionDoes_68 (by decide) ?_
          refine g_goto (tgt := 73) hC dX4_oneQuestionDoes_69 (by decide) ?_
          exact g_sub [0, 1, 2, 3] rfl (k_X4_oneQuestionDoes_73 hC hO hR hf t ht1 ht2 x1 hx1a hx1b x2 x3 1 r30 h30 (f_X4_oneQuestionDoes_40 t x1 x2 r30 n) ih q4.2 h)
set_option maxHeartbeats 4000000 in
set_option maxRecDepth 100000 in
theorem k_X4_oneQuestionDoes_30 {E : ET} {F : FT} {fo : Option (Int32 × HS)} (hC : Cx E F 5 cX4_oneQuestionDoes RX4 GT) (hO : Ro F rm_X4_oneQuestionDoes) (hR : RI E F .boolean fo) (hf : fo ≠ none) (t : Nat) (ht1 : kd t = 4) (ht2 : AL E t) (x1 : Nat) (hx1a : kd x1 = 1) (hx1b : AL E x1) : ∀ (n : Nat) (x2 : Int32) (σ : HS), f_X4_oneQuestionDoes_30 t x1 n x2 σ = fo → G E F 30 [(0, .ref (E.2.2.1 t)), (1, .ref (E.2.2.1 x1)), (2, .int x2)] [] σ := by
  intro n
  induction n with
  | zero =>
    intro x2 σ h
    exact absurd (h.symm.trans rfl) hf
  | succ n ih =>
    intro x2 σ h
    refine g_iload_n hC dX4_oneQuestionDoes_30 rfl 2 rfl ?_
    refine g_bipush (v := 8) hC dX4_oneQuestionDoes_31 (by decide) ?_
    refine g_icmp_ge (tgt := 129) hC dX4_oneQuestionDoes_33 (by decide) h (fun c33 h => ?_) (fun c33 h => ?_)
    · refine g_iconst (v := 0) hC dX4_oneQuestionDoes_129 (by decide) ?_
      exact g_iret hC hR dX4_oneQuestionDoes_130 rfl h
    · refine g_iload_n hC dX4_oneQuestionDoes_36 rfl 2 rfl ?_
      refine g_iconst (v := 1) hC dX4_oneQuestionDoes_37 (by decide) ?_
      refine g_iadd hC dX4_oneQuestionDoes_38 ?_
      refine g_istore_n (lv' := [(3, .int (x2 + 1)), (0, .ref (E.2.2.1 t)), (1, .ref (E.2.2.1 x1)), (2, .int x2)]) hC dX4_oneQuestionDoes_39 rfl (by decide) rfl ?_
      exact g_sub [1, 2, 3, 0] rfl (k_X4_oneQuestionDoes_40 hC hO hR hf t ht1 ht2 x1 hx1a hx1b x2 (f_X4_oneQuestionDoes_30 t x1 n) ih FU (x2 + 1) σ h)
set_option maxHeartbeats 4000000 in
set_option maxRecDepth 100000 in
theorem k_X4_oneQuestionDoes_2 {E : ET} {F : FT} {fo : Option (Int32 × HS)} (hC : Cx E F 5 cX4_oneQuestionDoes RX4 GT) (hO : Ro F rm_X4_oneQuestionDoes) (hR : RI E F .boolean fo) (hf : fo ≠ none) (t : Nat) (ht1 : kd t = 4) (ht2 : AL E t) (x1 : Nat) (hx1a : kd x1 = 1) (hx1b : AL E x1) : ∀ (n : Nat) (x2 : Int32) (σ : HS), f_X4_oneQuestionDoes_2 t x1 n x2 σ = fo → G E F 2 [(0, .ref (E.2.2.1 t)), (1, .ref (E.2.2.1 x1)), (2, .int x2)] [] σ := by
  intro n
  induction n with
  | zero =>
    intro x2 σ h
    exact absurd (h.symm.trans rfl) hf
  | succ n ih =>
    intro x2 σ h
    refine g_iload_n hC dX4_oneQuestionDoes_2 rfl 2 rfl ?_
    refine g_aload_n hC dX4_oneQuestionDoes_3 rfl 1 rfl ?_
    refine g_getI (k := 5) hC cr1 ui_1 hx1a hx1b (by decide) fl_X4_50 rfl rfl dX4_oneQuestionDoes_4 ?_
    refine g_icmp_ge (tgt := 28) hC dX4_oneQuestionDoes_7 (by decide) h (fun c7 h => ?_) (fun c7 h => ?_)
    · refine g_iconst (v := 0) hC dX4_oneQuestionDoes_28 (by decide) ?_
      refine g_istore_n (lv' := [(2, .int 0), (0, .ref (E.2.2.1 t)), (1, .ref (E.2.2.1 x1))]) hC dX4_oneQuestionDoes_29 rfl (by decide) rfl ?_
      exact g_sub [1, 2, 0] rfl (k_X4_oneQuestionDoes_30 hC hO hR hf t ht1 ht2 x1 hx1a hx1b FU 0 σ h)
    · refine g_aload_n hC dX4_oneQuestionDoes_10 rfl 0 rfl ?_
      refine g_getR (cj := 14) (k := 6) hC cr4 ui_4 ht1 ht2 (by decide) fl_X4_27 rfl rfl dX4_oneQuestionDoes_11 h hf (fun a1 ea1 ka1 na1 h => ?_)
      refine g_iload_n hC dX4_oneQuestionDoes_14 rfl 2 rfl ?_
      refine g_aload_n hC dX4_oneQuestionDoes_15 rfl 0 rfl ?_
      refine g_aload_n hC dX4_oneQuestionDoes_16 rfl 1 rfl ?_
      refine g_iload_n hC dX4_oneQuestionDoes_17 rfl 2 rfl ?_
      obtain ⟨q2, hq2, h⟩ := bd_of h hf
      refine g_cVI (As := [.ref (E.2.2.1 x1), .int x2]) hC hO (c_X4_bestByCorner _ hC.2.2.2.2.2.2.1 t ht1 ht2 x1 hx1a hx1b x2 σ (nn_of hq2)) gc_X4_113 (xk_X4_bestByCorner _ (Nat.le_of_ble_eq_true rfl) (Nat.le_of_ble_eq_true rfl)) cr4 ht1 ht2 rfl (Nat.le_of_ble_eq_true rfl) dX4_oneQuestionDoes_18 hq2 ?_
      refine g_iast hC ka1 na1 dX4_oneQuestionDoes_21 h hf (fun h => ?_)
      refine g_iinc (v := x2 + 1) (lv' := [(2, .int (x2 + 1)), (0, .ref (E.2.2.1 t)), (1, .ref (E.2.2.1 x1))]) hC dX4_oneQuestionDoes_22 2 rfl rfl (by decide) rfl ?_
      refine g_goto (tgt := 2) hC dX4_oneQuestionDoes_25 (by decide) ?_
      exact g_sub [1, 2, 0] rfl (ih (x2 + 1) (sI q2.2 a1 x2.toNatClampNeg q2.1) h)
set_option maxHeartbeats 4000000 in
set_option maxRecDepth 100000 in
theorem k_X4_oneQuestionDoes_0 {E : ET} {F : FT} {fo : Option (Int32 × HS)} (hC : Cx E F 5 cX4_oneQuestionDoes RX4 GT) (hO : Ro F rm_X4_oneQuestionDoes) (hR : RI E F .boolean fo) (hf : fo ≠ none) (t : Nat) (ht1 : kd t = 4) (ht2 : AL E t) (x1 : Nat) (hx1a : kd x1 = 1) (hx1b : AL E x1) (σ : HS) (h : f_X4_oneQuestionDoes t x1 σ = fo) : G E F 0 [(0, .ref (E.2.2.1 t)), (1, .ref (E.2.2.1 x1))] [] σ := by
    refine g_iconst (v := 0) hC dX4_oneQuestionDoes_0 (by decide) ?_
    refine g_istore_n (lv' := [(2, .int 0), (0, .ref (E.2.2.1 t)), (1, .ref (E.2.2.1 x1))]) hC dX4_oneQuestionDoes_1 rfl (by decide) rfl ?_
    exact g_sub [1, 2, 0] rfl (k_X4_oneQuestionDoes_2 hC hO hR hf t ht1 ht2 x1 hx1a hx1b FU 0 σ h)
theorem xk_X4_oneQuestionDoes (R : Room) (h1 : 3 + 1 ≤ R.frames) (h2 : 156 ≤ R.locals) : xw R yX4_oneQuestionDoes w_X4_oneQuestionDoes GT cX4_oneQuestionDoes 5 (some .boolean) rm_X4_oneQuestionDoes 1 := ⟨rfl, rfl, rfl, h1, h2, ⟨by decide, by decide⟩, by decide +kernel⟩
theorem c_X4_oneQuestionDoes (E : ET) (hE : EO E) (t : Nat) (ht1 : kd t = 4) (ht2 : AL E t) (x1 : Nat) (hx1a : kd x1 = 1) (hx1b : AL E x1) (σ : HS) (hn : f_X4_oneQuestionDoes t x1 σ ≠ none) : CoI E yX4_oneQuestionDoes w_X4_oneQuestionDoes rm_X4_oneQuestionDoes [.ref (E.2.2.1 t), .ref (E.2.2.1 x1)] σ (f_X4_oneQuestionDoes t x1 σ) := CoI.of (lv := [(0, .ref (E.2.2.1 t)), (1, .ref (E.2.2.1 x1))]) hE (plainFor_of_name (by decide)) rfl (Nat.le_of_ble_eq_true rfl) rfl (fun F hC hO hR => k_X4_oneQuestionDoes_0 hC hO hR hn t ht1 ht2 x1 hx1a hx1b σ rfl)
def rm_X4_oneMoreDoes : Room := { frames := 4, cells := 0, slots := 0, locals := 156 }
theorem wc_X4_oneQuestionDoes : Cond.code yX4_oneQuestionDoes cX4_oneQuestionDoes 5 (some .boolean) ∈ GT := gtr_47 _ (List.mem_of_getElem? (i := 11) rfl)
theorem gc_X4_161 : GoodIn GT (wsV RX4 161 RX4 yX4_oneQuestionDoes w_X4_oneQuestionDoes) := gi_V (gtr_47 _ (List.mem_of_getElem? (i := 8) rfl)) (gtr_47 _ (List.mem_of_getElem? (i := 9) rfl)) (gtr_47 _ (List.mem_of_getElem? (i := 10) rfl)) (gtr_2 _ (List.mem_of_getElem? (i := 8) rfl)) wc_X4_oneQuestionDoes
set_option maxHeartbeats 4000000 in
set_option maxRecDepth 100000 in
theorem k_X4_oneMoreDoes_0 {E : ET} {F : FT} {fo : Option (Int32 × HS)} (hC : Cx E F 3 cX4_oneMoreDoes RX4 GT) (hO : Ro F rm_X4_oneMoreDoes) (hR : RI E F .boolean fo) (hf : fo ≠ none) (t : Nat) (ht1 : kd t = 4) (ht2 : AL E t) (x1 : Int32) (x2 : Int32) (σ : HS) (h : f_X4_oneMoreDoes t x1 x2 σ = fo) : G E F 0 [(0, .ref (E.2.2.1 t)), (1, .int x1), (2, .int x2)] [] σ := by
    refine g_aload_n hC dX4_oneMoreDoes_0 rfl 0 rfl ?_
    refine g_getR (cj := 9) (k := 0) hC cr4 ui_4 ht1 ht2 (by decide) fl_X4_36 rfl rfl dX4_oneMoreDoes_1 h hf (fun a1 ea1 ka1 na1 h => ?_)
    refine g_iload_n hC dX4_oneMoreDoes_4 rfl 1 rfl ?_
    refine g_iload_n hC dX4_oneMoreDoes_5 rfl 2 rfl ?_
    refine g_aload_n hC dX4_oneMoreDoes_6 rfl 0 rfl ?_
    refine g_getR (cj := 14) (k := 3) hC cr4 ui_4 ht1 ht2 (by decide) fl_X4_16 rfl rfl dX4_oneMoreDoes_7 h hf (fun a2 ea2 ka2 na2 h => ?_)
    obtain ⟨q3, hq3, h⟩ := bd_of h hf
    refine g_cVV (As := [.int x1, .int x2, .ref (E.2.2.1 a2)]) hC hO (c_X9_fillLead _ hC.2.2.2.2.2.2.1 a1 ka1 na1 x1 x2 a2 ka2 na2 σ (nn_of hq3)) gc_X4_56 (xk_X9_fillLead _ (Nat.le_of_ble_eq_true rfl) (Nat.le_of_ble_eq_true rfl)) cr9 ka1 na1 rfl (Nat.le_of_ble_eq_true rfl) dX4_oneMoreDoes_10 hq3 ?_
    refine g_aload_n hC dX4_oneMoreDoes_13 rfl 0 rfl ?_
    refine g_getR (cj := 10) (k := 1) hC cr4 ui_4 ht1 ht2 (by decide) fl_X4_40 rfl rfl dX4_oneMoreDoes_14 h hf (fun a4 ea4 ka4 na4 h => ?_)
    refine g_getR (cj := 17) (k := 3) hC cr10 ui_10 ka4 na4 (by decide) fl_X4_124 rfl rfl dX4_oneMoreDoes_17 h hf (fun a5 ea5 ka5 na5 h => ?_)
    refine g_iconst (v := 0) hC dX4_oneMoreDoes_20 (by decide) ?_
    refine g_aaldC (cj := 1) hC ka5 na5 dX4_oneMoreDoes_21 h hf (fun a6 ea6 ka6 na6 h => ?_)
    refine g_aload_n hC dX4_oneMoreDoes_22 rfl 0 rfl ?_
    refine g_getR (cj := 10) (k := 1) hC cr4 ui_4 ht1 ht2 (by decide) fl_X4_40 rfl rfl dX4_oneMoreDoes_23 h hf (fun a7 ea7 ka7 na7 h => ?_)
    refine g_getR (cj := 1) (k := 2) hC cr10 ui_10 ka7 na7 (by decide) fl_X4_64 rfl rfl dX4_oneMoreDoes_26 h hf (fun a8 ea8 ka8 na8 h => ?_)
    refine g_aload_n hC dX4_oneMoreDoes_29 rfl 0 rfl ?_
    refine g_getR (cj := 14) (k := 3) hC cr4 ui_4 ht1 ht2 (by decide) fl_X4_16 rfl rfl dX4_oneMoreDoes_30 h hf (fun a9 ea9 ka9 na9 h => ?_)
    obtain ⟨q10, hq10, h⟩ := bd_of h hf
    refine g_cVV (As := [.ref (E.2.2.1 a8), .ref (E.2.2.1 a9)]) hC hO (c_X1_becomeCut _ hC.2.2.2.2.2.2.1 a6 ka6 na6 a8 ka8 na8 a9 ka9 na9 q3 (nn_of hq10)) gc_X4_131 (xk_X1_becomeCut _ (Nat.le_of_ble_eq_true rfl) (Nat.le_of_ble_eq_true rfl)) cr1 ka6 na6 rfl (Nat.le_of_ble_eq_true rfl) dX4_oneMoreDoes_33 hq10 ?_
    refine g_aload_n hC dX4_oneMoreDoes_36 rfl 0 rfl ?_
    refine g_aload_n hC dX4_oneMoreDoes_37 rfl 0 rfl ?_
    refine g_getR (cj := 10) (k := 1) hC cr4 ui_4 ht1 ht2 (by decide) fl_X4_40 rfl rfl dX4_oneMoreDoes_38 h hf (fun a11 ea11 ka11 na11 h => ?_)
    refine g_getR (cj := 17) (k := 3) hC cr10 ui_10 ka11 na11 (by decide) fl_X4_124 rfl rfl dX4_oneMoreDoes_41 h hf (fun a12 ea12 ka12 na12 h => ?_)
    refine g_iconst (v := 0) hC dX4_oneMoreDoes_44 (by decide) ?_
    refine g_aaldC (cj := 1) hC ka12 na12 dX4_oneMoreDoes_45 h hf (fun a13 ea13 ka13 na13 h => ?_)
    obtain ⟨q14, hq14, h⟩ := bd_of h hf
    refine g_cVI (As := [.ref (E.2.2.1 a13)]) hC hO (c_X4_oneQuestionDoes _ hC.2.2.2.2.2.2.1 t ht1 ht2 a13 ka13 na13 q10 (nn_of hq14)) gc_X4_161 (xk_X4_oneQuestionDoes _ (Nat.le_of_ble_eq_true rfl) (Nat.le_of_ble_eq_true rfl)) cr4 ht1 ht2 rfl (Nat.le_of_ble_eq_true rfl) dX4_oneMoreDoes_46 hq14 ?_
    obtain ⟨hz, h⟩ := zr_of h hf
    exact g_iret hC hR dX4_oneMoreDoes_49 hz h
theorem xk_X4_oneMoreDoes (R : Room) (h1 : 4 + 1 ≤ R.frames) (h2 : 190 ≤ R.locals) : xw R yX4_oneMoreDoes w_X4_oneMoreDoes GT cX4_oneMoreDoes 3 (some .boolean) rm_X4_oneMoreDoes 2 := ⟨rfl, rfl, rfl, h1, h2, ⟨by decide, by decide⟩, by decide +kernel⟩
theorem c_X4_oneMoreDoes (E : ET) (hE : EO E) (t : Nat) (ht1 : kd t = 4) (ht2 : AL E t) (x1 : Int32) (x2 : Int32) (σ : HS) (hn : f_X4_oneMoreDoes t x1 x2 σ ≠ none) : CoI E yX4_oneMoreDoes w_X4_oneMoreDoes rm_X4_oneMoreDoes [.ref (E.2.2.1 t), .int x1, .int x2] σ (f_X4_oneMoreDoes t x1 x2 σ) := CoI.of (lv := [(0, .ref (E.2.2.1 t)), (1, .int x1), (2, .int x2)]) hE (plainFor_of_name (by decide)) rfl (Nat.le_of_ble_eq_true rfl) rfl (fun F hC hO hR => k_X4_oneMoreDoes_0 hC hO hR hn t ht1 ht2 x1 x2 σ rfl)
def rm_X4_fewQuestions : Room := { frames := 5, cells := 0, slots := 0, locals := 190 }
theorem gc_X4_157 : GoodIn GT (wsV RX4 157 RX4 yX4_surelyBest w_X4_surelyBest) := gi_V (gtr_47 _ (List.mem_of_getElem? (i := 7) rfl)) (gtr_41 _ (List.mem_of_getElem? (i := 11) rfl)) (gtr_41 _ (List.mem_of_getElem? (i := 12) rfl)) (gtr_2 _ (List.mem_of_getElem? (i := 8) rfl)) wc_X4_surelyBest
theorem wc_X4_oneMoreDoes : Cond.code yX4_oneMoreDoes cX4_oneMoreDoes 3 (some .boolean) ∈ GT := gtr_48 _ (List.mem_of_getElem? (i := 0) rfl)
theorem gc_X4_165 : GoodIn GT (wsV RX4 165 RX4 yX4_oneMoreDoes w_X4_oneMoreDoes) := gi_V (gtr_47 _ (List.mem_of_getElem? (i := 21) rfl)) (gtr_47 _ (List.mem_of_getElem? (i := 22) rfl)) (gtr_47 _ (List.mem_of_getElem? (i := 23) rfl)) (gtr_2 _ (List.mem_of_getElem? (i := 8) rfl)) wc_X4_oneMoreDoes
set_option maxHeartbeats 4000000 in
set_option maxRecDepth 100000 in
theorem k_X4_fewQuestions_102 {E : ET} {F : FT} {fo : Option (Int32 × HS)} (hC : Cx E F 4 cX4_fewQuestions RX4 GT) (hO : Ro F rm_X4_fewQuestions) (hR : RI E F .int fo) (hf : fo ≠ none) (t : Nat) (ht1 : kd t = 4) (ht2 : AL E t) (x1 : Int32) (x2 : Int32) (r34 : Int32 → HS → Option (Int32 × HS)) (h34 : ∀ (x1 : Int32) (σ : HS), r34 x1 σ = fo → G E F 34 [(0, .ref (E.2.2.1 t)), (1, .int x1)] [] σ) (r44 : Int32 → HS → Option (Int32 × HS)) (h44 : ∀ (x2 : Int32) (σ : HS), r44 x2 σ = fo → G E F 44 [(0, .ref (E.2.2.1 t)), (1, .int x1), (2, .int x2)] [] σ) (σ : HS) (h : f_X4_fewQuestions_102 r34 r44 t x1 x2 σ = fo) : G E F 102 [(0, .ref (E.2.2.1 t)), (1, .int x1), (2, .int x2)] [] σ := by
    refine g_iinc (v := x2 + 1) (lv' := [(2, .int (x2 + 1)), (0, .ref (E.2.2.1 t)), (1, .int x1)]) hC dX4_fewQuestions_102 2 rfl rfl (by decide) rfl ?_
    refine g_goto (tgt := 44) hC dX4_fewQuestions_105 (by decide) ?_
    exact g_sub [1, 2, 0] rfl (h44 (x2 + 1) σ h)
set_option maxHeartbeats 4000000 in
set_option maxRecDepth 100000 in
theorem k_X4_fewQuestions_77 {E : ET} {F : FT} {fo : Option (Int32 × HS)} (hC : Cx E F 4 cX4_fewQuestions RX4 GT) (hO : Ro F rm_X4_fewQuestions) (hR : RI E F .int fo) (hf : fo ≠ none) (t : Nat) (ht1 : kd t = 4) (ht2 : AL E t) (x1 : Int32) (x2 : Int32) (s0 : Int32) (r34 : Int32 → HS → Option (Int32 × HS)) (h34 : ∀ (x1 : Int32) (σ : HS), r34 x1 σ = fo → G E F 34 [(0, .ref (E.2.2.1 t)), (1, .int x1)] [] σ) (r44 : Int32 → HS → Option (Int32 × HS)) (h44 : ∀ (x2 : Int32) (σ : HS), r44 x2 σ = fo → G E F 44 [(0, .ref (E.2.2.1 t)), (1, .int x1), (2, .int x2)] [] σ) (σ : HS) (h : f_X4_fewQuestions_77 r34 r44 t x1 x2 s0 σ = fo) : G E F 77 [(0, .ref (E.2.2.1 t)), (1, .int x1), (2, .int x2)] [.int s0] σ := by
    refine g_istore_n (lv' := [(3, .int s0), (0, .ref (E.2.2.1 t)), (1, .int x1), (2, .int x2)]) hC dX4_fewQuestions_77 rfl (by decide) rfl ?_
    refine g_iload_n hC dX4_fewQuestions_78 rfl 0 rfl ?_
    refine g_if_eq (tgt := 102) hC dX4_fewQuestions_79 (by decide) h (fun c79 h => ?_) (fun c79 h => ?_)
    · exact g_sub [1, 2, 3] rfl (k_X4_fewQuestions_102 hC hO hR hf t ht1 ht2 x1 x2 r34 h34 r44 h44 σ h)
    · refine g_aload_n hC dX4_fewQuestions_82 rfl 1 rfl ?_
      refine g_iload_n hC dX4_fewQuestions_83 rfl 2 rfl ?_
      refine g_iload_n hC dX4_fewQuestions_84 rfl 3 rfl ?_
      obtain ⟨q1, hq1, h⟩ := bd_of h hf
      refine g_cVI (As := [.int x1, .int x2]) hC hO (c_X4_oneMoreDoes _ hC.2.2.2.2.2.2.1 t ht1 ht2 x1 x2 σ (nn_of hq1)) gc_X4_165 (xk_X4_oneMoreDoes _ (Nat.le_of_ble_eq_true rfl) (Nat.le_of_ble_eq_true rfl)) cr4 ht1 ht2 rfl (Nat.le_of_ble_eq_true rfl) dX4_fewQuestions_85 hq1 ?_
      refine g_if_eq (tgt := 102) hC dX4_fewQuestions_88 (by decide) h (fun c88 h => ?_) (fun c88 h => ?_)
      · exact g_sub [1, 2, 3] rfl (k_X4_fewQuestions_102 hC hO hR hf t ht1 ht2 x1 x2 r34 h34 r44 h44 q1.2 h)
      · refine g_aload_n hC dX4_fewQuestions_91 rfl 1 rfl ?_
        refine g_iload_n hC dX4_fewQuestions_92 rfl 3 rfl ?_
        refine g_iload_n hC dX4_fewQuestions_93 rfl 2 rfl ?_
        obtain ⟨q2, hq2, h⟩ := bd_of h hf
        refine g_cVI (As := [.int x2, .int x1]) hC hO (c_X4_oneMoreDoes _ hC.2.2.2.2.2.2.1 t ht1 ht2 x2 x1 q1.2 (nn_of hq2)) gc_X4_165 (xk_X4_oneMoreDoes _ (Nat.le_of_ble_eq_true rfl) (Nat.le_of_ble_eq_true rfl)) cr4 ht1 ht2 rfl (Nat.le_of_ble_eq_true rfl) dX4_fewQuestions_94 hq2 ?_
        refine g_if_eq (tgt := 102) hC dX4_fewQuestions_97 (by decide) h (fun c97 h => ?_) (fun c97 h => ?_)
        · exact g_sub [1, 2, 3] rfl (k_X4_fewQuestions_102 hC hO hR hf t ht1 ht2 x1 x2 r34 h34 r44 h44 q2.2 h)
        · refine g_iconst (v := 2) hC dX4_fewQuestions_100 (by decide) ?_
          exact g_iret hC hR dX4_fewQuestions_101 rfl h
set_option maxHeartbeats 4000000 in
set_option maxRecDepth 100000 in
theorem k_X4_fewQuestions_76 {E : ET} {F : FT} {fo : Option (Int32 × HS)} (hC : Cx E F 4 cX4_fewQuestions RX4 GT) (hO : Ro F rm_X4_fewQuestions) (hR : RI E F .int fo) (hf : fo ≠ none) (t : Nat) (ht1 : kd t = 4) (ht2 : AL E t) (x1 : Int32) (x2 : Int32) (r34 : Int32 → HS → Option (Int32 × HS)) (h34 : ∀ (x1 : Int32) (σ : HS), r34 x1 σ = fo → G E F 34 [(0, .ref (E.2.2.1 t)), (1, .int x1)] [] σ) (r44 : Int32 → HS → Option (Int32 × HS)) (h44 : ∀ (x2 : Int32) (σ : HS), r44 x2 σ = fo → G E F 44 [(0, .ref (E.2.2.1 t)), (1, .int x1), (2, .int x2)] [] σ) (σ : HS) (h : f_X4_fewQuestions_76 r34 r44 t x1 x2 σ = fo) : G E F 76 [(0, .ref (E.2.2.1 t)), (1, .int x1), (2, .int x2)] [] σ := by
    refine g_iconst (v := 0) hC dX4_fewQuestions_76 (by decide) ?_
    exact g_sub [0, 1, 2] rfl (k_X4_fewQuestions_77 hC hO hR hf t ht1 ht2 x1 x2 0 r34 h34 r44 h44 σ h)
set_option maxHeartbeats 4000000 in
set_option maxRecDepth 100000 in
theorem k_X4_fewQuestions_44 {E : ET} {F : FT} {fo : Option (Int32 × HS)} (hC : Cx E F 4 cX4_fewQuestions RX4 GT) (hO : Ro F rm_X4_fewQuestions) (hR : RI E F .int fo) (hf : fo ≠ none) (t : Nat) (ht1 : kd t = 4) (ht2 : AL E t) (x1 : Int32) (r34 : Int32 → HS → Option (Int32 × HS)) (h34 : ∀ (x1 : Int32) (σ : HS), r34 x1 σ = fo → G E F 34 [(0, .ref (E.2.2.1 t)), (1, .int x1)] [] σ) : ∀ (n : Nat) (x2 : Int32) (σ : HS), f_X4_fewQuestions_44 t x1 r34 n x2 σ = fo → G E F 44 [(0, .ref (E.2.2.1 t)), (1, .int x1), (2, .int x2)] [] σ := by
  intro n
  induction n with
  | zero =>
    intro x2 σ h
    exact absurd (h.symm.trans rfl) hf
  | succ n ih =>
    intro x2 σ h
    refine g_iload_n hC dX4_fewQuestions_44 rfl 2 rfl ?_
    refine g_bipush (v := 8) hC dX4_fewQuestions_45 (by decide) ?_
    refine g_icmp_ge (tgt := 108) hC dX4_fewQuestions_47 (by decide) h (fun c47 h => ?_) (fun c47 h => ?_)
    · refine g_iinc (v := x1 + 1) (lv' := [(1, .int (x1 + 1)), (0, .ref (E.2.2.1 t)), (2, .int x2)]) hC dX4_fewQuestions_108 1 rfl rfl (by decide) rfl ?_
      refine g_goto (tgt := 34) hC dX4_fewQuestions_111 (by decide) ?_
      exact g_sub [1, 0] rfl (h34 (x1 + 1) σ h)
    · refine g_aload_n hC dX4_fewQuestions_50 rfl 0 rfl ?_
      refine g_getR (cj := 9) (k := 0) hC cr4 ui_4 ht1 ht2 (by decide) fl_X4_36 rfl rfl dX4_fewQuestions_51 h hf (fun a1 ea1 ka1 na1 h => ?_)
      refine g_iload_n hC dX4_fewQuestions_54 rfl 1 rfl ?_
      obtain ⟨q2, hq2, h⟩ := bd_of h hf
      refine g_cVI (As := [.int x1]) hC hO (c_X9_isIn _ hC.2.2.2.2.2.2.1 a1 ka1 na1 x1 σ (nn_of hq2)) gc_X4_44 (xk_X9_isIn _ (Nat.le_of_ble_eq_true rfl) (Nat.le_of_ble_eq_true rfl)) cr9 ka1 na1 rfl (Nat.le_of_ble_eq_true rfl) dX4_fewQuestions_55 hq2 ?_
      refine g_if_eq (tgt := 76) hC dX4_fewQuestions_58 (by decide) h (fun c58 h => ?_) (fun c58 h => ?_)
      · exact g_sub [0, 1, 2] rfl (k_X4_fewQuestions_76 hC hO hR hf t ht1 ht2 x1 x2 r34 h34 (f_X4_fewQuestions_44 t x1 r34 n) ih q2.2 h)
      · refine g_aload_n hC dX4_fewQuestions_61 rfl 0 rfl ?_
        refine g_getR (cj := 9) (k := 0) hC cr4 ui_4 ht1 ht2 (by decide) fl_X4_36 rfl rfl dX4_fewQuestions_62 h hf (fun a3 ea3 ka3 na3 h => ?_)
        refine g_iload_n hC dX4_fewQuestions_65 rfl 2 rfl ?_
        obtain ⟨q4, hq4, h⟩ := bd_of h hf
        refine g_cVI (As := [.int x2]) hC hO (c_X9_isIn _ hC.2.2.2.2.2.2.1 a3 ka3 na3 x2 q2.2 (nn_of hq4)) gc_X4_44 (xk_X9_isIn _ (Nat.le_of_ble_eq_true rfl) (Nat.le_of_ble_eq_true rfl)) cr9 ka3 na3 rfl (Nat.le_of_ble_eq_true rfl) dX4_fewQuestions_66 hq4 ?_
        refine g_if_eq (tgt := 76) hC dX4_fewQuestions_69 (by decide) h (fun c69 h => ?_) (fun c69 h => ?_)
        · exact g_sub [0, 1, 2] rfl (k_X4_fewQuestions_76 hC hO hR hf t ht1 ht2 x1 x2 r34 h34 (f_X4_fewQuestions_44 t x1 r34 n) ih q4.2 h)
        · refine g_iconst (v := 1) hC dX4_fewQuestions_72 (by decide) ?_
          refine g_goto (tgt := 77) hC dX4_fewQuestions_73 (by decide) ?_
          exact g_sub [0, 1, 2] rfl (k_X4_fewQuestions_77 hC hO hR hf t ht1 ht2 x1 x2 1 r34 h34 (f_X4_fewQuestions_44 t x1 r34 n) ih q4.2 h)
set_option maxHeartbeats 4000000 in
set_option maxRecDepth 100000 in
theorem k_X4_fewQuestions_34 {E : ET} {F : FT} {fo : Option (Int32 × HS)} (hC : Cx E F 4 cX4_fewQuestions RX4 GT) (hO : Ro F rm_X4_fewQuestions) (hR : RI E F .int fo) (hf : fo ≠ none) (t : Nat) (ht1 : kd t = 4) (ht2 : AL E t) : ∀ (n : Nat) (x1 : Int32) (σ : HS), f_X4_fewQuestions_34 t n x1 σ = fo → G E F 34 [(0, .ref (E.2.2.1 t)), (1, .int x1)] [] σ := by
  intro n
  induction n with
  | zero =>
    intro x1 σ h
    exact absurd (h.symm.trans rfl) hf
  | succ n ih =>
    intro x1 σ h
    refine g_iload_n hC dX4_fewQuestions_34 rfl 1 rfl ?_
    refine g_bipush (v := 8) hC dX4_fewQuestions_35 (by decide) ?_
    refine g_icmp_ge (tgt := 114) hC dX4_fewQuestions_37 (by decide) h (fun c37 h => ?_) (fun c37 h => ?_)
    · refine g_iconst (v := (-1)) hC dX4_fewQuestions_114 (by decide) ?_
      exact g_iret hC hR dX4_fewQuestions_115 rfl h
    · refine g_iload_n hC dX4_fewQuestions_40 rfl 1 rfl ?_
      refine g_iconst (v := 1) hC dX4_fewQuestions_41 (by decide) ?_
      refine g_iadd hC dX4_fewQuestions_42 ?_
      refine g_istore_n (lv' := [(2, .int (x1 + 1)), (0, .ref (E.2.2.1 t)), (1, .int x1)]) hC dX4_fewQuestions_43 rfl (by decide) rfl ?_
      exact g_sub [1, 2, 0] rfl (k_X4_fewQuestions_44 hC hO hR hf t ht1 ht2 x1 (f_X4_fewQuestions_34 t n) ih FU (x1 + 1) σ h)
set_option maxHeartbeats 4000000 in
set_option maxRecDepth 100000 in
theorem k_X4_fewQuestions_0 {E : ET} {F : FT} {fo : Option (Int32 × HS)} (hC : Cx E F 4 cX4_fewQuestions RX4 GT) (hO : Ro F rm_X4_fewQuestions) (hR : RI E F .int fo) (hf : fo ≠ none) (t : Nat) (ht1 : kd t = 4) (ht2 : AL E t) (σ : HS) (h : f_X4_fewQuestions t σ = fo) : G E F 0 [(0, .ref (E.2.2.1 t))] [] σ := by
    refine g_aload_n hC dX4_fewQuestions_0 rfl 0 rfl ?_
    refine g_aload_n hC dX4_fewQuestions_1 rfl 0 rfl ?_
    refine g_getR (cj := 10) (k := 1) hC cr4 ui_4 ht1 ht2 (by decide) fl_X4_40 rfl rfl dX4_fewQuestions_2 h hf (fun a1 ea1 ka1 na1 h => ?_)
    refine g_getR (cj := 1) (k := 2) hC cr10 ui_10 ka1 na1 (by decide) fl_X4_64 rfl rfl dX4_fewQuestions_5 h hf (fun a2 ea2 ka2 na2 h => ?_)
    obtain ⟨q3, hq3, h⟩ := bd_of h hf
    refine g_cVI (As := [.ref (E.2.2.1 a2)]) hC hO (c_X4_surelyBest _ hC.2.2.2.2.2.2.1 t ht1 ht2 a2 ka2 na2 σ (nn_of hq3)) gc_X4_157 (xk_X4_surelyBest _ (Nat.le_of_ble_eq_true rfl) (Nat.le_of_ble_eq_true rfl)) cr4 ht1 ht2 rfl (Nat.le_of_ble_eq_true rfl) dX4_fewQuestions_8 hq3 ?_
    refine g_if_eq (tgt := 16) hC dX4_fewQuestions_11 (by decide) h (fun c11 h => ?_) (fun c11 h => ?_)
    · refine g_aload_n hC dX4_fewQuestions_16 rfl 0 rfl ?_
      refine g_aload_n hC dX4_fewQuestions_17 rfl 0 rfl ?_
      refine g_getR (cj := 10) (k := 1) hC cr4 ui_4 ht1 ht2 (by decide) fl_X4_40 rfl rfl dX4_fewQuestions_18 h hf (fun a4 ea4 ka4 na4 h => ?_)
      refine g_getR (cj := 1) (k := 2) hC cr10 ui_10 ka4 na4 (by decide) fl_X4_64 rfl rfl dX4_fewQuestions_21 h hf (fun a5 ea5 ka5 na5 h => ?_)
      obtain ⟨q6, hq6, h⟩ := bd_of h hf
      refine g_cVI (As := [.ref (E.2.2.1 a5)]) hC hO (c_X4_oneQuestionDoes _ hC.2.2.2.2.2.2.1 t ht1 ht2 a5 ka5 na5 q3.2 (nn_of hq6)) gc_X4_161 (xk_X4_oneQuestionDoes _ (Nat.le_of_ble_eq_true rfl) (Nat.le_of_ble_eq_true rfl)) cr4 ht1 ht2 rfl (Nat.le_of_ble_eq_true rfl) dX4_fewQuestions_24 hq6 ?_
      refine g_if_eq (tgt := 32) hC dX4_fewQuestions_27 (by decide) h (fun c27 h => ?_) (fun c27 h => ?_)
      · refine g_iconst (v := 0) hC dX4_fewQuestions_32 (by decide) ?_
        refine g_istore_n (lv' := [(1, .int 0), (0, .ref (E.2.2.1 t))]) hC dX4_fewQuestions_33 rfl (by decide) rfl ?_
        exact g_sub [1, 0] rfl (k_X4_fewQuestions_34 hC hO hR hf t ht1 ht2 FU 0 q6.2 h)
      · refine g_iconst (v := 1) hC dX4_fewQuestions_30 (by decide) ?_
        exact g_iret hC hR dX4_fewQuestions_31 rfl h
    · refine g_iconst (v := 0) hC dX4_fewQuestions_14 (by decide) ?_
      exact g_iret hC hR dX4_fewQuestions_15 rfl h
theorem xk_X4_fewQuestions (R : Room) (h1 : 5 + 1 ≤ R.frames) (h2 : 225 ≤ R.locals) : xw R yX4_fewQuestions w_X4_fewQuestions GT cX4_fewQuestions 4 (some .int) rm_X4_fewQuestions 0 := ⟨rfl, rfl, rfl, h1, h2, ⟨by decide, by decide⟩, by decide +kernel⟩
theorem c_X4_fewQuestions (E : ET) (hE : EO E) (t : Nat) (ht1 : kd t = 4) (ht2 : AL E t) (σ : HS) (hn : f_X4_fewQuestions t σ ≠ none) : CoI E yX4_fewQuestions w_X4_fewQuestions rm_X4_fewQuestions [.ref (E.2.2.1 t)] σ (f_X4_fewQuestions t σ) := CoI.of (lv := [(0, .ref (E.2.2.1 t))]) hE (plainFor_of_name (by decide)) rfl (Nat.le_of_ble_eq_true rfl) rfl (fun F hC hO hR => k_X4_fewQuestions_0 hC hO hR hn t ht1 ht2 σ rfl)
def rm_X4_needToBeSure : Room := { frames := 1, cells := 0, slots := 0, locals := 37 }
theorem gc_X4_181 : GoodIn GT (wsV RX4 181 RX1 yX1_weight w_X1_weight) := gi_V (gtr_49 _ (List.mem_of_getElem? (i := 4) rfl)) (gtr_24 _ (List.mem_of_getElem? (i := 20) rfl)) (gtr_24 _ (List.mem_of_getElem? (i := 21) rfl)) (gtr_4 _ (List.mem_of_getElem? (i := 21) rfl)) wc_X1_weight
theorem wc_J9_floorDiv_f86c9 : Cond.code yJ9_floorDiv_f86c9 cJ9_floorDiv_f86c9 6 (some .long) ∈ GT := gtr_49 _ (List.mem_of_getElem? (i := 8) rfl)
theorem gc_X4_185 : GoodIn GT (va_wsS RX4 185 yJ9_floorDiv_f86c9 w_J9_floorDiv_f86c9) := gi_S (gtr_49 _ (List.mem_of_getElem? (i := 5) rfl)) (gtr_49 _ (List.mem_of_getElem? (i := 6) rfl)) (gtr_49 _ (List.mem_of_getElem? (i := 7) rfl)) wc_J9_floorDiv_f86c9
theorem wc_J9_max_f86c9 : Cond.code yJ9_max_f86c9 cJ9_max_f86c9 4 (some .long) ∈ GT := gtr_49 _ (List.mem_of_getElem? (i := 3) rfl)
theorem gc_X4_189 : GoodIn GT (va_wsS RX4 189 yJ9_max_f86c9 w_J9_max_f86c9) := gi_S (gtr_49 _ (List.mem_of_getElem? (i := 1) rfl)) (gtr_49 _ (List.mem_of_getElem? (i := 2) rfl)) (gtr_49 _ (List.mem_of_getElem? (i := 7) rfl)) wc_J9_max_f86c9
set_option maxHeartbeats 4000000 in
set_option maxRecDepth 100000 in
theorem k_X4_needToBeSure_163 {E : ET} {F : FT} {fo : Option (Int32 × HS)} (hC : Cx E F 11 cX4_needToBeSure RX4 GT) (hO : Ro F rm_X4_needToBeSure) (hR : RI E F .int fo) (hf : fo ≠ none) (s0 : Int32) (σ : HS) (h : f_X4_needToBeSure_163 s0 σ = fo) : G E F 163 [] [.int s0] σ := by
    exact g_iret hC hR dX4_needToBeSure_163 rfl h
set_option maxHeartbeats 4000000 in
set_option maxRecDepth 100000 in
theorem k_X4_needToBeSure_131 {E : ET} {F : FT} {fo : Option (Int32 × HS)} (hC : Cx E F 11 cX4_needToBeSure RX4 GT) (hO : Ro F rm_X4_needToBeSure) (hR : RI E F .int fo) (hf : fo ≠ none) (t : Nat) (ht1 : kd t = 4) (ht2 : AL E t) (x1 : Int32) (x2 : Int32) (x3 : Int64) (x5 : Int32) (r5 : Int64 → Int32 → HS → Option (Int32 × HS)) (h5 : ∀ (x3 : Int64) (x5 : Int32) (σ : HS), r5 x3 x5 σ = fo → G E F 5 [(0, .ref (E.2.2.1 t)), (1, .int x1), (2, .int x2), (3, .long x3), (5, .int x5)] [] σ) (σ : HS) (h : f_X4_needToBeSure_131 r5 t x1 x2 x3 x5 σ = fo) : G E F 131 [(0, .ref (E.2.2.1 t)), (1, .int x1), (2, .int x2), (3, .long x3), (5, .int x5)] [] σ := by
    refine g_iinc (v := x5 + 1) (lv' := [(5, .int (x5 + 1)), (0, .ref (E.2.2.1 t)), (1, .int x1), (2, .int x2), (3, .long x3)]) hC dX4_needToBeSure_131 4 rfl rfl (by decide) rfl ?_
    refine g_goto (tgt := 5) hC dX4_needToBeSure_134 (by decide) ?_
    exact g_sub [1, 2, 3, 4, 0] rfl (h5 x3 (x5 + 1) σ h)
set_option maxHeartbeats 4000000 in
set_option maxRecDepth 100000 in
theorem k_X4_needToBeSure_125 {E : ET} {F : FT} {fo : Option (Int32 × HS)} (hC : Cx E F 11 cX4_needToBeSure RX4 GT) (hO : Ro F rm_X4_needToBeSure) (hR : RI E F .int fo) (hf : fo ≠ none) (t : Nat) (ht1 : kd t = 4) (ht2 : AL E t) (x1 : Int32) (x2 : Int32) (x3 : Int64) (x5 : Int32) (x6 : Int32) (r5 : Int64 → Int32 → HS → Option (Int32 × HS)) (h5 : ∀ (x3 : Int64) (x5 : Int32) (σ : HS), r5 x3 x5 σ = fo → G E F 5 [(0, .ref (E.2.2.1 t)), (1, .int x1), (2, .int x2), (3, .long x3), (5, .int x5)] [] σ) (r41 : Int64 → Int32 → HS → Option (Int32 × HS)) (h41 : ∀ (x3 : Int64) (x6 : Int32) (σ : HS), r41 x3 x6 σ = fo → G E F 41 [(0, .ref (E.2.2.1 t)), (1, .int x1), (2, .int x2), (3, .long x3), (5, .int x5), (6, .int x6)] [] σ) (σ : HS) (h : f_X4_needToBeSure_125 r5 r41 t x1 x2 x3 x5 x6 σ = fo) : G E F 125 [(0, .ref (E.2.2.1 t)), (1, .int x1), (2, .int x2), (3, .long x3), (5, .int x5), (6, .int x6)] [] σ := by
    refine g_iinc (v := x6 + 1) (lv' := [(6, .int (x6 + 1)), (0, .ref (E.2.2.1 t)), (1, .int x1), (2, .int x2), (3, .long x3), (5, .int x5)]) hC dX4_needToBeSure_125 5 rfl rfl (by decide) rfl ?_
    refine g_goto (tgt := 41) hC dX4_needToBeSure_128 (by decide) ?_
    exact g_sub [1, 2, 3, 4, 5, 0] rfl (h41 x3 (x6 + 1) σ h)
set_option maxHeartbeats 4000000 in
set_option maxRecDepth 100000 in
theorem k_X4_needToBeSure_105 {E : ET} {F : FT} {fo : Option (Int32 × HS)} (hC : Cx E F 11 cX4_needToBeSure RX4 GT) (hO : Ro F rm_X4_needToBeSure) (hR : RI E F .int fo) (hf : fo ≠ none) (t : Nat) (ht1 : kd t = 4) (ht2 : AL E t) (x1 : Int32) (x2 : Int32) (x3 : Int64) (x5 : Int32) (x6 : Int32) (x7 : Int64) (x9 : Int64) (r5 : Int64 → Int32 → HS → Option (Int32 × HS)) (h5 : ∀ (x3 : Int64) (x5 : Int32) (σ : HS), r5 x3 x5 σ = fo → G E F 5 [(0, .ref (E.2.2.1 t)), (1, .int x1), (2, .int x2), (3, .long x3), (5, .int x5)] [] σ) (r41 : Int64 → Int32 → HS → Option (Int32 × HS)) (h41 : ∀ (x3 : Int64) (x6 : Int32) (σ : HS), r41 x3 x6 σ = fo → G E F 41 [(0, .ref (E.2.2.1 t)), (1, .int x1), (2, .int x2), (3, .long x3), (5, .int x5), (6, .int x6)] [] σ) (σ : HS) (h : f_X4_needToBeSure_105 r5 r41 t x1 x2 x3 x5 x6 x7 x9 σ = fo) : G E F 105 [(0, .ref (E.2.2.1 t)), (1, .int x1), (2, .int x2), (3, .long x3), (5, .int x5), (6, .int x6), (7, .long x7), (9, .long x9)] [] σ := by
    refine g_lload hC dX4_needToBeSure_105 6 rfl ?_
    refine g_lconst (v := 0) hC dX4_needToBeSure_107 (by decide) ?_
    refine g_lc_ge (tgt := 125) hC dX4_needToBeSure_108 dX4_needToBeSure_109 (by decide) h (fun c108 h => ?_) (fun c108 h => ?_)
    · exact g_sub [0, 1, 2, 3, 4, 5] rfl (k_X4_needToBeSure_125 hC hO hR hf t ht1 ht2 x1 x2 x3 x5 x6 r5 h5 r41 h41 σ h)
    · refine g_lload_n hC dX4_needToBeSure_112 rfl 3 rfl ?_
      refine g_lload hC dX4_needToBeSure_113 6 rfl ?_
      refine g_lload hC dX4_needToBeSure_115 7 rfl ?_
      obtain ⟨q1, hq1, h⟩ := bd_of h hf
      refine g_cSJ (As := [.long x7, .long x9]) hC hO (c_J9_floorDiv_f86c9 _ hC.2.2.2.2.2.2.1 x7 x9 σ (nn_of hq1)) gc_X4_185 (xk_J9_floorDiv_f86c9 _ (Nat.le_of_ble_eq_true rfl) (Nat.le_of_ble_eq_true rfl)) rfl (Nat.le_of_ble_eq_true rfl) dX4_needToBeSure_117 hq1 ?_
      refine g_lneg hC dX4_needToBeSure_120 ?_
      obtain ⟨q2, hq2, h⟩ := bd_of h hf
      refine g_cSJ (As := [.long x3, .long (-q1.1)]) hC hO (c_J9_max_f86c9 _ hC.2.2.2.2.2.2.1 x3 (-q1.1) q1.2 (nn_of hq2)) gc_X4_189 (xk_J9_max_f86c9 _ (Nat.le_of_ble_eq_true rfl) (Nat.le_of_ble_eq_true rfl)) rfl (Nat.le_of_ble_eq_true rfl) dX4_needToBeSure_121 hq2 ?_
      refine g_lstore_n (lv' := [(3, .long q2.1), (0, .ref (E.2.2.1 t)), (1, .int x1), (2, .int x2), (5, .int x5), (6, .int x6), (7, .long x7), (9, .long x9)]) hC dX4_needToBeSure_124 rfl (by decide) rfl ?_
      exact g_sub [1, 2, 3, 0, 4, 5] rfl (k_X4_needToBeSure_125 hC hO hR hf t ht1 ht2 x1 x2 q2.1 x5 x6 r5 h5 r41 h41 q2.2 h)
set_option maxHeartbeats 4000000 in
set_option maxRecDepth 100000 in
theorem k_X4_needToBeSure_41 {E : ET} {F : FT} {fo : Option (Int32 × HS)} (hC : Cx E F 11 cX4_needToBeSure RX4 GT) (hO : Ro F rm_X4_needToBeSure) (hR : RI E F .int fo) (hf : fo ≠ none) (t : Nat) (ht1 : kd t = 4) (ht2 : AL E t) (x1 : Int32) (x2 : Int32) (x5 : Int32) (r5 : Int64 → Int32 → HS → Option (Int32 × HS)) (h5 : ∀ (x3 : Int64) (x5 : Int32) (σ : HS), r5 x3 x5 σ = fo → G E F 5 [(0, .ref (E.2.2.1 t)), (1, .int x1), (2, .int x2), (3, .long x3), (5, .int x5)] [] σ) : ∀ (n : Nat) (x3 : Int64) (x6 : Int32) (σ : HS), f_X4_needToBeSure_41 t x1 x2 x5 r5 n x3 x6 σ = fo → G E F 41 [(0, .ref (E.2.2.1 t)), (1, .int x1), (2, .int x2), (3, .long x3), (5, .int x5), (6, .int x6)] [] σ := by
  intro n
  induction n with
  | zero =>
    intro x3 x6 σ h
    exact absurd (h.symm.trans rfl) hf
  | succ n ih =>
    intro x3 x6 σ h
    refine g_iload hC dX4_needToBeSure_41 5 rfl ?_
    refine g_aload_n hC dX4_needToBeSure_43 rfl 0 rfl ?_
    refine g_getR (cj := 10) (k := 1) hC cr4 ui_4 ht1 ht2 (by decide) fl_X4_40 rfl rfl dX4_needToBeSure_44 h hf (fun a1 ea1 ka1 na1 h => ?_)
    refine g_getR (cj := 1) (k := 2) hC cr10 ui_10 ka1 na1 (by decide) fl_X4_64 rfl rfl dX4_needToBeSure_47 h hf (fun a2 ea2 ka2 na2 h => ?_)
    refine g_getI (k := 5) hC cr1 ui_1 ka2 na2 (by decide) fl_X4_50 rfl rfl dX4_needToBeSure_50 ?_
    refine g_icmp_ge (tgt := 131) hC dX4_needToBeSure_53 (by decide) h (fun c53 h => ?_) (fun c53 h => ?_)
    · exact g_sub [0, 1, 2, 3, 4] rfl (k_X4_needToBeSure_131 hC hO hR hf t ht1 ht2 x1 x2 x3 x5 r5 h5 σ h)
    · refine g_aload_n hC dX4_needToBeSure_56 rfl 0 rfl ?_
      refine g_getR (cj := 10) (k := 1) hC cr4 ui_4 ht1 ht2 (by decide) fl_X4_40 rfl rfl dX4_needToBeSure_57 h hf (fun a3 ea3 ka3 na3 h => ?_)
      refine g_getR (cj := 1) (k := 2) hC cr10 ui_10 ka3 na3 (by decide) fl_X4_64 rfl rfl dX4_needToBeSure_60 h hf (fun a4 ea4 ka4 na4 h => ?_)
      refine g_iload hC dX4_needToBeSure_63 5 rfl ?_
      refine g_aload_n hC dX4_needToBeSure_65 rfl 0 rfl ?_
      refine g_getR (cj := 14) (k := 3) hC cr4 ui_4 ht1 ht2 (by decide) fl_X4_16 rfl rfl dX4_needToBeSure_66 h hf (fun a5 ea5 ka5 na5 h => ?_)
      obtain ⟨q6, hq6, h⟩ := bd_of h hf
      refine g_cVJ (As := [.int x6, .ref (E.2.2.1 a5)]) hC hO (c_X1_product _ hC.2.2.2.2.2.2.1 a4 ka4 na4 x6 a5 ka5 na5 σ (nn_of hq6)) gc_X4_60 (xk_X1_product _ (Nat.le_of_ble_eq_true rfl) (Nat.le_of_ble_eq_true rfl)) cr1 ka4 na4 rfl (Nat.le_of_ble_eq_true rfl) dX4_needToBeSure_69 hq6 ?_
      refine g_lstore (lv' := [(7, .long q6.1), (0, .ref (E.2.2.1 t)), (1, .int x1), (2, .int x2), (3, .long x3), (5, .int x5), (6, .int x6)]) hC dX4_needToBeSure_72 (by decide) rfl ?_
      refine g_aload_n hC dX4_needToBeSure_74 rfl 1 rfl ?_
      refine g_getR (cj := 10) (k := 1) hC cr4 ui_4 ht1 ht2 (by decide) fl_X4_40 rfl rfl dX4_needToBeSure_75 h hf (fun a7 ea7 ka7 na7 h => ?_)
      refine g_getR (cj := 1) (k := 2) hC cr10 ui_10 ka7 na7 (by decide) fl_X4_64 rfl rfl dX4_needToBeSure_78 h hf (fun a8 ea8 ka8 na8 h => ?_)
      refine g_iload hC dX4_needToBeSure_81 6 rfl ?_
      refine g_iload_n hC dX4_needToBeSure_83 rfl 3 rfl ?_
      obtain ⟨q9, hq9, h⟩ := bd_of h hf
      refine g_cVJ (As := [.int x6, .int x2]) hC hO (c_X1_weight _ hC.2.2.2.2.2.2.1 a8 ka8 na8 x6 x2 q6.2 (nn_of hq9)) gc_X4_181 (xk_X1_weight _ (Nat.le_of_ble_eq_true rfl) (Nat.le_of_ble_eq_true rfl)) cr1 ka8 na8 rfl (Nat.le_of_ble_eq_true rfl) dX4_needToBeSure_84 hq9 ?_
      refine g_lstore (lv' := [(9, .long q9.1), (7, .long q6.1), (0, .ref (E.2.2.1 t)), (1, .int x1), (2, .int x2), (3, .long x3), (5, .int x5), (6, .int x6)]) hC dX4_needToBeSure_87 (by decide) rfl ?_
      refine g_lload hC dX4_needToBeSure_89 1 rfl ?_
      refine g_lconst (v := 0) hC dX4_needToBeSure_91 (by decide) ?_
      refine g_lc_ge (tgt := 105) hC dX4_needToBeSure_92 dX4_needToBeSure_93 (by decide) h (fun c92 h => ?_) (fun c92 h => ?_)
      · exact g_sub [2, 3, 4, 5, 6, 7, 1, 0] rfl (k_X4_needToBeSure_105 hC hO hR hf t ht1 ht2 x1 x2 x3 x5 x6 q6.1 q9.1 r5 h5 (f_X4_needToBeSure_41 t x1 x2 x5 r5 n) ih q9.2 h)
      · refine g_lload hC dX4_needToBeSure_96 0 rfl ?_
        refine g_lconst (v := 0) hC dX4_needToBeSure_98 (by decide) ?_
        refine g_lc_gt (tgt := 105) hC dX4_needToBeSure_99 dX4_needToBeSure_100 (by decide) h (fun c99 h => ?_) (fun c99 h => ?_)
        · exact g_sub [2, 3, 4, 5, 6, 7, 1, 0] rfl (k_X4_needToBeSure_105 hC hO hR hf t ht1 ht2 x1 x2 x3 x5 x6 q6.1 q9.1 r5 h5 (f_X4_needToBeSure_41 t x1 x2 x5 r5 n) ih q9.2 h)
        · refine g_iconst (v := (-1)) hC dX4_needToBeSure_103 (by decide) ?_
          exact g_iret hC hR dX4_needToBeSure_104 rfl h
set_option maxHeartbeats 4000000 in
set_option maxRecDepth 100000 in
theorem k_X4_needToBeSure_5 {E : ET} {F : FT} {fo : Option (Int32 × HS)} (hC : Cx E F 11 cX4_needToBeSure RX4 GT) (hO : Ro F rm_X4_needToBeSure) (hR : RI E F .int fo) (hf : fo ≠ none) (t : Nat) (ht1 : kd t = 4) (ht2 : AL E t) (x1 : Int32) (x2 : Int32) : ∀ (n : Nat) (x3 : Int64) (x5 : Int32) (σ : HS), f_X4_needToBeSure_5 t x1 x2 n x3 x5 σ = fo → G E F 5 [(0, .ref (E.2.2.1 t)), (1, .int x1), (2, .int x2), (3, .long x3), (5, .int x5)] [] σ := by
  intro n
  induction n with
  | zero =>
    intro x3 x5 σ h
    exact absurd (h.symm.trans rfl) hf
  | succ n ih =>
    intro x3 x5 σ h
    refine g_iload hC dX4_needToBeSure_5 4 rfl ?_
    refine g_bipush (v := 8) hC dX4_needToBeSure_7 (by decide) ?_
    refine g_icmp_ge (tgt := 137) hC dX4_needToBeSure_9 (by decide) h (fun c9 h => ?_) (fun c9 h => ?_)
    · refine g_lload_n hC dX4_needToBeSure_137 rfl 3 rfl ?_
      refine g_bipush (v := 100) hC dX4_needToBeSure_138 (by decide) ?_
      refine g_aload_n hC dX4_needToBeSure_140 rfl 0 rfl ?_
      refine g_getR (cj := 9) (k := 0) hC cr4 ui_4 ht1 ht2 (by decide) fl_X4_36 rfl rfl dX4_needToBeSure_141 h hf (fun a1 ea1 ka1 na1 h => ?_)
      refine g_getR (cj := 18) (k := 1) hC cr9 ui_9 ka1 na1 (by decide) fl_X4_99 rfl rfl dX4_needToBeSure_144 h hf (fun a2 ea2 ka2 na2 h => ?_)
      refine g_iload_n hC dX4_needToBeSure_147 rfl 1 rfl ?_
      refine g_aaldI (cj := 14) hC ka2 na2 dX4_needToBeSure_148 h hf (fun a3 ea3 ka3 na3 h => ?_)
      refine g_iload_n hC dX4_needToBeSure_149 rfl 2 rfl ?_
      refine g_iald hC ka3 na3 dX4_needToBeSure_150 h hf (fun h => ?_)
      refine g_isub hC dX4_needToBeSure_151 ?_
      refine g_i2l hC dX4_needToBeSure_152 ?_
      refine g_lc_gt (tgt := 162) hC dX4_needToBeSure_153 dX4_needToBeSure_154 (by decide) h (fun c153 h => ?_) (fun c153 h => ?_)
      · refine g_iconst (v := (-1)) hC dX4_needToBeSure_162 (by decide) ?_
        exact g_sub [] rfl (k_X4_needToBeSure_163 hC hO hR hf (-1) σ h)
      · refine g_lload_n hC dX4_needToBeSure_157 rfl 3 rfl ?_
        refine g_l2i hC dX4_needToBeSure_158 ?_
        refine g_goto (tgt := 163) hC dX4_needToBeSure_159 (by decide) ?_
        exact g_sub [] rfl (k_X4_needToBeSure_163 hC hO hR hf x3.toInt32 σ h)
    · refine g_aload_n hC dX4_needToBeSure_12 rfl 0 rfl ?_
      refine g_getR (cj := 9) (k := 0) hC cr4 ui_4 ht1 ht2 (by decide) fl_X4_36 rfl rfl dX4_needToBeSure_13 h hf (fun a4 ea4 ka4 na4 h => ?_)
      refine g_iload hC dX4_needToBeSure_16 4 rfl ?_
      obtain ⟨q5, hq5, h⟩ := bd_of h hf
      refine g_cVI (As := [.int x5]) hC hO (c_X9_isIn _ hC.2.2.2.2.2.2.1 a4 ka4 na4 x5 σ (nn_of hq5)) gc_X4_44 (xk_X9_isIn _ (Nat.le_of_ble_eq_true rfl) (Nat.le_of_ble_eq_true rfl)) cr9 ka4 na4 rfl (Nat.le_of_ble_eq_true rfl) dX4_needToBeSure_18 hq5 ?_
      refine g_if_eq (tgt := 131) hC dX4_needToBeSure_21 (by decide) h (fun c21 h => ?_) (fun c21 h => ?_)
      · exact g_sub [0, 1, 2, 3, 4] rfl (k_X4_needToBeSure_131 hC hO hR hf t ht1 ht2 x1 x2 x3 x5 (f_X4_needToBeSure_5 t x1 x2 n) ih q5.2 h)
      · refine g_aload_n hC dX4_needToBeSure_24 rfl 0 rfl ?_
        refine g_getR (cj := 9) (k := 0) hC cr4 ui_4 ht1 ht2 (by decide) fl_X4_36 rfl rfl dX4_needToBeSure_25 h hf (fun a6 ea6 ka6 na6 h => ?_)
        refine g_iload_n hC dX4_needToBeSure_28 rfl 1 rfl ?_
        refine g_iload hC dX4_needToBeSure_29 4 rfl ?_
        refine g_aload_n hC dX4_needToBeSure_31 rfl 0 rfl ?_
        refine g_getR (cj := 14) (k := 3) hC cr4 ui_4 ht1 ht2 (by decide) fl_X4_16 rfl rfl dX4_needToBeSure_32 h hf (fun a7 ea7 ka7 na7 h => ?_)
        obtain ⟨q8, hq8, h⟩ := bd_of h hf
        refine g_cVV (As := [.int x1, .int x5, .ref (E.2.2.1 a7)]) hC hO (c_X9_fillLead _ hC.2.2.2.2.2.2.1 a6 ka6 na6 x1 x5 a7 ka7 na7 q5.2 (nn_of hq8)) gc_X4_56 (xk_X9_fillLead _ (Nat.le_of_ble_eq_true rfl) (Nat.le_of_ble_eq_true rfl)) cr9 ka6 na6 rfl (Nat.le_of_ble_eq_true rfl) dX4_needToBeSure_35 hq8 ?_
        refine g_iconst (v := 0) hC dX4_needToBeSure_38 (by decide) ?_
        refine g_istore (lv' := [(6, .int 0), (0, .ref (E.2.2.1 t)), (1, .int x1), (2, .int x2), (3, .long x3), (5, .int x5)]) hC dX4_needToBeSure_39 (by decide) rfl ?_
        exact g_sub [1, 2, 3, 4, 5, 0] rfl (k_X4_needToBeSure_41 hC hO hR hf t ht1 ht2 x1 x2 x5 (f_X4_needToBeSure_5 t x1 x2 n) ih FU x3 0 q8 h)
set_option maxHeartbeats 4000000 in
set_option maxRecDepth 100000 in
theorem k_X4_needToBeSure_0 {E : ET} {F : FT} {fo : Option (Int32 × HS)} (hC : Cx E F 11 cX4_needToBeSure RX4 GT) (hO : Ro F rm_X4_needToBeSure) (hR : RI E F .int fo) (hf : fo ≠ none) (t : Nat) (ht1 : kd t = 4) (ht2 : AL E t) (x1 : Int32) (x2 : Int32) (σ : HS) (h : f_X4_needToBeSure t x1 x2 σ = fo) : G E F 0 [(0, .ref (E.2.2.1 t)), (1, .int x1), (2, .int x2)] [] σ := by
    refine g_lconst (v := 0) hC dX4_needToBeSure_0 (by decide) ?_
    refine g_lstore_n (lv' := [(3, .long 0), (0, .ref (E.2.2.1 t)), (1, .int x1), (2, .int x2)]) hC dX4_needToBeSure_1 rfl (by decide) rfl ?_
    refine g_iconst (v := 0) hC dX4_needToBeSure_2 (by decide) ?_
    refine g_istore (lv' := [(5, .int 0), (3, .long 0), (0, .ref (E.2.2.1 t)), (1, .int x1), (2, .int x2)]) hC dX4_needToBeSure_3 (by decide) rfl ?_
    exact g_sub [2, 3, 4, 1, 0] rfl (k_X4_needToBeSure_5 hC hO hR hf t ht1 ht2 x1 x2 FU 0 0 σ h)
theorem xk_X4_needToBeSure (R : Room) (h1 : 1 + 1 ≤ R.frames) (h2 : 79 ≤ R.locals) : xw R yX4_needToBeSure w_X4_needToBeSure GT cX4_needToBeSure 11 (some .int) rm_X4_needToBeSure 2 := ⟨rfl, rfl, rfl, h1, h2, ⟨by decide, by decide⟩, by decide +kernel⟩
theorem c_X4_needToBeSure (E : ET) (hE : EO E) (t : Nat) (ht1 : kd t = 4) (ht2 : AL E t) (x1 : Int32) (x2 : Int32) (σ : HS) (hn : f_X4_needToBeSure t x1 x2 σ ≠ none) : CoI E yX4_needToBeSure w_X4_needToBeSure rm_X4_needToBeSure [.ref (E.2.2.1 t), .int x1, .int x2] σ (f_X4_needToBeSure t x1 x2 σ) := CoI.of (lv := [(0, .ref (E.2.2.1 t)), (1, .int x1), (2, .int x2)]) hE (plainFor_of_name (by decide)) rfl (Nat.le_of_ble_eq_true rfl) rfl (fun F hC hO hR => k_X4_needToBeSure_0 hC hO hR hn t ht1 ht2 x1 x2 σ rfl)
def rm_X4_needToMaybe : Room := { frames := 4, cells := 0, slots := 0, locals := 164 }
set_option maxHeartbeats 4000000 in
set_option maxRecDepth 100000 in
theorem k_X4_needToMaybe_89 {E : ET} {F : FT} {fo : Option (Int32 × HS)} (hC : Cx E F 7 cX4_needToMaybe RX4 GT) (hO : Ro F rm_X4_needToMaybe) (hR : RI E F .int fo) (hf : fo ≠ none) (x3 : Int32) (σ : HS) (h : f_X4_needToMaybe_89 x3 σ = fo) : G E F 89 [(3, .int x3)] [] σ := by
    refine g_iload_n hC dX4_needToMaybe_89 rfl 0 rfl ?_
    exact g_iret hC hR dX4_needToMaybe_90 rfl h
set_option maxHeartbeats 4000000 in
set_option maxRecDepth 100000 in
theorem k_X4_needToMaybe_83 {E : ET} {F : FT} {fo : Option (Int32 × HS)} (hC : Cx E F 7 cX4_needToMaybe RX4 GT) (hO : Ro F rm_X4_needToMaybe) (hR : RI E F .int fo) (hf : fo ≠ none) (t : Nat) (ht1 : kd t = 4) (ht2 : AL E t) (x1 : Int32) (x2 : Int32) (x3 : Int32) (x4 : Int32) (x5 : Int32) (r36 : Int32 → Int32 → Int32 → HS → Option (Int32 × HS)) (h36 : ∀ (x3 : Int32) (x4 : Int32) (x5 : Int32) (σ : HS), r36 x3 x4 x5 σ = fo → G E F 36 [(0, .ref (E.2.2.1 t)), (1, .int x1), (2, .int x2), (3, .int x3), (4, .int x4), (5, .int x5)] [] σ) (σ : HS) (h : f_X4_needToMaybe_83 r36 t x1 x2 x3 x4 x5 σ = fo) : G E F 83 [(0, .ref (E.2.2.1 t)), (1, .int x1), (2, .int x2), (3, .int x3), (4, .int x4), (5, .int x5)] [] σ := by
    refine g_iinc (v := x5 + 1) (lv' := [(5, .int (x5 + 1)), (0, .ref (E.2.2.1 t)), (1, .int x1), (2, .int x2), (3, .int x3), (4, .int x4)]) hC dX4_needToMaybe_83 5 rfl rfl (by decide) rfl ?_
    refine g_goto (tgt := 36) hC dX4_needToMaybe_86 (by decide) ?_
    exact g_sub [1, 2, 3, 4, 5, 0] rfl (h36 x3 x4 (x5 + 1) σ h)
set_option maxHeartbeats 4000000 in
set_option maxRecDepth 100000 in
theorem k_X4_needToMaybe_36 {E : ET} {F : FT} {fo : Option (Int32 × HS)} (hC : Cx E F 7 cX4_needToMaybe RX4 GT) (hO : Ro F rm_X4_needToMaybe) (hR : RI E F .int fo) (hf : fo ≠ none) (t : Nat) (ht1 : kd t = 4) (ht2 : AL E t) (x1 : Int32) (x2 : Int32) : ∀ (n : Nat) (x3 : Int32) (x4 : Int32) (x5 : Int32) (σ : HS), f_X4_needToMaybe_36 t x1 x2 n x3 x4 x5 σ = fo → G E F 36 [(0, .ref (E.2.2.1 t)), (1, .int x1), (2, .int x2), (3, .int x3), (4, .int x4), (5, .int x5)] [] σ := by
  intro n
  induction n with
  | zero =>
    intro x3 x4 x5 σ h
    exact absurd (h.symm.trans rfl) hf
  | succ n ih =>
    intro x3 x4 x5 σ h
    refine g_iload hC dX4_needToMaybe_36 5 rfl ?_
    refine g_bipush (v := 100) hC dX4_needToMaybe_38 (by decide) ?_
    refine g_icmp_gt (tgt := 89) hC dX4_needToMaybe_40 (by decide) h (fun c40 h => ?_) (fun c40 h => ?_)
    · exact g_sub [3] rfl (k_X4_needToMaybe_89 hC hO hR hf x3 σ h)
    · refine g_iload hC dX4_needToMaybe_43 4 rfl ?_
      refine g_iload_n hC dX4_needToMaybe_45 rfl 3 rfl ?_
      refine g_icmp_ge (tgt := 89) hC dX4_needToMaybe_46 (by decide) h (fun c46 h => ?_) (fun c46 h => ?_)
      · exact g_sub [3] rfl (k_X4_needToMaybe_89 hC hO hR hf x3 σ h)
      · refine g_iload hC dX4_needToMaybe_49 4 rfl ?_
        refine g_iload_n hC dX4_needToMaybe_51 rfl 3 rfl ?_
        refine g_iadd hC dX4_needToMaybe_52 ?_
        refine g_iconst (v := 2) hC dX4_needToMaybe_53 (by decide) ?_
        refine g_idiv hC dX4_needToMaybe_54 (by decide) ?_
        refine g_istore (lv' := [(6, .int ((x4 + x3) / 2)), (0, .ref (E.2.2.1 t)), (1, .int x1), (2, .int x2), (3, .int x3), (4, .int x4), (5, .int x5)]) hC dX4_needToMaybe_55 (by decide) rfl ?_
        refine g_aload_n hC dX4_needToMaybe_57 rfl 1 rfl ?_
        refine g_iload_n hC dX4_needToMaybe_58 rfl 2 rfl ?_
        refine g_iload_n hC dX4_needToMaybe_59 rfl 3 rfl ?_
        refine g_iload hC dX4_needToMaybe_60 0 rfl ?_
        obtain ⟨q1, hq1, h⟩ := bd_of h hf
        refine g_cVR (As := [.int x1, .int x2, .int ((x4 + x3) / 2)]) hC hO (c_X4_whereBest _ hC.2.2.2.2.2.2.1 t ht1 ht2 x1 x2 ((x4 + x3) / 2) σ (nn_of hq1)) gc_X4_120 (xk_X4_whereBest _ (Nat.le_of_ble_eq_true rfl) (Nat.le_of_ble_eq_true rfl)) cr4 ht1 ht2 rfl (Nat.le_of_ble_eq_true rfl) dX4_needToMaybe_62 hq1 (fun na2 => ?_)
        obtain ⟨a2, ea2, ka2, h⟩ := rk_of h hf
        rw [Option.some.inj ea2] at na2 ⊢
        refine g_getI (k := 5) hC cr1 ui_1 ka2 na2 (by decide) fl_X4_50 rfl rfl dX4_needToMaybe_65 ?_
        refine g_if_le (tgt := 77) hC dX4_needToMaybe_68 (by decide) h (fun c68 h => ?_) (fun c68 h => ?_)
        · refine g_iload hC dX4_needToMaybe_77 0 rfl ?_
          refine g_iconst (v := 1) hC dX4_needToMaybe_79 (by decide) ?_
          refine g_iadd hC dX4_needToMaybe_80 ?_
          refine g_istore (lv' := [(4, .int (((x4 + x3) / 2) + 1)), (6, .int ((x4 + x3) / 2)), (0, .ref (E.2.2.1 t)), (1, .int x1), (2, .int x2), (3, .int x3), (5, .int x5)]) hC dX4_needToMaybe_81 (by decide) rfl ?_
          exact g_sub [2, 3, 4, 5, 0, 6] rfl (k_X4_needToMaybe_83 hC hO hR hf t ht1 ht2 x1 x2 x3 (((x4 + x3) / 2) + 1) x5 (f_X4_needToMaybe_36 t x1 x2 n) ih q1.2 h)
        · refine g_iload hC dX4_needToMaybe_71 0 rfl ?_
          refine g_istore_n (lv' := [(3, .int ((x4 + x3) / 2)), (6, .int ((x4 + x3) / 2)), (0, .ref (E.2.2.1 t)), (1, .int x1), (2, .int x2), (4, .int x4), (5, .int x5)]) hC dX4_needToMaybe_73 rfl (by decide) rfl ?_
          refine g_goto (tgt := 83) hC dX4_needToMaybe_74 (by decide) ?_
          exact g_sub [2, 3, 4, 0, 5, 6] rfl (k_X4_needToMaybe_83 hC hO hR hf t ht1 ht2 x1 x2 ((x4 + x3) / 2) x4 x5 (f_X4_needToMaybe_36 t x1 x2 n) ih q1.2 h)
set_option maxHeartbeats 4000000 in
set_option maxRecDepth 100000 in
theorem k_X4_needToMaybe_0 {E : ET} {F : FT} {fo : Option (Int32 × HS)} (hC : Cx E F 7 cX4_needToMaybe RX4 GT) (hO : Ro F rm_X4_needToMaybe) (hR : RI E F .int fo) (hf : fo ≠ none) (t : Nat) (ht1 : kd t = 4) (ht2 : AL E t) (x1 : Int32) (x2 : Int32) (σ : HS) (h : f_X4_needToMaybe t x1 x2 σ = fo) : G E F 0 [(0, .ref (E.2.2.1 t)), (1, .int x1), (2, .int x2)] [] σ := by
    refine g_bipush (v := 100) hC dX4_needToMaybe_0 (by decide) ?_
    refine g_aload_n hC dX4_needToMaybe_2 rfl 0 rfl ?_
    refine g_getR (cj := 9) (k := 0) hC cr4 ui_4 ht1 ht2 (by decide) fl_X4_36 rfl rfl dX4_needToMaybe_3 h hf (fun a1 ea1 ka1 na1 h => ?_)
    refine g_getR (cj := 18) (k := 1) hC cr9 ui_9 ka1 na1 (by decide) fl_X4_99 rfl rfl dX4_needToMaybe_6 h hf (fun a2 ea2 ka2 na2 h => ?_)
    refine g_iload_n hC dX4_needToMaybe_9 rfl 1 rfl ?_
    refine g_aaldI (cj := 14) hC ka2 na2 dX4_needToMaybe_10 h hf (fun a3 ea3 ka3 na3 h => ?_)
    refine g_iload_n hC dX4_needToMaybe_11 rfl 2 rfl ?_
    refine g_iald hC ka3 na3 dX4_needToMaybe_12 h hf (fun h => ?_)
    refine g_isub hC dX4_needToMaybe_13 ?_
    refine g_istore_n (lv' := [(3, .int ((100 : Int32) - (σ.1 a3 x2.toNatClampNeg))), (0, .ref (E.2.2.1 t)), (1, .int x1), (2, .int x2)]) hC dX4_needToMaybe_14 rfl (by decide) rfl ?_
    refine g_aload_n hC dX4_needToMaybe_15 rfl 1 rfl ?_
    refine g_iload_n hC dX4_needToMaybe_16 rfl 2 rfl ?_
    refine g_iload_n hC dX4_needToMaybe_17 rfl 3 rfl ?_
    refine g_iload_n hC dX4_needToMaybe_18 rfl 0 rfl ?_
    obtain ⟨q4, hq4, h⟩ := bd_of h hf
    refine g_cVR (As := [.int x1, .int x2, .int ((100 : Int32) - (σ.1 a3 x2.toNatClampNeg))]) hC hO (c_X4_whereBest _ hC.2.2.2.2.2.2.1 t ht1 ht2 x1 x2 ((100 : Int32) - (σ.1 a3 x2.toNatClampNeg)) σ (nn_of hq4)) gc_X4_120 (xk_X4_whereBest _ (Nat.le_of_ble_eq_true rfl) (Nat.le_of_ble_eq_true rfl)) cr4 ht1 ht2 rfl (Nat.le_of_ble_eq_true rfl) dX4_needToMaybe_19 hq4 (fun na5 => ?_)
    obtain ⟨a5, ea5, ka5, h⟩ := rk_of h hf
    rw [Option.some.inj ea5] at na5 ⊢
    refine g_getI (k := 5) hC cr1 ui_1 ka5 na5 (by decide) fl_X4_50 rfl rfl dX4_needToMaybe_22 ?_
    refine g_if_ne (tgt := 30) hC dX4_needToMaybe_25 (by decide) h (fun c25 h => ?_) (fun c25 h => ?_)
    · refine g_iconst (v := 0) hC dX4_needToMaybe_30 (by decide) ?_
      refine g_istore (lv' := [(4, .int 0), (3, .int ((100 : Int32) - (σ.1 a3 x2.toNatClampNeg))), (0, .ref (E.2.2.1 t)), (1, .int x1), (2, .int x2)]) hC dX4_needToMaybe_31 (by decide) rfl ?_
      refine g_iconst (v := 0) hC dX4_needToMaybe_33 (by decide) ?_
      refine g_istore (lv' := [(5, .int 0), (4, .int 0), (3, .int ((100 : Int32) - (σ.1 a3 x2.toNatClampNeg))), (0, .ref (E.2.2.1 t)), (1, .int x1), (2, .int x2)]) hC dX4_needToMaybe_34 (by decide) rfl ?_
      exact g_sub [3, 4, 5, 2, 1, 0] rfl (k_X4_needToMaybe_36 hC hO hR hf t ht1 ht2 x1 x2 FU ((100 : Int32) - (σ.1 a3 x2.toNatClampNeg)) 0 0 q4.2 h)
    · refine g_iconst (v := (-1)) hC dX4_needToMaybe_28 (by decide) ?_
      exact g_iret hC hR dX4_needToMaybe_29 rfl h
theorem xk_X4_needToMaybe (R : Room) (h1 : 4 + 1 ≤ R.frames) (h2 : 202 ≤ R.locals) : xw R yX4_needToMaybe w_X4_needToMaybe GT cX4_needToMaybe 7 (some .int) rm_X4_needToMaybe 2 := ⟨rfl, rfl, rfl, h1, h2, ⟨by decide, by decide⟩, by decide +kernel⟩
theorem c_X4_needToMaybe (E : ET) (hE : EO E) (t : Nat) (ht1 : kd t = 4) (ht2 : AL E t) (x1 : Int32) (x2 : Int32) (σ : HS) (hn : f_X4_needToMaybe t x1 x2 σ ≠ none) : CoI E yX4_needToMaybe w_X4_needToMaybe rm_X4_needToMaybe [.ref (E.2.2.1 t), .int x1, .int x2] σ (f_X4_needToMaybe t x1 x2 σ) := CoI.of (lv := [(0, .ref (E.2.2.1 t)), (1, .int x1), (2, .int x2)]) hE (plainFor_of_name (by decide)) rfl (Nat.le_of_ble_eq_true rfl) rfl (fun F hC hO hR => k_X4_needToMaybe_0 hC hO hR hn t ht1 ht2 x1 x2 σ rfl)
def rm_X4_leastStillBetter : Room := { frames := 1, cells := 0, slots := 0, locals := 37 }
set_option maxHeartbeats 4000000 in
set_option maxRecDepth 100000 in
theorem k_X4_leastStillBetter_101 {E : ET} {F : FT} {fo : Option (Int32 × HS)} (hC : Cx E F 11 cX4_leastStillBetter RX4 GT) (hO : Ro F rm_X4_leastStillBetter) (hR : RI E F .int fo) (hf : fo ≠ none) (t : Nat) (ht1 : kd t = 4) (ht2 : AL E t) (x1 : Int32) (x3 : Int32) (x4 : Int64) (x6 : Int32) (r19 : Int64 → Int32 → HS → Option (Int32 × HS)) (h19 : ∀ (x4 : Int64) (x6 : Int32) (σ : HS), r19 x4 x6 σ = fo → G E F 19 [(0, .ref (E.2.2.1 t)), (1, .int x1), (3, .int x3), (4, .long x4), (6, .int x6)] [] σ) (σ : HS) (h : f_X4_leastStillBetter_101 r19 t x1 x3 x4 x6 σ = fo) : G E F 101 [(0, .ref (E.2.2.1 t)), (1, .int x1), (3, .int x3), (4, .long x4), (6, .int x6)] [] σ := by
    refine g_iinc (v := x6 + 1) (lv' := [(6, .int (x6 + 1)), (0, .ref (E.2.2.1 t)), (1, .int x1), (3, .int x3), (4, .long x4)]) hC dX4_leastStillBetter_101 4 rfl rfl (by decide) rfl ?_
    refine g_goto (tgt := 19) hC dX4_leastStillBetter_104 (by decide) ?_
    exact g_sub [1, 2, 3, 4, 0] rfl (h19 x4 (x6 + 1) σ h)
set_option maxHeartbeats 4000000 in
set_option maxRecDepth 100000 in
theorem k_X4_leastStillBetter_19 {E : ET} {F : FT} {fo : Option (Int32 × HS)} (hC : Cx E F 11 cX4_leastStillBetter RX4 GT) (hO : Ro F rm_X4_leastStillBetter) (hR : RI E F .int fo) (hf : fo ≠ none) (t : Nat) (ht1 : kd t = 4) (ht2 : AL E t) (x1 : Int32) (x3 : Int32) : ∀ (n : Nat) (x4 : Int64) (x6 : Int32) (σ : HS), f_X4_leastStillBetter_19 t x1 x3 n x4 x6 σ = fo → G E F 19 [(0, .ref (E.2.2.1 t)), (1, .int x1), (3, .int x3), (4, .long x4), (6, .int x6)] [] σ := by
  intro n
  induction n with
  | zero =>
    intro x4 x6 σ h
    exact absurd (h.symm.trans rfl) hf
  | succ n ih =>
    intro x4 x6 σ h
    refine g_iload hC dX4_leastStillBetter_19 4 rfl ?_
    refine g_aload_n hC dX4_leastStillBetter_21 rfl 0 rfl ?_
    refine g_getR (cj := 10) (k := 1) hC cr4 ui_4 ht1 ht2 (by decide) fl_X4_40 rfl rfl dX4_leastStillBetter_22 h hf (fun a1 ea1 ka1 na1 h => ?_)
    refine g_getR (cj := 1) (k := 2) hC cr10 ui_10 ka1 na1 (by decide) fl_X4_64 rfl rfl dX4_leastStillBetter_25 h hf (fun a2 ea2 ka2 na2 h => ?_)
    refine g_getI (k := 5) hC cr1 ui_1 ka2 na2 (by decide) fl_X4_50 rfl rfl dX4_leastStillBetter_28 ?_
    refine g_icmp_ge (tgt := 107) hC dX4_leastStillBetter_31 (by decide) h (fun c31 h => ?_) (fun c31 h => ?_)
    · refine g_lload hC dX4_leastStillBetter_107 3 rfl ?_
      refine g_l2i hC dX4_leastStillBetter_109 ?_
      exact g_iret hC hR dX4_leastStillBetter_110 rfl h
    · refine g_aload_n hC dX4_leastStillBetter_34 rfl 0 rfl ?_
      refine g_getR (cj := 10) (k := 1) hC cr4 ui_4 ht1 ht2 (by decide) fl_X4_40 rfl rfl dX4_leastStillBetter_35 h hf (fun a3 ea3 ka3 na3 h => ?_)
      refine g_getR (cj := 1) (k := 2) hC cr10 ui_10 ka3 na3 (by decide) fl_X4_64 rfl rfl dX4_leastStillBetter_38 h hf (fun a4 ea4 ka4 na4 h => ?_)
      refine g_iload hC dX4_leastStillBetter_41 4 rfl ?_
      refine g_iload_n hC dX4_leastStillBetter_43 rfl 2 rfl ?_
      obtain ⟨q5, hq5, h⟩ := bd_of h hf
      refine g_cVJ (As := [.int x6, .int x3]) hC hO (c_X1_weight _ hC.2.2.2.2.2.2.1 a4 ka4 na4 x6 x3 σ (nn_of hq5)) gc_X4_181 (xk_X1_weight _ (Nat.le_of_ble_eq_true rfl) (Nat.le_of_ble_eq_true rfl)) cr1 ka4 na4 rfl (Nat.le_of_ble_eq_true rfl) dX4_leastStillBetter_44 hq5 ?_
      refine g_lstore (lv' := [(7, .long q5.1), (0, .ref (E.2.2.1 t)), (1, .int x1), (3, .int x3), (4, .long x4), (6, .int x6)]) hC dX4_leastStillBetter_47 (by decide) rfl ?_
      refine g_lload hC dX4_leastStillBetter_49 0 rfl ?_
      refine g_lconst (v := 0) hC dX4_leastStillBetter_51 (by decide) ?_
      refine g_lc_le (tgt := 101) hC dX4_leastStillBetter_52 dX4_leastStillBetter_53 (by decide) h (fun c52 h => ?_) (fun c52 h => ?_)
      · exact g_sub [1, 2, 3, 4, 5] rfl (k_X4_leastStillBetter_101 hC hO hR hf t ht1 ht2 x1 x3 x4 x6 (f_X4_leastStillBetter_19 t x1 x3 n) ih q5.2 h)
      · refine g_aload_n hC dX4_leastStillBetter_56 rfl 1 rfl ?_
        refine g_getR (cj := 10) (k := 1) hC cr4 ui_4 ht1 ht2 (by decide) fl_X4_40 rfl rfl dX4_leastStillBetter_57 h hf (fun a6 ea6 ka6 na6 h => ?_)
        refine g_getR (cj := 1) (k := 2) hC cr10 ui_10 ka6 na6 (by decide) fl_X4_64 rfl rfl dX4_leastStillBetter_60 h hf (fun a7 ea7 ka7 na7 h => ?_)
        refine g_iload hC dX4_leastStillBetter_63 5 rfl ?_
        refine g_aload_n hC dX4_leastStillBetter_65 rfl 1 rfl ?_
        refine g_getR (cj := 14) (k := 3) hC cr4 ui_4 ht1 ht2 (by decide) fl_X4_16 rfl rfl dX4_leastStillBetter_66 h hf (fun a8 ea8 ka8 na8 h => ?_)
        obtain ⟨q9, hq9, h⟩ := bd_of h hf
        refine g_cVJ (As := [.int x6, .ref (E.2.2.1 a8)]) hC hO (c_X1_product _ hC.2.2.2.2.2.2.1 a7 ka7 na7 x6 a8 ka8 na8 q5.2 (nn_of hq9)) gc_X4_60 (xk_X1_product _ (Nat.le_of_ble_eq_true rfl) (Nat.le_of_ble_eq_true rfl)) cr1 ka7 na7 rfl (Nat.le_of_ble_eq_true rfl) dX4_leastStillBetter_69 hq9 ?_
        refine g_lload hC dX4_leastStillBetter_72 0 rfl ?_
        obtain ⟨q10, hq10, h⟩ := bd_of h hf
        refine g_cSJ (As := [.long q9.1, .long q5.1]) hC hO (c_J9_floorDiv_f86c9 _ hC.2.2.2.2.2.2.1 q9.1 q5.1 q9.2 (nn_of hq10)) gc_X4_185 (xk_J9_floorDiv_f86c9 _ (Nat.le_of_ble_eq_true rfl) (Nat.le_of_ble_eq_true rfl)) rfl (Nat.le_of_ble_eq_true rfl) dX4_leastStillBetter_74 hq10 ?_
        refine g_lstore (lv' := [(9, .long q10.1), (7, .long q5.1), (0, .ref (E.2.2.1 t)), (1, .int x1), (3, .int x3), (4, .long x4), (6, .int x6)]) hC dX4_leastStillBetter_77 (by decide) rfl ?_
        refine g_lload hC dX4_leastStillBetter_79 5 rfl ?_
        refine g_aload_n hC dX4_leastStillBetter_81 rfl 2 rfl ?_
        refine g_getR (cj := 9) (k := 0) hC cr4 ui_4 ht1 ht2 (by decide) fl_X4_36 rfl rfl dX4_leastStillBetter_82 h hf (fun a11 ea11 ka11 na11 h => ?_)
        refine g_getR (cj := 18) (k := 1) hC cr9 ui_9 ka11 na11 (by decide) fl_X4_99 rfl rfl dX4_leastStillBetter_85 h hf (fun a12 ea12 ka12 na12 h => ?_)
        refine g_iload_n hC dX4_leastStillBetter_88 rfl 3 rfl ?_
        refine g_aaldI (cj := 14) hC ka12 na12 dX4_leastStillBetter_89 h hf (fun a13 ea13 ka13 na13 h => ?_)
        refine g_iload_n hC dX4_leastStillBetter_90 rfl 4 rfl ?_
        refine g_iald hC ka13 na13 dX4_leastStillBetter_91 h hf (fun h => ?_)
        refine g_i2l hC dX4_leastStillBetter_92 ?_
        refine g_lload hC dX4_leastStillBetter_93 0 rfl ?_
        refine g_lsub hC dX4_leastStillBetter_95 ?_
        obtain ⟨q14, hq14, h⟩ := bd_of h hf
        refine g_cSJ (As := [.long x4, .long (((q10.2.1 a13 x3.toNatClampNeg).toInt64) - q10.1)]) hC hO (c_J9_max_f86c9 _ hC.2.2.2.2.2.2.1 x4 (((q10.2.1 a13 x3.toNatClampNeg).toInt64) - q10.1) q10.2 (nn_of hq14)) gc_X4_189 (xk_J9_max_f86c9 _ (Nat.le_of_ble_eq_true rfl) (Nat.le_of_ble_eq_true rfl)) rfl (Nat.le_of_ble_eq_true rfl) dX4_leastStillBetter_96 hq14 ?_
        refine g_lstore (lv' := [(4, .long q14.1), (9, .long q10.1), (7, .long q5.1), (0, .ref (E.2.2.1 t)), (1, .int x1), (3, .int x3), (6, .int x6)]) hC dX4_leastStillBetter_99 (by decide) rfl ?_
        exact g_sub [3, 4, 5, 0, 6] rfl (k_X4_leastStillBetter_101 hC hO hR hf t ht1 ht2 x1 x3 q14.1 x6 (f_X4_leastStillBetter_19 t x1 x3 n) ih q14.2 h)
set_option maxHeartbeats 4000000 in
set_option maxRecDepth 100000 in
theorem k_X4_leastStillBetter_0 {E : ET} {F : FT} {fo : Option (Int32 × HS)} (hC : Cx E F 11 cX4_leastStillBetter RX4 GT) (hO : Ro F rm_X4_leastStillBetter) (hR : RI E F .int fo) (hf : fo ≠ none) (t : Nat) (ht1 : kd t = 4) (ht2 : AL E t) (x1 : Int32) (x2 : Int32) (x3 : Int32) (σ : HS) (h : f_X4_leastStillBetter t x1 x2 x3 σ = fo) : G E F 0 [(0, .ref (E.2.2.1 t)), (1, .int x1), (2, .int x2), (3, .int x3)] [] σ := by
    refine g_aload_n hC dX4_leastStillBetter_0 rfl 0 rfl ?_
    refine g_getR (cj := 9) (k := 0) hC cr4 ui_4 ht1 ht2 (by decide) fl_X4_36 rfl rfl dX4_leastStillBetter_1 h hf (fun a1 ea1 ka1 na1 h => ?_)
    refine g_iload_n hC dX4_leastStillBetter_4 rfl 1 rfl ?_
    refine g_iload_n hC dX4_leastStillBetter_5 rfl 2 rfl ?_
    refine g_aload_n hC dX4_leastStillBetter_6 rfl 0 rfl ?_
    refine g_getR (cj := 14) (k := 3) hC cr4 ui_4 ht1 ht2 (by decide) fl_X4_16 rfl rfl dX4_leastStillBetter_7 h hf (fun a2 ea2 ka2 na2 h => ?_)
    obtain ⟨q3, hq3, h⟩ := bd_of h hf
    refine g_cVV (As := [.int x1, .int x2, .ref (E.2.2.1 a2)]) hC hO (c_X9_fillLead _ hC.2.2.2.2.2.2.1 a1 ka1 na1 x1 x2 a2 ka2 na2 σ (nn_of hq3)) gc_X4_56 (xk_X9_fillLead _ (Nat.le_of_ble_eq_true rfl) (Nat.le_of_ble_eq_true rfl)) cr9 ka1 na1 rfl (Nat.le_of_ble_eq_true rfl) dX4_leastStillBetter_10 hq3 ?_
    refine g_lconst (v := 0) hC dX4_leastStillBetter_13 (by decide) ?_
    refine g_lstore (lv' := [(4, .long 0), (0, .ref (E.2.2.1 t)), (1, .int x1), (2, .int x2), (3, .int x3)]) hC dX4_leastStillBetter_14 (by decide) rfl ?_
    refine g_iconst (v := 0) hC dX4_leastStillBetter_16 (by decide) ?_
    refine g_istore (lv' := [(6, .int 0), (4, .long 0), (0, .ref (E.2.2.1 t)), (1, .int x1), (2, .int x2), (3, .int x3)]) hC dX4_leastStillBetter_17 (by decide) rfl ?_
    exact g_sub [2, 3, 5, 1, 0] rfl (k_X4_leastStillBetter_19 hC hO hR hf t ht1 ht2 x1 x3 FU 0 0 q3 h)
theorem xk_X4_leastStillBetter (R : Room) (h1 : 1 + 1 ≤ R.frames) (h2 : 79 ≤ R.locals) : xw R yX4_leastStillBetter w_X4_leastStillBetter GT cX4_leastStillBetter 11 (some .int) rm_X4_leastStillBetter 3 := ⟨rfl, rfl, rfl, h1, h2, ⟨by decide, by decide⟩, by decide +kernel⟩
theorem c_X4_leastStillBetter (E : ET) (hE : EO E) (t : Nat) (ht1 : kd t = 4) (ht2 : AL E t) (x1 : Int32) (x2 : Int32) (x3 : Int32) (σ : HS) (hn : f_X4_leastStillBetter t x1 x2 x3 σ ≠ none) : CoI E yX4_leastStillBetter w_X4_leastStillBetter rm_X4_leastStillBetter [.ref (E.2.2.1 t), .int x1, .int x2, .int x3] σ (f_X4_leastStillBetter t x1 x2 x3 σ) := CoI.of (lv := [(0, .ref (E.2.2.1 t)), (1, .int x1), (2, .int x2), (3, .int x3)]) hE (plainFor_of_name (by decide)) rfl (Nat.le_of_ble_eq_true rfl) rfl (fun F hC hO hR => k_X4_leastStillBetter_0 hC hO hR hn t ht1 ht2 x1 x2 x3 σ rfl)
