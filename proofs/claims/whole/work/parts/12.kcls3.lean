def rm_X11_beginWith : Room := { frames := 1, cells := 0, slots := 0, locals := 33 }
theorem fl_X11_134 : Cond.fieldLink RX11 134 "EveryMeasure" (TX11 16).2.1 (TX11 16).2.2.1 ∈ GT := gtr_8 _ (List.mem_of_getElem? (i := 3) rfl)
theorem fl_X11_28 : Cond.fieldLink RX11 28 "EveryMeasure" (TX11 2).2.1 (TX11 2).2.2.1 ∈ GT := gtr_2 _ (List.mem_of_getElem? (i := 1) rfl)
theorem fl_X11_123 : Cond.fieldLink RX11 123 "EveryMeasure$Things" (TX9 3).2.1 (TX9 3).2.2.1 ∈ GT := gtr_8 _ (List.mem_of_getElem? (i := 4) rfl)
theorem fl_X11_96 : Cond.fieldLink RX11 96 "EveryMeasure" (TX11 14).2.1 (TX11 14).2.2.1 ∈ GT := gtr_3 _ (List.mem_of_getElem? (i := 10) rfl)
theorem wc_X0_clear : Cond.code yX0_clear cX0_clear 2 none ∈ GT := gtr_8 _ (List.mem_of_getElem? (i := 11) rfl)
theorem gc_X11_336 : GoodIn GT (wsV RX11 336 RX0 yX0_clear w_X0_clear) := gi_V (gtr_8 _ (List.mem_of_getElem? (i := 8) rfl)) (gtr_8 _ (List.mem_of_getElem? (i := 9) rfl)) (gtr_8 _ (List.mem_of_getElem? (i := 10) rfl)) (gtr_3 _ (List.mem_of_getElem? (i := 9) rfl)) wc_X0_clear
theorem fl_X11_320 : Cond.fieldLink RX11 320 "EveryMeasure" (TX11 13).2.1 (TX11 13).2.2.1 ∈ GT := gtr_8 _ (List.mem_of_getElem? (i := 5) rfl)
theorem fl_X11_141 : Cond.fieldLink RX11 141 "EveryMeasure" (TX11 17).2.1 (TX11 17).2.2.1 ∈ GT := gtr_8 _ (List.mem_of_getElem? (i := 6) rfl)
theorem fl_X11_115 : Cond.fieldLink RX11 115 "EveryMeasure" (TX11 18).2.1 (TX11 18).2.2.1 ∈ GT := gtr_8 _ (List.mem_of_getElem? (i := 7) rfl)
set_option maxHeartbeats 4000000 in
set_option maxRecDepth 100000 in
theorem k_X11_beginWith_0 {E : ET} {F : FT} {fo : Option HS} (hC : Cx E F 2 cX11_beginWith RX11 GT) (hO : Ro F rm_X11_beginWith) (hR : RV E F fo) (hf : fo ≠ none) (t : Nat) (ht1 : kd t = 11) (ht2 : AL E t) (x1 : Int32) (σ : HS) (h : f_X11_beginWith t x1 σ = fo) : G E F 0 [(0, .ref (E.2.2.1 t)), (1, .int x1)] [] σ := by
    refine g_aload_n hC dX11_beginWith_0 rfl 0 rfl ?_
    refine g_iload_n hC dX11_beginWith_1 rfl 1 rfl ?_
    refine g_putI (k := 16) hC cr11 ui_11 tyX11_ok nmX11 ht1 ht2 (by decide) fl_X11_134 rfl rfl rfl rfl dX11_beginWith_2 ?_
    refine g_aload_n hC dX11_beginWith_5 rfl 0 rfl ?_
    refine g_getR (cj := 9) (k := 2) hC cr11 ui_11 ht1 ht2 (by decide) fl_X11_28 rfl rfl dX11_beginWith_6 h hf (fun a1 ea1 ka1 na1 h => ?_)
    refine g_iconst (v := 0) hC dX11_beginWith_9 (by decide) ?_
    refine g_putI (k := 3) hC cr9 ui_9 tyX9_ok nmX9 ka1 na1 (by decide) fl_X11_123 rfl rfl rfl rfl dX11_beginWith_10 ?_
    refine g_aload_n hC dX11_beginWith_13 rfl 0 rfl ?_
    refine g_getR (cj := 0) (k := 14) hC cr11 ui_11 ht1 ht2 (by decide) fl_X11_96 rfl rfl dX11_beginWith_14 h hf (fun a2 ea2 ka2 na2 h => ?_)
    obtain ⟨q3, hq3, h⟩ := bd_of h hf
    refine g_cVV (As := []) hC hO (c_X0_clear _ hC.2.2.2.2.2.2.1 a2 ka2 na2 (sI (sI σ t 16 x1) a1 3 0) (nn_of hq3)) gc_X11_336 (xk_X0_clear _ (Nat.le_of_ble_eq_true rfl) (Nat.le_of_ble_eq_true rfl)) cr0 ka2 na2 rfl (Nat.le_of_ble_eq_true rfl) dX11_beginWith_17 hq3 ?_
    refine g_aload_n hC dX11_beginWith_20 rfl 0 rfl ?_
    refine g_iconst (v := 0) hC dX11_beginWith_21 (by decide) ?_
    refine g_putI (k := 13) hC cr11 ui_11 tyX11_ok nmX11 ht1 ht2 (by decide) fl_X11_320 rfl rfl rfl rfl dX11_beginWith_22 ?_
    refine g_aload_n hC dX11_beginWith_25 rfl 0 rfl ?_
    refine g_sipush (v := 255) hC dX11_beginWith_26 (by decide) ?_
    refine g_putI (k := 17) hC cr11 ui_11 tyX11_ok nmX11 ht1 ht2 (by decide) fl_X11_141 rfl rfl rfl rfl dX11_beginWith_29 ?_
    refine g_aload_n hC dX11_beginWith_32 rfl 0 rfl ?_
    refine g_iconst (v := 1) hC dX11_beginWith_33 (by decide) ?_
    refine g_putZ (k := 18) hC cr11 ui_11 tyX11_ok nmX11 ht1 ht2 (by decide) fl_X11_115 rfl rfl rfl rfl dX11_beginWith_34 (by decide) ?_
    exact g_vret hC hR dX11_beginWith_37 h
theorem xk_X11_beginWith (R : Room) (h1 : 1 + 1 ≤ R.frames) (h2 : 66 ≤ R.locals) : xw R yX11_beginWith w_X11_beginWith GT cX11_beginWith 2 none rm_X11_beginWith 1 := ⟨rfl, rfl, rfl, h1, h2, ⟨by decide, by decide⟩, by decide +kernel⟩
theorem c_X11_beginWith (E : ET) (hE : EO E) (t : Nat) (ht1 : kd t = 11) (ht2 : AL E t) (x1 : Int32) (σ : HS) (hn : f_X11_beginWith t x1 σ ≠ none) : CoV E yX11_beginWith w_X11_beginWith rm_X11_beginWith [.ref (E.2.2.1 t), .int x1] σ (f_X11_beginWith t x1 σ) := CoV.of (lv := [(0, .ref (E.2.2.1 t)), (1, .int x1)]) hE (plainFor_of_name (by decide)) rfl (Nat.le_of_ble_eq_true rfl) rfl (fun F hC hO hR => k_X11_beginWith_0 hC hO hR hn t ht1 ht2 x1 σ rfl)
def rm_X11_measures : Room := { frames := 2, cells := 0, slots := 0, locals := 66 }
theorem wc_X11_beginWith : Cond.code yX11_beginWith cX11_beginWith 2 none ∈ GT := gtr_8 _ (List.mem_of_getElem? (i := 2) rfl)
theorem gc_X11_103 : GoodIn GT (wsV RX11 103 RX11 yX11_beginWith w_X11_beginWith) := gi_V (gtr_7 _ (List.mem_of_getElem? (i := 23) rfl)) (gtr_8 _ (List.mem_of_getElem? (i := 0) rfl)) (gtr_8 _ (List.mem_of_getElem? (i := 1) rfl)) (gtr_1 _ (List.mem_of_getElem? (i := 2) rfl)) wc_X11_beginWith
set_option maxHeartbeats 4000000 in
set_option maxRecDepth 100000 in
theorem k_X11_measures_10 {E : ET} {F : FT} {fo : Option (Int32 × HS)} (hC : Cx E F 2 cX11_measures RX11 GT) (hO : Ro F rm_X11_measures) (hR : RI E F .boolean fo) (hf : fo ≠ none) (σ : HS) (h : f_X11_measures_10 σ = fo) : G E F 10 [] [] σ := by
    refine g_iconst (v := 0) hC dX11_measures_10 (by decide) ?_
    exact g_iret hC hR dX11_measures_11 rfl h
set_option maxHeartbeats 4000000 in
set_option maxRecDepth 100000 in
theorem k_X11_measures_0 {E : ET} {F : FT} {fo : Option (Int32 × HS)} (hC : Cx E F 2 cX11_measures RX11 GT) (hO : Ro F rm_X11_measures) (hR : RI E F .boolean fo) (hf : fo ≠ none) (t : Nat) (ht1 : kd t = 11) (ht2 : AL E t) (x1 : Int32) (σ : HS) (h : f_X11_measures t x1 σ = fo) : G E F 0 [(0, .ref (E.2.2.1 t)), (1, .int x1)] [] σ := by
    refine g_iload_n hC dX11_measures_0 rfl 1 rfl ?_
    refine g_iconst (v := 1) hC dX11_measures_1 (by decide) ?_
    refine g_icmp_lt (tgt := 10) hC dX11_measures_2 (by decide) h (fun c2 h => ?_) (fun c2 h => ?_)
    · exact g_sub [] rfl (k_X11_measures_10 hC hO hR hf σ h)
    · refine g_iload_n hC dX11_measures_5 rfl 1 rfl ?_
      refine g_iconst (v := 4) hC dX11_measures_6 (by decide) ?_
      refine g_icmp_le (tgt := 12) hC dX11_measures_7 (by decide) h (fun c7 h => ?_) (fun c7 h => ?_)
      · refine g_aload_n hC dX11_measures_12 rfl 0 rfl ?_
        refine g_iload_n hC dX11_measures_13 rfl 1 rfl ?_
        obtain ⟨q1, hq1, h⟩ := bd_of h hf
        refine g_cVV (As := [.int x1]) hC hO (c_X11_beginWith _ hC.2.2.2.2.2.2.1 t ht1 ht2 x1 σ (nn_of hq1)) gc_X11_103 (xk_X11_beginWith _ (Nat.le_of_ble_eq_true rfl) (Nat.le_of_ble_eq_true rfl)) cr11 ht1 ht2 rfl (Nat.le_of_ble_eq_true rfl) dX11_measures_14 hq1 ?_
        refine g_iconst (v := 1) hC dX11_measures_17 (by decide) ?_
        exact g_iret hC hR dX11_measures_18 rfl h
      · exact g_sub [] rfl (k_X11_measures_10 hC hO hR hf σ h)
theorem xk_X11_measures (R : Room) (h1 : 2 + 1 ≤ R.frames) (h2 : 99 ≤ R.locals) : xw R yX11_measures w_X11_measures GT cX11_measures 2 (some .boolean) rm_X11_measures 1 := ⟨rfl, rfl, rfl, h1, h2, ⟨by decide, by decide⟩, by decide +kernel⟩
theorem c_X11_measures (E : ET) (hE : EO E) (t : Nat) (ht1 : kd t = 11) (ht2 : AL E t) (x1 : Int32) (σ : HS) (hn : f_X11_measures t x1 σ ≠ none) : CoI E yX11_measures w_X11_measures rm_X11_measures [.ref (E.2.2.1 t), .int x1] σ (f_X11_measures t x1 σ) := CoI.of (lv := [(0, .ref (E.2.2.1 t)), (1, .int x1)]) hE (plainFor_of_name (by decide)) rfl (Nat.le_of_ble_eq_true rfl) rfl (fun F hC hO hR => k_X11_measures_0 hC hO hR hn t ht1 ht2 x1 σ rfl)
def rm_X11_takeGiven : Room := { frames := 0, cells := 0, slots := 0, locals := 0 }
theorem fl_X11_80 : Cond.fieldLink RX11 80 "EveryMeasure" (TX11 9).2.1 (TX11 9).2.2.1 ∈ GT := gtr_3 _ (List.mem_of_getElem? (i := 3) rfl)
set_option maxHeartbeats 4000000 in
set_option maxRecDepth 100000 in
theorem k_X11_takeGiven_80 {E : ET} {F : FT} {fo : Option (Int32 × HS)} (hC : Cx E F 7 cX11_takeGiven RX11 GT) (hO : Ro F rm_X11_takeGiven) (hR : RI E F .boolean fo) (hf : fo ≠ none) (σ : HS) (h : f_X11_takeGiven_80 σ = fo) : G E F 80 [] [] σ := by
    refine g_iconst (v := 0) hC dX11_takeGiven_80 (by decide) ?_
    exact g_iret hC hR dX11_takeGiven_81 rfl h
set_option maxHeartbeats 4000000 in
set_option maxRecDepth 100000 in
theorem k_X11_takeGiven_82 {E : ET} {F : FT} {fo : Option (Int32 × HS)} (hC : Cx E F 7 cX11_takeGiven RX11 GT) (hO : Ro F rm_X11_takeGiven) (hR : RI E F .boolean fo) (hf : fo ≠ none) (t : Nat) (ht1 : kd t = 11) (ht2 : AL E t) (x5 : Int32) (x6 : Int32) (r32 : Int32 → HS → Option (Int32 × HS)) (h32 : ∀ (x6 : Int32) (σ : HS), r32 x6 σ = fo → G E F 32 [(0, .ref (E.2.2.1 t)), (5, .int x5), (6, .int x6)] [] σ) (σ : HS) (h : f_X11_takeGiven_82 r32 t x5 x6 σ = fo) : G E F 82 [(0, .ref (E.2.2.1 t)), (5, .int x5), (6, .int x6)] [] σ := by
    refine g_iinc (v := x6 + 1) (lv' := [(6, .int (x6 + 1)), (0, .ref (E.2.2.1 t)), (5, .int x5)]) hC dX11_takeGiven_82 2 rfl rfl (by decide) rfl ?_
    refine g_goto (tgt := 32) hC dX11_takeGiven_85 (by decide) ?_
    exact g_sub [1, 2, 0] rfl (h32 (x6 + 1) σ h)
set_option maxHeartbeats 4000000 in
set_option maxRecDepth 100000 in
theorem k_X11_takeGiven_32 {E : ET} {F : FT} {fo : Option (Int32 × HS)} (hC : Cx E F 7 cX11_takeGiven RX11 GT) (hO : Ro F rm_X11_takeGiven) (hR : RI E F .boolean fo) (hf : fo ≠ none) (t : Nat) (ht1 : kd t = 11) (ht2 : AL E t) (x5 : Int32) : ∀ (n : Nat) (x6 : Int32) (σ : HS), f_X11_takeGiven_32 t x5 n x6 σ = fo → G E F 32 [(0, .ref (E.2.2.1 t)), (5, .int x5), (6, .int x6)] [] σ := by
  intro n
  induction n with
  | zero =>
    intro x6 σ h
    exact absurd (h.symm.trans rfl) hf
  | succ n ih =>
    intro x6 σ h
    refine g_iload hC dX11_takeGiven_32 2 rfl ?_
    refine g_iconst (v := 4) hC dX11_takeGiven_34 (by decide) ?_
    refine g_icmp_ge (tgt := 88) hC dX11_takeGiven_35 (by decide) h (fun c35 h => ?_) (fun c35 h => ?_)
    · refine g_iconst (v := 1) hC dX11_takeGiven_88 (by decide) ?_
      exact g_iret hC hR dX11_takeGiven_89 rfl h
    · refine g_iload hC dX11_takeGiven_38 2 rfl ?_
      refine g_aload_n hC dX11_takeGiven_40 rfl 0 rfl ?_
      refine g_getI (k := 16) hC cr11 ui_11 ht1 ht2 (by decide) fl_X11_134 rfl rfl dX11_takeGiven_41 ?_
      refine g_icmp_lt (tgt := 58) hC dX11_takeGiven_44 (by decide) h (fun c44 h => ?_) (fun c44 h => ?_)
      · refine g_aload_n hC dX11_takeGiven_58 rfl 0 rfl ?_
        refine g_getR (cj := 14) (k := 9) hC cr11 ui_11 ht1 ht2 (by decide) fl_X11_80 rfl rfl dX11_takeGiven_59 h hf (fun a1 ea1 ka1 na1 h => ?_)
        refine g_iload hC dX11_takeGiven_62 2 rfl ?_
        refine g_iald hC ka1 na1 dX11_takeGiven_64 h hf (fun h => ?_)
        refine g_if_lt (tgt := 80) hC dX11_takeGiven_65 (by decide) h (fun c65 h => ?_) (fun c65 h => ?_)
        · exact g_sub [] rfl (k_X11_takeGiven_80 hC hO hR hf σ h)
        · refine g_aload_n hC dX11_takeGiven_68 rfl 0 rfl ?_
          refine g_getR (cj := 14) (k := 9) hC cr11 ui_11 ht1 ht2 (by decide) fl_X11_80 rfl rfl dX11_takeGiven_69 h hf (fun a2 ea2 ka2 na2 h => ?_)
          refine g_iload hC dX11_takeGiven_72 2 rfl ?_
          refine g_iald hC ka2 na2 dX11_takeGiven_74 h hf (fun h => ?_)
          refine g_iload hC dX11_takeGiven_75 1 rfl ?_
          refine g_icmp_le (tgt := 82) hC dX11_takeGiven_77 (by decide) h (fun c77 h => ?_) (fun c77 h => ?_)
          · exact g_sub [0, 1, 2] rfl (k_X11_takeGiven_82 hC hO hR hf t ht1 ht2 x5 x6 (f_X11_takeGiven_32 t x5 n) ih σ h)
          · exact g_sub [] rfl (k_X11_takeGiven_80 hC hO hR hf σ h)
      · refine g_aload_n hC dX11_takeGiven_47 rfl 0 rfl ?_
        refine g_getR (cj := 14) (k := 9) hC cr11 ui_11 ht1 ht2 (by decide) fl_X11_80 rfl rfl dX11_takeGiven_48 h hf (fun a3 ea3 ka3 na3 h => ?_)
        refine g_iload hC dX11_takeGiven_51 2 rfl ?_
        refine g_iconst (v := 0) hC dX11_takeGiven_53 (by decide) ?_
        refine g_iast hC ka3 na3 dX11_takeGiven_54 h hf (fun h => ?_)
        refine g_goto (tgt := 82) hC dX11_takeGiven_55 (by decide) ?_
        exact g_sub [0, 1, 2] rfl (k_X11_takeGiven_82 hC hO hR hf t ht1 ht2 x5 x6 (f_X11_takeGiven_32 t x5 n) ih (sI σ a3 x6.toNatClampNeg 0) h)
set_option maxHeartbeats 4000000 in
set_option maxRecDepth 100000 in
theorem k_X11_takeGiven_0 {E : ET} {F : FT} {fo : Option (Int32 × HS)} (hC : Cx E F 7 cX11_takeGiven RX11 GT) (hO : Ro F rm_X11_takeGiven) (hR : RI E F .boolean fo) (hf : fo ≠ none) (t : Nat) (ht1 : kd t = 11) (ht2 : AL E t) (x1 : Int32) (x2 : Int32) (x3 : Int32) (x4 : Int32) (x5 : Int32) (σ : HS) (h : f_X11_takeGiven t x1 x2 x3 x4 x5 σ = fo) : G E F 0 [(0, .ref (E.2.2.1 t)), (1, .int x1), (2, .int x2), (3, .int x3), (4, .int x4), (5, .int x5)] [] σ := by
    refine g_aload_n hC dX11_takeGiven_0 rfl 0 rfl ?_
    refine g_getR (cj := 14) (k := 9) hC cr11 ui_11 ht1 ht2 (by decide) fl_X11_80 rfl rfl dX11_takeGiven_1 h hf (fun a1 ea1 ka1 na1 h => ?_)
    refine g_iconst (v := 0) hC dX11_takeGiven_4 (by decide) ?_
    refine g_iload_n hC dX11_takeGiven_5 rfl 1 rfl ?_
    refine g_iast hC ka1 na1 dX11_takeGiven_6 h hf (fun h => ?_)
    refine g_aload_n hC dX11_takeGiven_7 rfl 0 rfl ?_
    refine g_getR (cj := 14) (k := 9) hC cr11 ui_11 ht1 ht2 (by decide) fl_X11_80 rfl rfl dX11_takeGiven_8 h hf (fun a2 ea2 ka2 na2 h => ?_)
    refine g_iconst (v := 1) hC dX11_takeGiven_11 (by decide) ?_
    refine g_iload_n hC dX11_takeGiven_12 rfl 2 rfl ?_
    refine g_iast hC ka2 na2 dX11_takeGiven_13 h hf (fun h => ?_)
    refine g_aload_n hC dX11_takeGiven_14 rfl 0 rfl ?_
    refine g_getR (cj := 14) (k := 9) hC cr11 ui_11 ht1 ht2 (by decide) fl_X11_80 rfl rfl dX11_takeGiven_15 h hf (fun a3 ea3 ka3 na3 h => ?_)
    refine g_iconst (v := 2) hC dX11_takeGiven_18 (by decide) ?_
    refine g_iload_n hC dX11_takeGiven_19 rfl 3 rfl ?_
    refine g_iast hC ka3 na3 dX11_takeGiven_20 h hf (fun h => ?_)
    refine g_aload_n hC dX11_takeGiven_21 rfl 0 rfl ?_
    refine g_getR (cj := 14) (k := 9) hC cr11 ui_11 ht1 ht2 (by decide) fl_X11_80 rfl rfl dX11_takeGiven_22 h hf (fun a4 ea4 ka4 na4 h => ?_)
    refine g_iconst (v := 3) hC dX11_takeGiven_25 (by decide) ?_
    refine g_iload hC dX11_takeGiven_26 4 rfl ?_
    refine g_iast hC ka4 na4 dX11_takeGiven_28 h hf (fun h => ?_)
    refine g_iconst (v := 0) hC dX11_takeGiven_29 (by decide) ?_
    refine g_istore (lv' := [(6, .int 0), (0, .ref (E.2.2.1 t)), (1, .int x1), (2, .int x2), (3, .int x3), (4, .int x4), (5, .int x5)]) hC dX11_takeGiven_30 (by decide) rfl ?_
    exact g_sub [1, 6, 0] rfl (k_X11_takeGiven_32 hC hO hR hf t ht1 ht2 x5 FU 0 (sI (sI (sI (sI σ a1 (0 : Int32).toNatClampNeg x1) a2 (1 : Int32).toNatClampNeg x2) a3 (2 : Int32).toNatClampNeg x3) a4 (3 : Int32).toNatClampNeg x4) h)
theorem xk_X11_takeGiven (R : Room) (h1 : 0 + 1 ≤ R.frames) (h2 : 38 ≤ R.locals) : xw R yX11_takeGiven w_X11_takeGiven GT cX11_takeGiven 7 (some .boolean) rm_X11_takeGiven 5 := ⟨rfl, rfl, rfl, h1, h2, ⟨by decide, by decide⟩, by decide +kernel⟩
theorem c_X11_takeGiven (E : ET) (hE : EO E) (t : Nat) (ht1 : kd t = 11) (ht2 : AL E t) (x1 : Int32) (x2 : Int32) (x3 : Int32) (x4 : Int32) (x5 : Int32) (σ : HS) (hn : f_X11_takeGiven t x1 x2 x3 x4 x5 σ ≠ none) : CoI E yX11_takeGiven w_X11_takeGiven rm_X11_takeGiven [.ref (E.2.2.1 t), .int x1, .int x2, .int x3, .int x4, .int x5] σ (f_X11_takeGiven t x1 x2 x3 x4 x5 σ) := CoI.of (lv := [(0, .ref (E.2.2.1 t)), (1, .int x1), (2, .int x2), (3, .int x3), (4, .int x4), (5, .int x5)]) hE (plainFor_of_name (by decide)) rfl (Nat.le_of_ble_eq_true rfl) rfl (fun F hC hO hR => k_X11_takeGiven_0 hC hO hR hn t ht1 ht2 x1 x2 x3 x4 x5 σ rfl)
def rm_X11_thing : Room := { frames := 1, cells := 0, slots := 0, locals := 38 }
theorem wc_X11_takeGiven : Cond.code yX11_takeGiven cX11_takeGiven 7 (some .boolean) ∈ GT := gtr_11 _ (List.mem_of_getElem? (i := 16) rfl)
theorem gc_X11_107 : GoodIn GT (wsV RX11 107 RX11 yX11_takeGiven w_X11_takeGiven) := gi_V (gtr_11 _ (List.mem_of_getElem? (i := 13) rfl)) (gtr_11 _ (List.mem_of_getElem? (i := 14) rfl)) (gtr_11 _ (List.mem_of_getElem? (i := 15) rfl)) (gtr_1 _ (List.mem_of_getElem? (i := 2) rfl)) wc_X11_takeGiven
theorem wc_X9_tell : Cond.code yX9_tell cX9_tell 4 none ∈ GT := gtr_11 _ (List.mem_of_getElem? (i := 20) rfl)
theorem gc_X11_111 : GoodIn GT (wsV RX11 111 RX9 yX9_tell w_X9_tell) := gi_V (gtr_11 _ (List.mem_of_getElem? (i := 17) rfl)) (gtr_11 _ (List.mem_of_getElem? (i := 18) rfl)) (gtr_11 _ (List.mem_of_getElem? (i := 19) rfl)) (gtr_2 _ (List.mem_of_getElem? (i := 0) rfl)) wc_X9_tell
set_option maxHeartbeats 4000000 in
set_option maxRecDepth 100000 in
theorem k_X11_thing_25 {E : ET} {F : FT} {fo : Option (Int32 × HS)} (hC : Cx E F 6 cX11_thing RX11 GT) (hO : Ro F rm_X11_thing) (hR : RI E F .boolean fo) (hf : fo ≠ none) (σ : HS) (h : f_X11_thing_25 σ = fo) : G E F 25 [] [] σ := by
    refine g_iconst (v := 0) hC dX11_thing_25 (by decide) ?_
    exact g_iret hC hR dX11_thing_26 rfl h
set_option maxHeartbeats 4000000 in
set_option maxRecDepth 100000 in
theorem k_X11_thing_0 {E : ET} {F : FT} {fo : Option (Int32 × HS)} (hC : Cx E F 6 cX11_thing RX11 GT) (hO : Ro F rm_X11_thing) (hR : RI E F .boolean fo) (hf : fo ≠ none) (t : Nat) (ht1 : kd t = 11) (ht2 : AL E t) (x1 : Int32) (x2 : Int32) (x3 : Int32) (x4 : Int32) (x5 : Int32) (σ : HS) (h : f_X11_thing t x1 x2 x3 x4 x5 σ = fo) : G E F 0 [(0, .ref (E.2.2.1 t)), (1, .int x1), (2, .int x2), (3, .int x3), (4, .int x4), (5, .int x5)] [] σ := by
    refine g_iload_n hC dX11_thing_0 rfl 1 rfl ?_
    refine g_if_lt (tgt := 25) hC dX11_thing_1 (by decide) h (fun c1 h => ?_) (fun c1 h => ?_)
    · exact g_sub [] rfl (k_X11_thing_25 hC hO hR hf σ h)
    · refine g_iload_n hC dX11_thing_4 rfl 1 rfl ?_
      refine g_bipush (v := 8) hC dX11_thing_5 (by decide) ?_
      refine g_icmp_ge (tgt := 25) hC dX11_thing_7 (by decide) h (fun c7 h => ?_) (fun c7 h => ?_)
      · exact g_sub [] rfl (k_X11_thing_25 hC hO hR hf σ h)
      · refine g_aload_n hC dX11_thing_10 rfl 0 rfl ?_
        refine g_iload_n hC dX11_thing_11 rfl 2 rfl ?_
        refine g_iload_n hC dX11_thing_12 rfl 3 rfl ?_
        refine g_iload hC dX11_thing_13 4 rfl ?_
        refine g_iload hC dX11_thing_15 5 rfl ?_
        refine g_bipush (v := 100) hC dX11_thing_17 (by decide) ?_
        obtain ⟨q1, hq1, h⟩ := bd_of h hf
        refine g_cVI (As := [.int x2, .int x3, .int x4, .int x5, .int 100]) hC hO (c_X11_takeGiven _ hC.2.2.2.2.2.2.1 t ht1 ht2 x2 x3 x4 x5 100 σ (nn_of hq1)) gc_X11_107 (xk_X11_takeGiven _ (Nat.le_of_ble_eq_true rfl) (Nat.le_of_ble_eq_true rfl)) cr11 ht1 ht2 rfl (Nat.le_of_ble_eq_true rfl) dX11_thing_19 hq1 ?_
        refine g_if_ne (tgt := 27) hC dX11_thing_22 (by decide) h (fun c22 h => ?_) (fun c22 h => ?_)
        · refine g_aload_n hC dX11_thing_27 rfl 0 rfl ?_
          refine g_getR (cj := 9) (k := 2) hC cr11 ui_11 ht1 ht2 (by decide) fl_X11_28 rfl rfl dX11_thing_28 h hf (fun a2 ea2 ka2 na2 h => ?_)
          refine g_iload_n hC dX11_thing_31 rfl 1 rfl ?_
          refine g_aload_n hC dX11_thing_32 rfl 0 rfl ?_
          refine g_getR (cj := 14) (k := 9) hC cr11 ui_11 ht1 ht2 (by decide) fl_X11_80 rfl rfl dX11_thing_33 h hf (fun a3 ea3 ka3 na3 h => ?_)
          obtain ⟨q4, hq4, h⟩ := bd_of h hf
          refine g_cVV (As := [.int x1, .ref (E.2.2.1 a3)]) hC hO (c_X9_tell _ hC.2.2.2.2.2.2.1 a2 ka2 na2 x1 a3 ka3 na3 q1.2 (nn_of hq4)) gc_X11_111 (xk_X9_tell _ (Nat.le_of_ble_eq_true rfl) (Nat.le_of_ble_eq_true rfl)) cr9 ka2 na2 rfl (Nat.le_of_ble_eq_true rfl) dX11_thing_36 hq4 ?_
          refine g_aload_n hC dX11_thing_39 rfl 0 rfl ?_
          refine g_iconst (v := 1) hC dX11_thing_40 (by decide) ?_
          refine g_putZ (k := 18) hC cr11 ui_11 tyX11_ok nmX11 ht1 ht2 (by decide) fl_X11_115 rfl rfl rfl rfl dX11_thing_41 (by decide) ?_
          refine g_iconst (v := 1) hC dX11_thing_44 (by decide) ?_
          exact g_iret hC hR dX11_thing_45 rfl h
        · exact g_sub [] rfl (k_X11_thing_25 hC hO hR hf q1.2 h)
theorem xk_X11_thing (R : Room) (h1 : 1 + 1 ≤ R.frames) (h2 : 75 ≤ R.locals) : xw R yX11_thing w_X11_thing GT cX11_thing 6 (some .boolean) rm_X11_thing 5 := ⟨rfl, rfl, rfl, h1, h2, ⟨by decide, by decide⟩, by decide +kernel⟩
theorem c_X11_thing (E : ET) (hE : EO E) (t : Nat) (ht1 : kd t = 11) (ht2 : AL E t) (x1 : Int32) (x2 : Int32) (x3 : Int32) (x4 : Int32) (x5 : Int32) (σ : HS) (hn : f_X11_thing t x1 x2 x3 x4 x5 σ ≠ none) : CoI E yX11_thing w_X11_thing rm_X11_thing [.ref (E.2.2.1 t), .int x1, .int x2, .int x3, .int x4, .int x5] σ (f_X11_thing t x1 x2 x3 x4 x5 σ) := CoI.of (lv := [(0, .ref (E.2.2.1 t)), (1, .int x1), (2, .int x2), (3, .int x3), (4, .int x4), (5, .int x5)]) hE (plainFor_of_name (by decide)) rfl (Nat.le_of_ble_eq_true rfl) rfl (fun F hC hO hR => k_X11_thing_0 hC hO hR hn t ht1 ht2 x1 x2 x3 x4 x5 σ rfl)
def rm_X11_drop : Room := { frames := 1, cells := 0, slots := 0, locals := 33 }
theorem gc_X11_119 : GoodIn GT (wsV RX11 119 RX9 yX9_isTold w_X9_isTold) := gi_V (gtr_12 _ (List.mem_of_getElem? (i := 5) rfl)) (gtr_12 _ (List.mem_of_getElem? (i := 6) rfl)) (gtr_12 _ (List.mem_of_getElem? (i := 7) rfl)) (gtr_2 _ (List.mem_of_getElem? (i := 0) rfl)) wc_X9_isTold
set_option maxHeartbeats 4000000 in
set_option maxRecDepth 100000 in
theorem k_X11_drop_0 {E : ET} {F : FT} {fo : Option (Int32 × HS)} (hC : Cx E F 2 cX11_drop RX11 GT) (hO : Ro F rm_X11_drop) (hR : RI E F .boolean fo) (hf : fo ≠ none) (t : Nat) (ht1 : kd t = 11) (ht2 : AL E t) (x1 : Int32) (σ : HS) (h : f_X11_drop t x1 σ = fo) : G E F 0 [(0, .ref (E.2.2.1 t)), (1, .int x1)] [] σ := by
    refine g_aload_n hC dX11_drop_0 rfl 0 rfl ?_
    refine g_getR (cj := 9) (k := 2) hC cr11 ui_11 ht1 ht2 (by decide) fl_X11_28 rfl rfl dX11_drop_1 h hf (fun a1 ea1 ka1 na1 h => ?_)
    refine g_iload_n hC dX11_drop_4 rfl 1 rfl ?_
    obtain ⟨q2, hq2, h⟩ := bd_of h hf
    refine g_cVI (As := [.int x1]) hC hO (c_X9_isTold _ hC.2.2.2.2.2.2.1 a1 ka1 na1 x1 σ (nn_of hq2)) gc_X11_119 (xk_X9_isTold _ (Nat.le_of_ble_eq_true rfl) (Nat.le_of_ble_eq_true rfl)) cr9 ka1 na1 rfl (Nat.le_of_ble_eq_true rfl) dX11_drop_5 hq2 ?_
    refine g_if_ne (tgt := 13) hC dX11_drop_8 (by decide) h (fun c8 h => ?_) (fun c8 h => ?_)
    · refine g_aload_n hC dX11_drop_13 rfl 0 rfl ?_
      refine g_getR (cj := 9) (k := 2) hC cr11 ui_11 ht1 ht2 (by decide) fl_X11_28 rfl rfl dX11_drop_14 h hf (fun a3 ea3 ka3 na3 h => ?_)
      refine g_dup hC dX11_drop_17 rfl ?_
      refine g_getI (k := 3) hC cr9 ui_9 ka3 na3 (by decide) fl_X11_123 rfl rfl dX11_drop_18 ?_
      refine g_iconst (v := 1) hC dX11_drop_21 (by decide) ?_
      refine g_iload_n hC dX11_drop_22 rfl 1 rfl ?_
      refine g_ishl hC dX11_drop_23 ?_
      refine g_iconst (v := (-1)) hC dX11_drop_24 (by decide) ?_
      refine g_ixor hC dX11_drop_25 ?_
      refine g_iand hC dX11_drop_26 ?_
      refine g_putI (k := 3) hC cr9 ui_9 tyX9_ok nmX9 ka3 na3 (by decide) fl_X11_123 rfl rfl rfl rfl dX11_drop_27 ?_
      refine g_aload_n hC dX11_drop_30 rfl 0 rfl ?_
      refine g_iconst (v := 1) hC dX11_drop_31 (by decide) ?_
      refine g_putZ (k := 18) hC cr11 ui_11 tyX11_ok nmX11 ht1 ht2 (by decide) fl_X11_115 rfl rfl rfl rfl dX11_drop_32 (by decide) ?_
      refine g_iconst (v := 1) hC dX11_drop_35 (by decide) ?_
      exact g_iret hC hR dX11_drop_36 rfl h
    · refine g_iconst (v := 0) hC dX11_drop_11 (by decide) ?_
      exact g_iret hC hR dX11_drop_12 rfl h
theorem xk_X11_drop (R : Room) (h1 : 1 + 1 ≤ R.frames) (h2 : 66 ≤ R.locals) : xw R yX11_drop w_X11_drop GT cX11_drop 2 (some .boolean) rm_X11_drop 1 := ⟨rfl, rfl, rfl, h1, h2, ⟨by decide, by decide⟩, by decide +kernel⟩
theorem c_X11_drop (E : ET) (hE : EO E) (t : Nat) (ht1 : kd t = 11) (ht2 : AL E t) (x1 : Int32) (σ : HS) (hn : f_X11_drop t x1 σ ≠ none) : CoI E yX11_drop w_X11_drop rm_X11_drop [.ref (E.2.2.1 t), .int x1] σ (f_X11_drop t x1 σ) := CoI.of (lv := [(0, .ref (E.2.2.1 t)), (1, .int x1)]) hE (plainFor_of_name (by decide)) rfl (Nat.le_of_ble_eq_true rfl) rfl (fun F hC hO hR => k_X11_drop_0 hC hO hR hn t ht1 ht2 x1 σ rfl)
def rm_X11_feed : Room := { frames := 1, cells := 0, slots := 0, locals := 37 }
theorem fl_X11_10 : Cond.fieldLink RX11 10 "EveryMeasure" (TX11 0).2.1 (TX11 0).2.2.1 ∈ GT := gtr_1 _ (List.mem_of_getElem? (i := 17) rfl)
theorem wc_X8_put : Cond.code yX8_put cX8_put 6 none ∈ GT := gtr_13 _ (List.mem_of_getElem? (i := 1) rfl)
theorem gc_X11_127 : GoodIn GT (wsV RX11 127 RX8 yX8_put w_X8_put) := gi_V (gtr_12 _ (List.mem_of_getElem? (i := 22) rfl)) (gtr_12 _ (List.mem_of_getElem? (i := 23) rfl)) (gtr_13 _ (List.mem_of_getElem? (i := 0) rfl)) (gtr_1 _ (List.mem_of_getElem? (i := 16) rfl)) wc_X8_put
theorem fl_X11_131 : Cond.fieldLink RX11 131 "EveryMeasure$Tape" (TX8 1).2.1 (TX8 1).2.2.1 ∈ GT := gtr_12 _ (List.mem_of_getElem? (i := 21) rfl)
set_option maxHeartbeats 4000000 in
set_option maxRecDepth 100000 in
theorem k_X11_feed_0 {E : ET} {F : FT} {fo : Option (Int32 × HS)} (hC : Cx E F 7 cX11_feed RX11 GT) (hO : Ro F rm_X11_feed) (hR : RI E F .int fo) (hf : fo ≠ none) (t : Nat) (ht1 : kd t = 11) (ht2 : AL E t) (x1 : Int64) (x3 : Int64) (x5 : Int64) (σ : HS) (h : f_X11_feed t x1 x3 x5 σ = fo) : G E F 0 [(0, .ref (E.2.2.1 t)), (1, .long x1), (3, .long x3), (5, .long x5)] [] σ := by
    refine g_aload_n hC dX11_feed_0 rfl 0 rfl ?_
    refine g_getR (cj := 8) (k := 0) hC cr11 ui_11 ht1 ht2 (by decide) fl_X11_10 rfl rfl dX11_feed_1 h hf (fun a1 ea1 ka1 na1 h => ?_)
    refine g_lload_n hC dX11_feed_4 rfl 1 rfl ?_
    obtain ⟨q2, hq2, h⟩ := bd_of h hf
    refine g_cVV (As := [.long x1]) hC hO (c_X8_put _ hC.2.2.2.2.2.2.1 a1 ka1 na1 x1 σ (nn_of hq2)) gc_X11_127 (xk_X8_put _ (Nat.le_of_ble_eq_true rfl) (Nat.le_of_ble_eq_true rfl)) cr8 ka1 na1 rfl (Nat.le_of_ble_eq_true rfl) dX11_feed_5 hq2 ?_
    refine g_aload_n hC dX11_feed_8 rfl 0 rfl ?_
    refine g_getR (cj := 8) (k := 0) hC cr11 ui_11 ht1 ht2 (by decide) fl_X11_10 rfl rfl dX11_feed_9 h hf (fun a3 ea3 ka3 na3 h => ?_)
    refine g_lload_n hC dX11_feed_12 rfl 2 rfl ?_
    obtain ⟨q4, hq4, h⟩ := bd_of h hf
    refine g_cVV (As := [.long x3]) hC hO (c_X8_put _ hC.2.2.2.2.2.2.1 a3 ka3 na3 x3 q2 (nn_of hq4)) gc_X11_127 (xk_X8_put _ (Nat.le_of_ble_eq_true rfl) (Nat.le_of_ble_eq_true rfl)) cr8 ka3 na3 rfl (Nat.le_of_ble_eq_true rfl) dX11_feed_13 hq4 ?_
    refine g_aload_n hC dX11_feed_16 rfl 0 rfl ?_
    refine g_getR (cj := 8) (k := 0) hC cr11 ui_11 ht1 ht2 (by decide) fl_X11_10 rfl rfl dX11_feed_17 h hf (fun a5 ea5 ka5 na5 h => ?_)
    refine g_lload hC dX11_feed_20 3 rfl ?_
    obtain ⟨q6, hq6, h⟩ := bd_of h hf
    refine g_cVV (As := [.long x5]) hC hO (c_X8_put _ hC.2.2.2.2.2.2.1 a5 ka5 na5 x5 q4 (nn_of hq6)) gc_X11_127 (xk_X8_put _ (Nat.le_of_ble_eq_true rfl) (Nat.le_of_ble_eq_true rfl)) cr8 ka5 na5 rfl (Nat.le_of_ble_eq_true rfl) dX11_feed_22 hq6 ?_
    refine g_aload_n hC dX11_feed_25 rfl 0 rfl ?_
    refine g_getR (cj := 8) (k := 0) hC cr11 ui_11 ht1 ht2 (by decide) fl_X11_10 rfl rfl dX11_feed_26 h hf (fun a7 ea7 ka7 na7 h => ?_)
    refine g_getI (k := 1) hC cr8 ui_8 ka7 na7 (by decide) fl_X11_131 rfl rfl dX11_feed_29 ?_
    exact g_iret hC hR dX11_feed_32 rfl h
theorem xk_X11_feed (R : Room) (h1 : 1 + 1 ≤ R.frames) (h2 : 75 ≤ R.locals) : xw R yX11_feed w_X11_feed GT cX11_feed 7 (some .int) rm_X11_feed 3 := ⟨rfl, rfl, rfl, h1, h2, ⟨by decide, by decide⟩, by decide +kernel⟩
theorem c_X11_feed (E : ET) (hE : EO E) (t : Nat) (ht1 : kd t = 11) (ht2 : AL E t) (x1 : Int64) (x3 : Int64) (x5 : Int64) (σ : HS) (hn : f_X11_feed t x1 x3 x5 σ ≠ none) : CoI E yX11_feed w_X11_feed rm_X11_feed [.ref (E.2.2.1 t), .long x1, .long x3, .long x5] σ (f_X11_feed t x1 x3 x5 σ) := CoI.of (lv := [(0, .ref (E.2.2.1 t)), (1, .long x1), (3, .long x3), (5, .long x5)]) hE (plainFor_of_name (by decide)) rfl (Nat.le_of_ble_eq_true rfl) rfl (fun F hC hO hR => k_X11_feed_0 hC hO hR hn t ht1 ht2 x1 x3 x5 σ rfl)
def rm_X11_voices : Room := { frames := 0, cells := 0, slots := 0, locals := 0 }
set_option maxHeartbeats 4000000 in
set_option maxRecDepth 100000 in
theorem k_X11_voices_11 {E : ET} {F : FT} {fo : Option (Int32 × HS)} (hC : Cx E F 2 cX11_voices RX11 GT) (hO : Ro F rm_X11_voices) (hR : RI E F .boolean fo) (hf : fo ≠ none) (σ : HS) (h : f_X11_voices_11 σ = fo) : G E F 11 [] [] σ := by
    refine g_iconst (v := 0) hC dX11_voices_11 (by decide) ?_
    exact g_iret hC hR dX11_voices_12 rfl h
set_option maxHeartbeats 4000000 in
set_option maxRecDepth 100000 in
theorem k_X11_voices_0 {E : ET} {F : FT} {fo : Option (Int32 × HS)} (hC : Cx E F 2 cX11_voices RX11 GT) (hO : Ro F rm_X11_voices) (hR : RI E F .boolean fo) (hf : fo ≠ none) (t : Nat) (ht1 : kd t = 11) (ht2 : AL E t) (x1 : Int32) (σ : HS) (h : f_X11_voices t x1 σ = fo) : G E F 0 [(0, .ref (E.2.2.1 t)), (1, .int x1)] [] σ := by
    refine g_iload_n hC dX11_voices_0 rfl 1 rfl ?_
    refine g_if_lt (tgt := 11) hC dX11_voices_1 (by decide) h (fun c1 h => ?_) (fun c1 h => ?_)
    · exact g_sub [] rfl (k_X11_voices_11 hC hO hR hf σ h)
    · refine g_iload_n hC dX11_voices_4 rfl 1 rfl ?_
      refine g_sipush (v := 255) hC dX11_voices_5 (by decide) ?_
      refine g_icmp_le (tgt := 13) hC dX11_voices_8 (by decide) h (fun c8 h => ?_) (fun c8 h => ?_)
      · refine g_aload_n hC dX11_voices_13 rfl 0 rfl ?_
        refine g_iload_n hC dX11_voices_14 rfl 1 rfl ?_
        refine g_putI (k := 17) hC cr11 ui_11 tyX11_ok nmX11 ht1 ht2 (by decide) fl_X11_141 rfl rfl rfl rfl dX11_voices_15 ?_
        refine g_aload_n hC dX11_voices_18 rfl 0 rfl ?_
        refine g_iconst (v := 1) hC dX11_voices_19 (by decide) ?_
        refine g_putZ (k := 18) hC cr11 ui_11 tyX11_ok nmX11 ht1 ht2 (by decide) fl_X11_115 rfl rfl rfl rfl dX11_voices_20 (by decide) ?_
        refine g_iconst (v := 1) hC dX11_voices_23 (by decide) ?_
        exact g_iret hC hR dX11_voices_24 rfl h
      · exact g_sub [] rfl (k_X11_voices_11 hC hO hR hf σ h)
theorem xk_X11_voices (R : Room) (h1 : 0 + 1 ≤ R.frames) (h2 : 33 ≤ R.locals) : xw R yX11_voices w_X11_voices GT cX11_voices 2 (some .boolean) rm_X11_voices 1 := ⟨rfl, rfl, rfl, h1, h2, ⟨by decide, by decide⟩, by decide +kernel⟩
theorem c_X11_voices (E : ET) (hE : EO E) (t : Nat) (ht1 : kd t = 11) (ht2 : AL E t) (x1 : Int32) (σ : HS) (hn : f_X11_voices t x1 σ ≠ none) : CoI E yX11_voices w_X11_voices rm_X11_voices [.ref (E.2.2.1 t), .int x1] σ (f_X11_voices t x1 σ) := CoI.of (lv := [(0, .ref (E.2.2.1 t)), (1, .int x1)]) hE (plainFor_of_name (by decide)) rfl (Nat.le_of_ble_eq_true rfl) rfl (fun F hC hO hR => k_X11_voices_0 hC hO hR hn t ht1 ht2 x1 σ rfl)
def rm_X11_freshen : Room := { frames := 5, cells := 0, slots := 0, locals := 198 }
theorem wc_X9_valueBy : Cond.code yX9_valueBy cX9_valueBy 6 none ∈ GT := gtr_23 _ (List.mem_of_getElem? (i := 4) rfl)
theorem gc_X11_339 : GoodIn GT (wsV RX11 339 RX9 yX9_valueBy w_X9_valueBy) := gi_V (gtr_23 _ (List.mem_of_getElem? (i := 1) rfl)) (gtr_23 _ (List.mem_of_getElem? (i := 2) rfl)) (gtr_23 _ (List.mem_of_getElem? (i := 3) rfl)) (gtr_2 _ (List.mem_of_getElem? (i := 0) rfl)) wc_X9_valueBy
theorem fl_X11_35 : Cond.fieldLink RX11 35 "EveryMeasure" (TX11 3).2.1 (TX11 3).2.2.1 ∈ GT := gtr_2 _ (List.mem_of_getElem? (i := 5) rfl)
theorem wc_X10_workOut : Cond.code yX10_workOut cX10_workOut 6 none ∈ GT := gtr_23 _ (List.mem_of_getElem? (i := 12) rfl)
theorem gc_X11_343 : GoodIn GT (wsV RX11 343 RX10 yX10_workOut w_X10_workOut) := gi_V (gtr_23 _ (List.mem_of_getElem? (i := 9) rfl)) (gtr_23 _ (List.mem_of_getElem? (i := 10) rfl)) (gtr_23 _ (List.mem_of_getElem? (i := 11) rfl)) (gtr_2 _ (List.mem_of_getElem? (i := 4) rfl)) wc_X10_workOut
set_option maxHeartbeats 4000000 in
set_option maxRecDepth 100000 in
theorem k_X11_freshen_50 {E : ET} {F : FT} {fo : Option HS} (hC : Cx E F 1 cX11_freshen RX11 GT) (hO : Ro F rm_X11_freshen) (hR : RV E F fo) (hf : fo ≠ none) (σ : HS) (h : f_X11_freshen_50 σ = fo) : G E F 50 [] [] σ := by
    exact g_vret hC hR dX11_freshen_50 h
set_option maxHeartbeats 4000000 in
set_option maxRecDepth 100000 in
theorem k_X11_freshen_0 {E : ET} {F : FT} {fo : Option HS} (hC : Cx E F 1 cX11_freshen RX11 GT) (hO : Ro F rm_X11_freshen) (hR : RV E F fo) (hf : fo ≠ none) (t : Nat) (ht1 : kd t = 11) (ht2 : AL E t) (σ : HS) (h : f_X11_freshen t σ = fo) : G E F 0 [(0, .ref (E.2.2.1 t))] [] σ := by
    refine g_aload_n hC dX11_freshen_0 rfl 0 rfl ?_
    refine g_getI (k := 18) hC cr11 ui_11 ht1 ht2 (by decide) fl_X11_115 rfl rfl dX11_freshen_1 ?_
    refine g_if_eq (tgt := 50) hC dX11_freshen_4 (by decide) h (fun c4 h => ?_) (fun c4 h => ?_)
    · exact g_sub [] rfl (k_X11_freshen_50 hC hO hR hf σ h)
    · refine g_aload_n hC dX11_freshen_7 rfl 0 rfl ?_
      refine g_getR (cj := 9) (k := 2) hC cr11 ui_11 ht1 ht2 (by decide) fl_X11_28 rfl rfl dX11_freshen_8 h hf (fun a1 ea1 ka1 na1 h => ?_)
      refine g_aload_n hC dX11_freshen_11 rfl 0 rfl ?_
      refine g_getR (cj := 0) (k := 14) hC cr11 ui_11 ht1 ht2 (by decide) fl_X11_96 rfl rfl dX11_freshen_12 h hf (fun a2 ea2 ka2 na2 h => ?_)
      refine g_aload_n hC dX11_freshen_15 rfl 0 rfl ?_
      refine g_getI (k := 16) hC cr11 ui_11 ht1 ht2 (by decide) fl_X11_134 rfl rfl dX11_freshen_16 ?_
      obtain ⟨q3, hq3, h⟩ := bd_of h hf
      refine g_cVV (As := [.ref (E.2.2.1 a2), .int (σ.1 t 16)]) hC hO (c_X9_valueBy _ hC.2.2.2.2.2.2.1 a1 ka1 na1 a2 ka2 na2 (σ.1 t 16) σ (nn_of hq3)) gc_X11_339 (xk_X9_valueBy _ (Nat.le_of_ble_eq_true rfl) (Nat.le_of_ble_eq_true rfl)) cr9 ka1 na1 rfl (Nat.le_of_ble_eq_true rfl) dX11_freshen_19 hq3 ?_
      refine g_aload_n hC dX11_freshen_22 rfl 0 rfl ?_
      refine g_getR (cj := 10) (k := 3) hC cr11 ui_11 ht1 ht2 (by decide) fl_X11_35 rfl rfl dX11_freshen_23 h hf (fun a4 ea4 ka4 na4 h => ?_)
      refine g_aload_n hC dX11_freshen_26 rfl 0 rfl ?_
      refine g_getR (cj := 0) (k := 14) hC cr11 ui_11 ht1 ht2 (by decide) fl_X11_96 rfl rfl dX11_freshen_27 h hf (fun a5 ea5 ka5 na5 h => ?_)
      refine g_aload_n hC dX11_freshen_30 rfl 0 rfl ?_
      refine g_getR (cj := 9) (k := 2) hC cr11 ui_11 ht1 ht2 (by decide) fl_X11_28 rfl rfl dX11_freshen_31 h hf (fun a6 ea6 ka6 na6 h => ?_)
      refine g_aload_n hC dX11_freshen_34 rfl 0 rfl ?_
      refine g_getI (k := 17) hC cr11 ui_11 ht1 ht2 (by decide) fl_X11_141 rfl rfl dX11_freshen_35 ?_
      refine g_aload_n hC dX11_freshen_38 rfl 0 rfl ?_
      refine g_getI (k := 16) hC cr11 ui_11 ht1 ht2 (by decide) fl_X11_134 rfl rfl dX11_freshen_39 ?_
      obtain ⟨q7, hq7, h⟩ := bd_of h hf
      refine g_cVV (As := [.ref (E.2.2.1 a5), .ref (E.2.2.1 a6), .int (q3.1 t 17), .int (q3.1 t 16)]) hC hO (c_X10_workOut _ hC.2.2.2.2.2.2.1 a4 ka4 na4 a5 ka5 na5 a6 ka6 na6 (q3.1 t 17) (q3.1 t 16) q3 (nn_of hq7)) gc_X11_343 (xk_X10_workOut _ (Nat.le_of_ble_eq_true rfl) (Nat.le_of_ble_eq_true rfl)) cr10 ka4 na4 rfl (Nat.le_of_ble_eq_true rfl) dX11_freshen_42 hq7 ?_
      refine g_aload_n hC dX11_freshen_45 rfl 0 rfl ?_
      refine g_iconst (v := 0) hC dX11_freshen_46 (by decide) ?_
      refine g_putZ (k := 18) hC cr11 ui_11 tyX11_ok nmX11 ht1 ht2 (by decide) fl_X11_115 rfl rfl rfl rfl dX11_freshen_47 (by decide) ?_
      exact g_sub [] rfl (k_X11_freshen_50 hC hO hR hf (sI q7 t 18 0) h)
theorem xk_X11_freshen (R : Room) (h1 : 5 + 1 ≤ R.frames) (h2 : 230 ≤ R.locals) : xw R yX11_freshen w_X11_freshen GT cX11_freshen 1 none rm_X11_freshen 0 := ⟨rfl, rfl, rfl, h1, h2, ⟨by decide, by decide⟩, by decide +kernel⟩
theorem c_X11_freshen (E : ET) (hE : EO E) (t : Nat) (ht1 : kd t = 11) (ht2 : AL E t) (σ : HS) (hn : f_X11_freshen t σ ≠ none) : CoV E yX11_freshen w_X11_freshen rm_X11_freshen [.ref (E.2.2.1 t)] σ (f_X11_freshen t σ) := CoV.of (lv := [(0, .ref (E.2.2.1 t))]) hE (plainFor_of_name (by decide)) rfl (Nat.le_of_ble_eq_true rfl) rfl (fun F hC hO hR => k_X11_freshen_0 hC hO hR hn t ht1 ht2 σ rfl)
def rm_X11_standing : Room := { frames := 6, cells := 0, slots := 0, locals := 230 }
theorem wc_X11_freshen : Cond.code yX11_freshen cX11_freshen 1 none ∈ GT := gtr_23 _ (List.mem_of_getElem? (i := 0) rfl)
theorem gc_X11_144 : GoodIn GT (wsV RX11 144 RX11 yX11_freshen w_X11_freshen) := gi_V (gtr_22 _ (List.mem_of_getElem? (i := 21) rfl)) (gtr_22 _ (List.mem_of_getElem? (i := 22) rfl)) (gtr_22 _ (List.mem_of_getElem? (i := 23) rfl)) (gtr_1 _ (List.mem_of_getElem? (i := 2) rfl)) wc_X11_freshen
theorem gc_X11_161 : GoodIn GT (wsV RX11 161 RX9 yX9_isIn w_X9_isIn) := gi_V (gtr_27 _ (List.mem_of_getElem? (i := 13) rfl)) (gtr_27 _ (List.mem_of_getElem? (i := 14) rfl)) (gtr_27 _ (List.mem_of_getElem? (i := 15) rfl)) (gtr_2 _ (List.mem_of_getElem? (i := 0) rfl)) wc_X9_isIn
set_option maxHeartbeats 4000000 in
set_option maxRecDepth 100000 in
theorem k_X11_standing_33 {E : ET} {F : FT} {fo : Option (Int32 × HS)} (hC : Cx E F 2 cX11_standing RX11 GT) (hO : Ro F rm_X11_standing) (hR : RI E F .int fo) (hf : fo ≠ none) (s0 : Int32) (σ : HS) (h : f_X11_standing_33 s0 σ = fo) : G E F 33 [] [.int s0] σ := by
    exact g_iret hC hR dX11_standing_33 rfl h
set_option maxHeartbeats 4000000 in
set_option maxRecDepth 100000 in
theorem k_X11_standing_0 {E : ET} {F : FT} {fo : Option (Int32 × HS)} (hC : Cx E F 2 cX11_standing RX11 GT) (hO : Ro F rm_X11_standing) (hR : RI E F .int fo) (hf : fo ≠ none) (t : Nat) (ht1 : kd t = 11) (ht2 : AL E t) (x1 : Int32) (σ : HS) (h : f_X11_standing t x1 σ = fo) : G E F 0 [(0, .ref (E.2.2.1 t)), (1, .int x1)] [] σ := by
    refine g_aload_n hC dX11_standing_0 rfl 0 rfl ?_
    obtain ⟨q1, hq1, h⟩ := bd_of h hf
    refine g_cVV (As := []) hC hO (c_X11_freshen _ hC.2.2.2.2.2.2.1 t ht1 ht2 σ (nn_of hq1)) gc_X11_144 (xk_X11_freshen _ (Nat.le_of_ble_eq_true rfl) (Nat.le_of_ble_eq_true rfl)) cr11 ht1 ht2 rfl (Nat.le_of_ble_eq_true rfl) dX11_standing_1 hq1 ?_
    refine g_aload_n hC dX11_standing_4 rfl 0 rfl ?_
    refine g_getR (cj := 9) (k := 2) hC cr11 ui_11 ht1 ht2 (by decide) fl_X11_28 rfl rfl dX11_standing_5 h hf (fun a2 ea2 ka2 na2 h => ?_)
    refine g_iload_n hC dX11_standing_8 rfl 1 rfl ?_
    obtain ⟨q3, hq3, h⟩ := bd_of h hf
    refine g_cVI (As := [.int x1]) hC hO (c_X9_isTold _ hC.2.2.2.2.2.2.1 a2 ka2 na2 x1 q1 (nn_of hq3)) gc_X11_119 (xk_X9_isTold _ (Nat.le_of_ble_eq_true rfl) (Nat.le_of_ble_eq_true rfl)) cr9 ka2 na2 rfl (Nat.le_of_ble_eq_true rfl) dX11_standing_9 hq3 ?_
    refine g_if_ne (tgt := 17) hC dX11_standing_12 (by decide) h (fun c12 h => ?_) (fun c12 h => ?_)
    · refine g_aload_n hC dX11_standing_17 rfl 0 rfl ?_
      refine g_getR (cj := 9) (k := 2) hC cr11 ui_11 ht1 ht2 (by decide) fl_X11_28 rfl rfl dX11_standing_18 h hf (fun a4 ea4 ka4 na4 h => ?_)
      refine g_iload_n hC dX11_standing_21 rfl 1 rfl ?_
      obtain ⟨q5, hq5, h⟩ := bd_of h hf
      refine g_cVI (As := [.int x1]) hC hO (c_X9_isIn _ hC.2.2.2.2.2.2.1 a4 ka4 na4 x1 q3.2 (nn_of hq5)) gc_X11_161 (xk_X9_isIn _ (Nat.le_of_ble_eq_true rfl) (Nat.le_of_ble_eq_true rfl)) cr9 ka4 na4 rfl (Nat.le_of_ble_eq_true rfl) dX11_standing_22 hq5 ?_
      refine g_if_eq (tgt := 32) hC dX11_standing_25 (by decide) h (fun c25 h => ?_) (fun c25 h => ?_)
      · refine g_iconst (v := 0) hC dX11_standing_32 (by decide) ?_
        exact g_sub [] rfl (k_X11_standing_33 hC hO hR hf 0 q5.2 h)
      · refine g_iconst (v := 1) hC dX11_standing_28 (by decide) ?_
        refine g_goto (tgt := 33) hC dX11_standing_29 (by decide) ?_
        exact g_sub [] rfl (k_X11_standing_33 hC hO hR hf 1 q5.2 h)
    · refine g_iconst (v := (-1)) hC dX11_standing_15 (by decide) ?_
      exact g_iret hC hR dX11_standing_16 rfl h
theorem xk_X11_standing (R : Room) (h1 : 6 + 1 ≤ R.frames) (h2 : 263 ≤ R.locals) : xw R yX11_standing w_X11_standing GT cX11_standing 2 (some .int) rm_X11_standing 1 := ⟨rfl, rfl, rfl, h1, h2, ⟨by decide, by decide⟩, by decide +kernel⟩
theorem c_X11_standing (E : ET) (hE : EO E) (t : Nat) (ht1 : kd t = 11) (ht2 : AL E t) (x1 : Int32) (σ : HS) (hn : f_X11_standing t x1 σ ≠ none) : CoI E yX11_standing w_X11_standing rm_X11_standing [.ref (E.2.2.1 t), .int x1] σ (f_X11_standing t x1 σ) := CoI.of (lv := [(0, .ref (E.2.2.1 t)), (1, .int x1)]) hE (plainFor_of_name (by decide)) rfl (Nat.le_of_ble_eq_true rfl) rfl (fun F hC hO hR => k_X11_standing_0 hC hO hR hn t ht1 ht2 x1 σ rfl)
def rm_X11_sumOfGiven : Room := { frames := 0, cells := 0, slots := 0, locals := 0 }
set_option maxHeartbeats 4000000 in
set_option maxRecDepth 100000 in
theorem k_X11_sumOfGiven_0 {E : ET} {F : FT} {fo : Option (Int32 × HS)} (hC : Cx E F 1 cX11_sumOfGiven RX11 GT) (hO : Ro F rm_X11_sumOfGiven) (hR : RI E F .int fo) (hf : fo ≠ none) (t : Nat) (ht1 : kd t = 11) (ht2 : AL E t) (σ : HS) (h : f_X11_sumOfGiven t σ = fo) : G E F 0 [(0, .ref (E.2.2.1 t))] [] σ := by
    refine g_aload_n hC dX11_sumOfGiven_0 rfl 0 rfl ?_
    refine g_getR (cj := 14) (k := 9) hC cr11 ui_11 ht1 ht2 (by decide) fl_X11_80 rfl rfl dX11_sumOfGiven_1 h hf (fun a1 ea1 ka1 na1 h => ?_)
    refine g_iconst (v := 0) hC dX11_sumOfGiven_4 (by decide) ?_
    refine g_iald hC ka1 na1 dX11_sumOfGiven_5 h hf (fun h => ?_)
    refine g_aload_n hC dX11_sumOfGiven_6 rfl 0 rfl ?_
    refine g_getR (cj := 14) (k := 9) hC cr11 ui_11 ht1 ht2 (by decide) fl_X11_80 rfl rfl dX11_sumOfGiven_7 h hf (fun a2 ea2 ka2 na2 h => ?_)
    refine g_iconst (v := 1) hC dX11_sumOfGiven_10 (by decide) ?_
    refine g_iald hC ka2 na2 dX11_sumOfGiven_11 h hf (fun h => ?_)
    refine g_iadd hC dX11_sumOfGiven_12 ?_
    refine g_aload_n hC dX11_sumOfGiven_13 rfl 0 rfl ?_
    refine g_getR (cj := 14) (k := 9) hC cr11 ui_11 ht1 ht2 (by decide) fl_X11_80 rfl rfl dX11_sumOfGiven_14 h hf (fun a3 ea3 ka3 na3 h => ?_)
    refine g_iconst (v := 2) hC dX11_sumOfGiven_17 (by decide) ?_
    refine g_iald hC ka3 na3 dX11_sumOfGiven_18 h hf (fun h => ?_)
    refine g_iadd hC dX11_sumOfGiven_19 ?_
    refine g_aload_n hC dX11_sumOfGiven_20 rfl 0 rfl ?_
    refine g_getR (cj := 14) (k := 9) hC cr11 ui_11 ht1 ht2 (by decide) fl_X11_80 rfl rfl dX11_sumOfGiven_21 h hf (fun a4 ea4 ka4 na4 h => ?_)
    refine g_iconst (v := 3) hC dX11_sumOfGiven_24 (by decide) ?_
    refine g_iald hC ka4 na4 dX11_sumOfGiven_25 h hf (fun h => ?_)
    refine g_iadd hC dX11_sumOfGiven_26 ?_
    exact g_iret hC hR dX11_sumOfGiven_27 rfl h
theorem xk_X11_sumOfGiven (R : Room) (h1 : 0 + 1 ≤ R.frames) (h2 : 32 ≤ R.locals) : xw R yX11_sumOfGiven w_X11_sumOfGiven GT cX11_sumOfGiven 1 (some .int) rm_X11_sumOfGiven 0 := ⟨rfl, rfl, rfl, h1, h2, ⟨by decide, by decide⟩, by decide +kernel⟩
theorem c_X11_sumOfGiven (E : ET) (hE : EO E) (t : Nat) (ht1 : kd t = 11) (ht2 : AL E t) (σ : HS) (hn : f_X11_sumOfGiven t σ ≠ none) : CoI E yX11_sumOfGiven w_X11_sumOfGiven rm_X11_sumOfGiven [.ref (E.2.2.1 t)] σ (f_X11_sumOfGiven t σ) := CoI.of (lv := [(0, .ref (E.2.2.1 t))]) hE (plainFor_of_name (by decide)) rfl (Nat.le_of_ble_eq_true rfl) rfl (fun F hC hO hR => k_X11_sumOfGiven_0 hC hO hR hn t ht1 ht2 σ rfl)
def rm_X11_takeWeights : Room := { frames := 1, cells := 0, slots := 0, locals := 38 }
theorem wc_X11_sumOfGiven : Cond.code yX11_sumOfGiven cX11_sumOfGiven 1 (some .int) ∈ GT := gtr_28 _ (List.mem_of_getElem? (i := 12) rfl)
theorem gc_X11_175 : GoodIn GT (wsV RX11 175 RX11 yX11_sumOfGiven w_X11_sumOfGiven) := gi_V (gtr_28 _ (List.mem_of_getElem? (i := 9) rfl)) (gtr_28 _ (List.mem_of_getElem? (i := 10) rfl)) (gtr_28 _ (List.mem_of_getElem? (i := 11) rfl)) (gtr_1 _ (List.mem_of_getElem? (i := 2) rfl)) wc_X11_sumOfGiven
set_option maxHeartbeats 4000000 in
set_option maxRecDepth 100000 in
theorem k_X11_takeWeights_27 {E : ET} {F : FT} {fo : Option (Int32 × HS)} (hC : Cx E F 5 cX11_takeWeights RX11 GT) (hO : Ro F rm_X11_takeWeights) (hR : RI E F .boolean fo) (hf : fo ≠ none) (s0 : Int32) (σ : HS) (h : f_X11_takeWeights_27 s0 σ = fo) : G E F 27 [] [.int s0] σ := by
    obtain ⟨hz, h⟩ := zr_of h hf
    exact g_iret hC hR dX11_takeWeights_27 hz h
set_option maxHeartbeats 4000000 in
set_option maxRecDepth 100000 in
theorem k_X11_takeWeights_26 {E : ET} {F : FT} {fo : Option (Int32 × HS)} (hC : Cx E F 5 cX11_takeWeights RX11 GT) (hO : Ro F rm_X11_takeWeights) (hR : RI E F .boolean fo) (hf : fo ≠ none) (σ : HS) (h : f_X11_takeWeights_26 σ = fo) : G E F 26 [] [] σ := by
    refine g_iconst (v := 0) hC dX11_takeWeights_26 (by decide) ?_
    exact g_sub [] rfl (k_X11_takeWeights_27 hC hO hR hf 0 σ h)
set_option maxHeartbeats 4000000 in
set_option maxRecDepth 100000 in
theorem k_X11_takeWeights_0 {E : ET} {F : FT} {fo : Option (Int32 × HS)} (hC : Cx E F 5 cX11_takeWeights RX11 GT) (hO : Ro F rm_X11_takeWeights) (hR : RI E F .boolean fo) (hf : fo ≠ none) (t : Nat) (ht1 : kd t = 11) (ht2 : AL E t) (x1 : Int32) (x2 : Int32) (x3 : Int32) (x4 : Int32) (σ : HS) (h : f_X11_takeWeights t x1 x2 x3 x4 σ = fo) : G E F 0 [(0, .ref (E.2.2.1 t)), (1, .int x1), (2, .int x2), (3, .int x3), (4, .int x4)] [] σ := by
    refine g_aload_n hC dX11_takeWeights_0 rfl 0 rfl ?_
    refine g_iload_n hC dX11_takeWeights_1 rfl 1 rfl ?_
    refine g_iload_n hC dX11_takeWeights_2 rfl 2 rfl ?_
    refine g_iload_n hC dX11_takeWeights_3 rfl 3 rfl ?_
    refine g_iload hC dX11_takeWeights_4 4 rfl ?_
    refine g_sipush (v := 999) hC dX11_takeWeights_6 (by decide) ?_
    obtain ⟨q1, hq1, h⟩ := bd_of h hf
    refine g_cVI (As := [.int x1, .int x2, .int x3, .int x4, .int 999]) hC hO (c_X11_takeGiven _ hC.2.2.2.2.2.2.1 t ht1 ht2 x1 x2 x3 x4 999 σ (nn_of hq1)) gc_X11_107 (xk_X11_takeGiven _ (Nat.le_of_ble_eq_true rfl) (Nat.le_of_ble_eq_true rfl)) cr11 ht1 ht2 rfl (Nat.le_of_ble_eq_true rfl) dX11_takeWeights_9 hq1 ?_
    refine g_if_eq (tgt := 26) hC dX11_takeWeights_12 (by decide) h (fun c12 h => ?_) (fun c12 h => ?_)
    · exact g_sub [] rfl (k_X11_takeWeights_26 hC hO hR hf q1.2 h)
    · refine g_aload_n hC dX11_takeWeights_15 rfl 0 rfl ?_
      obtain ⟨q2, hq2, h⟩ := bd_of h hf
      refine g_cVI (As := []) hC hO (c_X11_sumOfGiven _ hC.2.2.2.2.2.2.1 t ht1 ht2 q1.2 (nn_of hq2)) gc_X11_175 (xk_X11_sumOfGiven _ (Nat.le_of_ble_eq_true rfl) (Nat.le_of_ble_eq_true rfl)) cr11 ht1 ht2 rfl (Nat.le_of_ble_eq_true rfl) dX11_takeWeights_16 hq2 ?_
      refine g_if_le (tgt := 26) hC dX11_takeWeights_19 (by decide) h (fun c19 h => ?_) (fun c19 h => ?_)
      · exact g_sub [] rfl (k_X11_takeWeights_26 hC hO hR hf q2.2 h)
      · refine g_iconst (v := 1) hC dX11_takeWeights_22 (by decide) ?_
        refine g_goto (tgt := 27) hC dX11_takeWeights_23 (by decide) ?_
        exact g_sub [] rfl (k_X11_takeWeights_27 hC hO hR hf 1 q2.2 h)
theorem xk_X11_takeWeights (R : Room) (h1 : 1 + 1 ≤ R.frames) (h2 : 74 ≤ R.locals) : xw R yX11_takeWeights w_X11_takeWeights GT cX11_takeWeights 5 (some .boolean) rm_X11_takeWeights 4 := ⟨rfl, rfl, rfl, h1, h2, ⟨by decide, by decide⟩, by decide +kernel⟩
theorem c_X11_takeWeights (E : ET) (hE : EO E) (t : Nat) (ht1 : kd t = 11) (ht2 : AL E t) (x1 : Int32) (x2 : Int32) (x3 : Int32) (x4 : Int32) (σ : HS) (hn : f_X11_takeWeights t x1 x2 x3 x4 σ ≠ none) : CoI E yX11_takeWeights w_X11_takeWeights rm_X11_takeWeights [.ref (E.2.2.1 t), .int x1, .int x2, .int x3, .int x4] σ (f_X11_takeWeights t x1 x2 x3 x4 σ) := CoI.of (lv := [(0, .ref (E.2.2.1 t)), (1, .int x1), (2, .int x2), (3, .int x3), (4, .int x4)]) hE (plainFor_of_name (by decide)) rfl (Nat.le_of_ble_eq_true rfl) rfl (fun F hC hO hR => k_X11_takeWeights_0 hC hO hR hn t ht1 ht2 x1 x2 x3 x4 σ rfl)
def rm_X11_isPart : Room := { frames := 0, cells := 0, slots := 0, locals := 0 }
set_option maxHeartbeats 4000000 in
set_option maxRecDepth 100000 in
theorem k_X11_isPart_14 {E : ET} {F : FT} {fo : Option (Int32 × HS)} (hC : Cx E F 1 cX11_isPart RX11 GT) (hO : Ro F rm_X11_isPart) (hR : RI E F .boolean fo) (hf : fo ≠ none) (s0 : Int32) (σ : HS) (h : f_X11_isPart_14 s0 σ = fo) : G E F 14 [] [.int s0] σ := by
    obtain ⟨hz, h⟩ := zr_of h hf
    exact g_iret hC hR dX11_isPart_14 hz h
set_option maxHeartbeats 4000000 in
set_option maxRecDepth 100000 in
theorem k_X11_isPart_9 {E : ET} {F : FT} {fo : Option (Int32 × HS)} (hC : Cx E F 1 cX11_isPart RX11 GT) (hO : Ro F rm_X11_isPart) (hR : RI E F .boolean fo) (hf : fo ≠ none) (σ : HS) (h : f_X11_isPart_9 σ = fo) : G E F 9 [] [] σ := by
    refine g_iconst (v := 1) hC dX11_isPart_9 (by decide) ?_
    refine g_goto (tgt := 14) hC dX11_isPart_10 (by decide) ?_
    exact g_sub [] rfl (k_X11_isPart_14 hC hO hR hf 1 σ h)
set_option maxHeartbeats 4000000 in
set_option maxRecDepth 100000 in
theorem k_X11_isPart_0 {E : ET} {F : FT} {fo : Option (Int32 × HS)} (hC : Cx E F 1 cX11_isPart RX11 GT) (hO : Ro F rm_X11_isPart) (hR : RI E F .boolean fo) (hf : fo ≠ none) (x0 : Int32) (σ : HS) (h : f_X11_isPart x0 σ = fo) : G E F 0 [(0, .int x0)] [] σ := by
    refine g_iload_n hC dX11_isPart_0 rfl 0 rfl ?_
    refine g_if_eq (tgt := 9) hC dX11_isPart_1 (by decide) h (fun c1 h => ?_) (fun c1 h => ?_)
    · exact g_sub [] rfl (k_X11_isPart_9 hC hO hR hf σ h)
    · refine g_iload_n hC dX11_isPart_4 rfl 0 rfl ?_
      refine g_iconst (v := 1) hC dX11_isPart_5 (by decide) ?_
      refine g_icmp_ne (tgt := 13) hC dX11_isPart_6 (by decide) h (fun c6 h => ?_) (fun c6 h => ?_)
      · refine g_iconst (v := 0) hC dX11_isPart_13 (by decide) ?_
        exact g_sub [] rfl (k_X11_isPart_14 hC hO hR hf 0 σ h)
      · exact g_sub [] rfl (k_X11_isPart_9 hC hO hR hf σ h)
theorem xk_X11_isPart (R : Room) (h1 : 0 + 1 ≤ R.frames) (h2 : 32 ≤ R.locals) : xw R yX11_isPart w_X11_isPart GT cX11_isPart 1 (some .boolean) rm_X11_isPart 1 := ⟨rfl, rfl, rfl, h1, h2, ⟨by decide, by decide⟩, by decide +kernel⟩
theorem c_X11_isPart (E : ET) (hE : EO E) (x0 : Int32) (σ : HS) (hn : f_X11_isPart x0 σ ≠ none) : CoI E yX11_isPart w_X11_isPart rm_X11_isPart [.int x0] σ (f_X11_isPart x0 σ) := CoI.of (lv := [(0, .int x0)]) hE (plainFor_of_name (by decide)) rfl (Nat.le_of_ble_eq_true rfl) rfl (fun F hC hO hR => k_X11_isPart_0 hC hO hR hn x0 σ rfl)
def rm_X11_productWithGiven : Room := { frames := 0, cells := 0, slots := 0, locals := 0 }
set_option maxHeartbeats 4000000 in
set_option maxRecDepth 100000 in
theorem k_X11_productWithGiven_0 {E : ET} {F : FT} {fo : Option (Int32 × HS)} (hC : Cx E F 2 cX11_productWithGiven RX11 GT) (hO : Ro F rm_X11_productWithGiven) (hR : RI E F .int fo) (hf : fo ≠ none) (t : Nat) (ht1 : kd t = 11) (ht2 : AL E t) (x1 : Nat) (hx1a : kd x1 = 14) (hx1b : AL E x1) (σ : HS) (h : f_X11_productWithGiven t x1 σ = fo) : G E F 0 [(0, .ref (E.2.2.1 t)), (1, .ref (E.2.2.1 x1))] [] σ := by
    refine g_aload_n hC dX11_productWithGiven_0 rfl 1 rfl ?_
    refine g_iconst (v := 0) hC dX11_productWithGiven_1 (by decide) ?_
    refine g_iald hC hx1a hx1b dX11_productWithGiven_2 h hf (fun h => ?_)
    refine g_aload_n hC dX11_productWithGiven_3 rfl 0 rfl ?_
    refine g_getR (cj := 14) (k := 9) hC cr11 ui_11 ht1 ht2 (by decide) fl_X11_80 rfl rfl dX11_productWithGiven_4 h hf (fun a1 ea1 ka1 na1 h => ?_)
    refine g_iconst (v := 0) hC dX11_productWithGiven_7 (by decide) ?_
    refine g_iald hC ka1 na1 dX11_productWithGiven_8 h hf (fun h => ?_)
    refine g_imul hC dX11_productWithGiven_9 ?_
    refine g_aload_n hC dX11_productWithGiven_10 rfl 1 rfl ?_
    refine g_iconst (v := 1) hC dX11_productWithGiven_11 (by decide) ?_
    refine g_iald hC hx1a hx1b dX11_productWithGiven_12 h hf (fun h => ?_)
    refine g_aload_n hC dX11_productWithGiven_13 rfl 0 rfl ?_
    refine g_getR (cj := 14) (k := 9) hC cr11 ui_11 ht1 ht2 (by decide) fl_X11_80 rfl rfl dX11_productWithGiven_14 h hf (fun a2 ea2 ka2 na2 h => ?_)
    refine g_iconst (v := 1) hC dX11_productWithGiven_17 (by decide) ?_
    refine g_iald hC ka2 na2 dX11_productWithGiven_18 h hf (fun h => ?_)
    refine g_imul hC dX11_productWithGiven_19 ?_
    refine g_iadd hC dX11_productWithGiven_20 ?_
    refine g_aload_n hC dX11_productWithGiven_21 rfl 1 rfl ?_
    refine g_iconst (v := 2) hC dX11_productWithGiven_22 (by decide) ?_
    refine g_iald hC hx1a hx1b dX11_productWithGiven_23 h hf (fun h => ?_)
    refine g_aload_n hC dX11_productWithGiven_24 rfl 0 rfl ?_
    refine g_getR (cj := 14) (k := 9) hC cr11 ui_11 ht1 ht2 (by decide) fl_X11_80 rfl rfl dX11_productWithGiven_25 h hf (fun a3 ea3 ka3 na3 h => ?_)
    refine g_iconst (v := 2) hC dX11_productWithGiven_28 (by decide) ?_
    refine g_iald hC ka3 na3 dX11_productWithGiven_29 h hf (fun h => ?_)
    refine g_imul hC dX11_productWithGiven_30 ?_
    refine g_iadd hC dX11_productWithGiven_31 ?_
    refine g_aload_n hC dX11_productWithGiven_32 rfl 1 rfl ?_
    refine g_iconst (v := 3) hC dX11_productWithGiven_33 (by decide) ?_
    refine g_iald hC hx1a hx1b dX11_productWithGiven_34 h hf (fun h => ?_)
    refine g_aload_n hC dX11_productWithGiven_35 rfl 0 rfl ?_
    refine g_getR (cj := 14) (k := 9) hC cr11 ui_11 ht1 ht2 (by decide) fl_X11_80 rfl rfl dX11_productWithGiven_36 h hf (fun a4 ea4 ka4 na4 h => ?_)
    refine g_iconst (v := 3) hC dX11_productWithGiven_39 (by decide) ?_
    refine g_iald hC ka4 na4 dX11_productWithGiven_40 h hf (fun h => ?_)
    refine g_imul hC dX11_productWithGiven_41 ?_
    refine g_iadd hC dX11_productWithGiven_42 ?_
    exact g_iret hC hR dX11_productWithGiven_43 rfl h
theorem xk_X11_productWithGiven (R : Room) (h1 : 0 + 1 ≤ R.frames) (h2 : 33 ≤ R.locals) : xw R yX11_productWithGiven w_X11_productWithGiven GT cX11_productWithGiven 2 (some .int) rm_X11_productWithGiven 1 := ⟨rfl, rfl, rfl, h1, h2, ⟨by decide, by decide⟩, by decide +kernel⟩
theorem c_X11_productWithGiven (E : ET) (hE : EO E) (t : Nat) (ht1 : kd t = 11) (ht2 : AL E t) (x1 : Nat) (hx1a : kd x1 = 14) (hx1b : AL E x1) (σ : HS) (hn : f_X11_productWithGiven t x1 σ ≠ none) : CoI E yX11_productWithGiven w_X11_productWithGiven rm_X11_productWithGiven [.ref (E.2.2.1 t), .ref (E.2.2.1 x1)] σ (f_X11_productWithGiven t x1 σ) := CoI.of (lv := [(0, .ref (E.2.2.1 t)), (1, .ref (E.2.2.1 x1))]) hE (plainFor_of_name (by decide)) rfl (Nat.le_of_ble_eq_true rfl) rfl (fun F hC hO hR => k_X11_productWithGiven_0 hC hO hR hn t ht1 ht2 x1 hx1a hx1b σ rfl)
def rm_X11_good : Room := { frames := 6, cells := 0, slots := 0, locals := 230 }
theorem wc_X11_takeWeights : Cond.code yX11_takeWeights cX11_takeWeights 5 (some .boolean) ∈ GT := gtr_28 _ (List.mem_of_getElem? (i := 8) rfl)
theorem gc_X11_164 : GoodIn GT (wsV RX11 164 RX11 yX11_takeWeights w_X11_takeWeights) := gi_V (gtr_28 _ (List.mem_of_getElem? (i := 5) rfl)) (gtr_28 _ (List.mem_of_getElem? (i := 6) rfl)) (gtr_28 _ (List.mem_of_getElem? (i := 7) rfl)) (gtr_1 _ (List.mem_of_getElem? (i := 2) rfl)) wc_X11_takeWeights
theorem wc_X11_isPart : Cond.code yX11_isPart cX11_isPart 1 (some .boolean) ∈ GT := gtr_28 _ (List.mem_of_getElem? (i := 15) rfl)
theorem gc_X11_168 : GoodIn GT (va_wsS RX11 168 yX11_isPart w_X11_isPart) := gi_S (gtr_28 _ (List.mem_of_getElem? (i := 13) rfl)) (gtr_28 _ (List.mem_of_getElem? (i := 14) rfl)) (gtr_1 _ (List.mem_of_getElem? (i := 2) rfl)) wc_X11_isPart
theorem fl_X11_76 : Cond.fieldLink RX11 76 "EveryMeasure" (TX11 8).2.1 (TX11 8).2.2.1 ∈ GT := gtr_3 _ (List.mem_of_getElem? (i := 1) rfl)
theorem fl_X11_157 : Cond.fieldLink RX11 157 "EveryMeasure$Things" (TX9 1).2.1 (TX9 1).2.2.1 ∈ GT := gtr_22 _ (List.mem_of_getElem? (i := 20) rfl)
theorem wc_X11_productWithGiven : Cond.code yX11_productWithGiven cX11_productWithGiven 2 (some .int) ∈ GT := gtr_28 _ (List.mem_of_getElem? (i := 19) rfl)
theorem gc_X11_171 : GoodIn GT (wsV RX11 171 RX11 yX11_productWithGiven w_X11_productWithGiven) := gi_V (gtr_28 _ (List.mem_of_getElem? (i := 16) rfl)) (gtr_28 _ (List.mem_of_getElem? (i := 17) rfl)) (gtr_28 _ (List.mem_of_getElem? (i := 18) rfl)) (gtr_1 _ (List.mem_of_getElem? (i := 2) rfl)) wc_X11_productWithGiven
theorem gc_X11_179 : GoodIn GT (wsV RX11 179 RX3 yX3_become w_X3_become) := gi_V (gtr_28 _ (List.mem_of_getElem? (i := 20) rfl)) (gtr_28 _ (List.mem_of_getElem? (i := 21) rfl)) (gtr_28 _ (List.mem_of_getElem? (i := 22) rfl)) (gtr_3 _ (List.mem_of_getElem? (i := 0) rfl)) wc_X3_become
theorem wc_X3_reduce : Cond.code yX3_reduce cX3_reduce 3 none ∈ GT := gtr_29 _ (List.mem_of_getElem? (i := 3) rfl)
theorem gc_X11_183 : GoodIn GT (wsV RX11 183 RX3 yX3_reduce w_X3_reduce) := gi_V (gtr_29 _ (List.mem_of_getElem? (i := 0) rfl)) (gtr_29 _ (List.mem_of_getElem? (i := 1) rfl)) (gtr_29 _ (List.mem_of_getElem? (i := 2) rfl)) (gtr_3 _ (List.mem_of_getElem? (i := 0) rfl)) wc_X3_reduce
theorem wc_X3_part : Cond.code yX3_part cX3_part 2 (some .long) ∈ GT := gtr_29 _ (List.mem_of_getElem? (i := 8) rfl)
theorem gc_X11_186 : GoodIn GT (wsV RX11 186 RX3 yX3_part w_X3_part) := gi_V (gtr_29 _ (List.mem_of_getElem? (i := 5) rfl)) (gtr_29 _ (List.mem_of_getElem? (i := 6) rfl)) (gtr_29 _ (List.mem_of_getElem? (i := 7) rfl)) (gtr_3 _ (List.mem_of_getElem? (i := 0) rfl)) wc_X3_part
set_option maxHeartbeats 4000000 in
set_option maxRecDepth 100000 in
theorem k_X11_good_36 {E : ET} {F : FT} {fo : Option (Int32 × HS)} (hC : Cx E F 7 cX11_good RX11 GT) (hO : Ro F rm_X11_good) (hR : RI E F .int fo) (hf : fo ≠ none) (σ : HS) (h : f_X11_good_36 σ = fo) : G E F 36 [] [] σ := by
    refine g_iconst (v := (-1)) hC dX11_good_36 (by decide) ?_
    exact g_iret hC hR dX11_good_37 rfl h
set_option maxHeartbeats 4000000 in
set_option maxRecDepth 100000 in
theorem k_X11_good_0 {E : ET} {F : FT} {fo : Option (Int32 × HS)} (hC : Cx E F 7 cX11_good RX11 GT) (hO : Ro F rm_X11_good) (hR : RI E F .int fo) (hf : fo ≠ none) (t : Nat) (ht1 : kd t = 11) (ht2 : AL E t) (x1 : Int32) (x2 : Int32) (x3 : Int32) (x4 : Int32) (x5 : Int32) (x6 : Int32) (σ : HS) (h : f_X11_good t x1 x2 x3 x4 x5 x6 σ = fo) : G E F 0 [(0, .ref (E.2.2.1 t)), (1, .int x1), (2, .int x2), (3, .int x3), (4, .int x4), (5, .int x5), (6, .int x6)] [] σ := by
    refine g_aload_n hC dX11_good_0 rfl 0 rfl ?_
    obtain ⟨q1, hq1, h⟩ := bd_of h hf
    refine g_cVV (As := []) hC hO (c_X11_freshen _ hC.2.2.2.2.2.2.1 t ht1 ht2 σ (nn_of hq1)) gc_X11_144 (xk_X11_freshen _ (Nat.le_of_ble_eq_true rfl) (Nat.le_of_ble_eq_true rfl)) cr11 ht1 ht2 rfl (Nat.le_of_ble_eq_true rfl) dX11_good_1 hq1 ?_
    refine g_aload_n hC dX11_good_4 rfl 0 rfl ?_
    refine g_getR (cj := 9) (k := 2) hC cr11 ui_11 ht1 ht2 (by decide) fl_X11_28 rfl rfl dX11_good_5 h hf (fun a2 ea2 ka2 na2 h => ?_)
    refine g_iload_n hC dX11_good_8 rfl 1 rfl ?_
    obtain ⟨q3, hq3, h⟩ := bd_of h hf
    refine g_cVI (As := [.int x1]) hC hO (c_X9_isTold _ hC.2.2.2.2.2.2.1 a2 ka2 na2 x1 q1 (nn_of hq3)) gc_X11_119 (xk_X9_isTold _ (Nat.le_of_ble_eq_true rfl) (Nat.le_of_ble_eq_true rfl)) cr9 ka2 na2 rfl (Nat.le_of_ble_eq_true rfl) dX11_good_9 hq3 ?_
    refine g_if_eq (tgt := 36) hC dX11_good_12 (by decide) h (fun c12 h => ?_) (fun c12 h => ?_)
    · exact g_sub [] rfl (k_X11_good_36 hC hO hR hf q3.2 h)
    · refine g_aload_n hC dX11_good_15 rfl 0 rfl ?_
      refine g_iload_n hC dX11_good_16 rfl 2 rfl ?_
      refine g_iload_n hC dX11_good_17 rfl 3 rfl ?_
      refine g_iload hC dX11_good_18 4 rfl ?_
      refine g_iload hC dX11_good_20 5 rfl ?_
      obtain ⟨q4, hq4, h⟩ := bd_of h hf
      refine g_cVI (As := [.int x2, .int x3, .int x4, .int x5]) hC hO (c_X11_takeWeights _ hC.2.2.2.2.2.2.1 t ht1 ht2 x2 x3 x4 x5 q3.2 (nn_of hq4)) gc_X11_164 (xk_X11_takeWeights _ (Nat.le_of_ble_eq_true rfl) (Nat.le_of_ble_eq_true rfl)) cr11 ht1 ht2 rfl (Nat.le_of_ble_eq_true rfl) dX11_good_22 hq4 ?_
      refine g_if_eq (tgt := 36) hC dX11_good_25 (by decide) h (fun c25 h => ?_) (fun c25 h => ?_)
      · exact g_sub [] rfl (k_X11_good_36 hC hO hR hf q4.2 h)
      · refine g_iload hC dX11_good_28 6 rfl ?_
        obtain ⟨q5, hq5, h⟩ := bd_of h hf
        refine g_cSI (As := [.int x6]) hC hO (c_X11_isPart _ hC.2.2.2.2.2.2.1 x6 q4.2 (nn_of hq5)) gc_X11_168 (xk_X11_isPart _ (Nat.le_of_ble_eq_true rfl) (Nat.le_of_ble_eq_true rfl)) rfl (Nat.le_of_ble_eq_true rfl) dX11_good_30 hq5 ?_
        refine g_if_ne (tgt := 38) hC dX11_good_33 (by decide) h (fun c33 h => ?_) (fun c33 h => ?_)
        · refine g_aload_n hC dX11_good_38 rfl 0 rfl ?_
          refine g_getR (cj := 3) (k := 8) hC cr11 ui_11 ht1 ht2 (by decide) fl_X11_76 rfl rfl dX11_good_39 h hf (fun a6 ea6 ka6 na6 h => ?_)
          refine g_aload_n hC dX11_good_42 rfl 0 rfl ?_
          refine g_aload_n hC dX11_good_43 rfl 0 rfl ?_
          refine g_getR (cj := 9) (k := 2) hC cr11 ui_11 ht1 ht2 (by decide) fl_X11_28 rfl rfl dX11_good_44 h hf (fun a7 ea7 ka7 na7 h => ?_)
          refine g_getR (cj := 18) (k := 1) hC cr9 ui_9 ka7 na7 (by decide) fl_X11_157 rfl rfl dX11_good_47 h hf (fun a8 ea8 ka8 na8 h => ?_)
          refine g_iload_n hC dX11_good_50 rfl 1 rfl ?_
          refine g_aaldI (cj := 14) hC ka8 na8 dX11_good_51 h hf (fun a9 ea9 ka9 na9 h => ?_)
          obtain ⟨q10, hq10, h⟩ := bd_of h hf
          refine g_cVI (As := [.ref (E.2.2.1 a9)]) hC hO (c_X11_productWithGiven _ hC.2.2.2.2.2.2.1 t ht1 ht2 a9 ka9 na9 q5.2 (nn_of hq10)) gc_X11_171 (xk_X11_productWithGiven _ (Nat.le_of_ble_eq_true rfl) (Nat.le_of_ble_eq_true rfl)) cr11 ht1 ht2 rfl (Nat.le_of_ble_eq_true rfl) dX11_good_52 hq10 ?_
          refine g_i2l hC dX11_good_55 ?_
          refine g_aload_n hC dX11_good_56 rfl 0 rfl ?_
          obtain ⟨q11, hq11, h⟩ := bd_of h hf
          refine g_cVI (As := []) hC hO (c_X11_sumOfGiven _ hC.2.2.2.2.2.2.1 t ht1 ht2 q10.2 (nn_of hq11)) gc_X11_175 (xk_X11_sumOfGiven _ (Nat.le_of_ble_eq_true rfl) (Nat.le_of_ble_eq_true rfl)) cr11 ht1 ht2 rfl (Nat.le_of_ble_eq_true rfl) dX11_good_57 hq11 ?_
          refine g_i2l hC dX11_good_60 ?_
          obtain ⟨q12, hq12, h⟩ := bd_of h hf
          refine g_cVV (As := [.long q10.1.toInt64, .long q11.1.toInt64]) hC hO (c_X3_become _ hC.2.2.2.2.2.2.1 a6 ka6 na6 q10.1.toInt64 q11.1.toInt64 q11.2 (nn_of hq12)) gc_X11_179 (xk_X3_become _ (Nat.le_of_ble_eq_true rfl) (Nat.le_of_ble_eq_true rfl)) cr3 ka6 na6 rfl (Nat.le_of_ble_eq_true rfl) dX11_good_61 hq12 ?_
          refine g_aload_n hC dX11_good_64 rfl 0 rfl ?_
          refine g_getR (cj := 3) (k := 8) hC cr11 ui_11 ht1 ht2 (by decide) fl_X11_76 rfl rfl dX11_good_65 h hf (fun a13 ea13 ka13 na13 h => ?_)
          obtain ⟨q14, hq14, h⟩ := bd_of h hf
          refine g_cVV (As := []) hC hO (c_X3_reduce _ hC.2.2.2.2.2.2.1 a13 ka13 na13 q12 (nn_of hq14)) gc_X11_183 (xk_X3_reduce _ (Nat.le_of_ble_eq_true rfl) (Nat.le_of_ble_eq_true rfl)) cr3 ka13 na13 rfl (Nat.le_of_ble_eq_true rfl) dX11_good_68 hq14 ?_
          refine g_aload_n hC dX11_good_71 rfl 0 rfl ?_
          refine g_getR (cj := 3) (k := 8) hC cr11 ui_11 ht1 ht2 (by decide) fl_X11_76 rfl rfl dX11_good_72 h hf (fun a15 ea15 ka15 na15 h => ?_)
          refine g_iload hC dX11_good_75 6 rfl ?_
          obtain ⟨q16, hq16, h⟩ := bd_of h hf
          refine g_cVJ (As := [.int x6]) hC hO (c_X3_part _ hC.2.2.2.2.2.2.1 a15 ka15 na15 x6 q14 (nn_of hq16)) gc_X11_186 (xk_X3_part _ (Nat.le_of_ble_eq_true rfl) (Nat.le_of_ble_eq_true rfl)) cr3 ka15 na15 rfl (Nat.le_of_ble_eq_true rfl) dX11_good_77 hq16 ?_
          refine g_l2i hC dX11_good_80 ?_
          exact g_iret hC hR dX11_good_81 rfl h
        · exact g_sub [] rfl (k_X11_good_36 hC hO hR hf q5.2 h)
theorem xk_X11_good (R : Room) (h1 : 6 + 1 ≤ R.frames) (h2 : 268 ≤ R.locals) : xw R yX11_good w_X11_good GT cX11_good 7 (some .int) rm_X11_good 6 := ⟨rfl, rfl, rfl, h1, h2, ⟨by decide, by decide⟩, by decide +kernel⟩
theorem c_X11_good (E : ET) (hE : EO E) (t : Nat) (ht1 : kd t = 11) (ht2 : AL E t) (x1 : Int32) (x2 : Int32) (x3 : Int32) (x4 : Int32) (x5 : Int32) (x6 : Int32) (σ : HS) (hn : f_X11_good t x1 x2 x3 x4 x5 x6 σ ≠ none) : CoI E yX11_good w_X11_good rm_X11_good [.ref (E.2.2.1 t), .int x1, .int x2, .int x3, .int x4, .int x5, .int x6] σ (f_X11_good t x1 x2 x3 x4 x5 x6 σ) := CoI.of (lv := [(0, .ref (E.2.2.1 t)), (1, .int x1), (2, .int x2), (3, .int x3), (4, .int x4), (5, .int x5), (6, .int x6)]) hE (plainFor_of_name (by decide)) rfl (Nat.le_of_ble_eq_true rfl) rfl (fun F hC hO hR => k_X11_good_0 hC hO hR hn t ht1 ht2 x1 x2 x3 x4 x5 x6 σ rfl)
def rm_X11_fits : Room := { frames := 6, cells := 0, slots := 0, locals := 230 }
theorem fl_X11_190 : Cond.fieldLink RX11 190 "EveryMeasure$Weights" (TX10 4).2.1 (TX10 4).2.2.1 ∈ GT := gtr_30 _ (List.mem_of_getElem? (i := 8) rfl)
theorem fl_X11_193 : Cond.fieldLink RX11 193 "EveryMeasure$Weights" (TX10 0).2.1 (TX10 0).2.2.1 ∈ GT := gtr_30 _ (List.mem_of_getElem? (i := 9) rfl)
set_option maxHeartbeats 4000000 in
set_option maxRecDepth 100000 in
theorem k_X11_fits_62 {E : ET} {F : FT} {fo : Option (Int32 × HS)} (hC : Cx E F 6 cX11_fits RX11 GT) (hO : Ro F rm_X11_fits) (hR : RI E F .int fo) (hf : fo ≠ none) (t : Nat) (ht1 : kd t = 11) (ht2 : AL E t) (x5 : Int32) (r21 : Int32 → HS → Option (Int32 × HS)) (h21 : ∀ (x5 : Int32) (σ : HS), r21 x5 σ = fo → G E F 21 [(0, .ref (E.2.2.1 t)), (5, .int x5)] [] σ) (σ : HS) (h : f_X11_fits_62 r21 t x5 σ = fo) : G E F 62 [(0, .ref (E.2.2.1 t)), (5, .int x5)] [] σ := by
    refine g_iinc (v := x5 + 1) (lv' := [(5, .int (x5 + 1)), (0, .ref (E.2.2.1 t))]) hC dX11_fits_62 1 rfl rfl (by decide) rfl ?_
    refine g_goto (tgt := 21) hC dX11_fits_65 (by decide) ?_
    exact g_sub [1, 0] rfl (h21 (x5 + 1) σ h)
set_option maxHeartbeats 4000000 in
set_option maxRecDepth 100000 in
theorem k_X11_fits_21 {E : ET} {F : FT} {fo : Option (Int32 × HS)} (hC : Cx E F 6 cX11_fits RX11 GT) (hO : Ro F rm_X11_fits) (hR : RI E F .int fo) (hf : fo ≠ none) (t : Nat) (ht1 : kd t = 11) (ht2 : AL E t) : ∀ (n : Nat) (x5 : Int32) (σ : HS), f_X11_fits_21 t n x5 σ = fo → G E F 21 [(0, .ref (E.2.2.1 t)), (5, .int x5)] [] σ := by
  intro n
  induction n with
  | zero =>
    intro x5 σ h
    exact absurd (h.symm.trans rfl) hf
  | succ n ih =>
    intro x5 σ h
    refine g_iload hC dX11_fits_21 1 rfl ?_
    refine g_bipush (v := 12) hC dX11_fits_23 (by decide) ?_
    refine g_icmp_ge (tgt := 68) hC dX11_fits_25 (by decide) h (fun c25 h => ?_) (fun c25 h => ?_)
    · refine g_iconst (v := 1) hC dX11_fits_68 (by decide) ?_
      exact g_iret hC hR dX11_fits_69 rfl h
    · refine g_aload_n hC dX11_fits_28 rfl 0 rfl ?_
      refine g_getR (cj := 10) (k := 3) hC cr11 ui_11 ht1 ht2 (by decide) fl_X11_35 rfl rfl dX11_fits_29 h hf (fun a1 ea1 ka1 na1 h => ?_)
      refine g_getI (k := 4) hC cr10 ui_10 ka1 na1 (by decide) fl_X11_190 rfl rfl dX11_fits_32 ?_
      refine g_iconst (v := 1) hC dX11_fits_35 (by decide) ?_
      refine g_iload hC dX11_fits_36 1 rfl ?_
      refine g_ishl hC dX11_fits_38 ?_
      refine g_iand hC dX11_fits_39 ?_
      refine g_if_eq (tgt := 62) hC dX11_fits_40 (by decide) h (fun c40 h => ?_) (fun c40 h => ?_)
      · exact g_sub [0, 1] rfl (k_X11_fits_62 hC hO hR hf t ht1 ht2 x5 (f_X11_fits_21 t n) ih σ h)
      · refine g_aload_n hC dX11_fits_43 rfl 0 rfl ?_
        refine g_aload_n hC dX11_fits_44 rfl 0 rfl ?_
        refine g_getR (cj := 10) (k := 3) hC cr11 ui_11 ht1 ht2 (by decide) fl_X11_35 rfl rfl dX11_fits_45 h hf (fun a2 ea2 ka2 na2 h => ?_)
        refine g_getR (cj := 18) (k := 0) hC cr10 ui_10 ka2 na2 (by decide) fl_X11_193 rfl rfl dX11_fits_48 h hf (fun a3 ea3 ka3 na3 h => ?_)
        refine g_iload hC dX11_fits_51 1 rfl ?_
        refine g_aaldI (cj := 14) hC ka3 na3 dX11_fits_53 h hf (fun a4 ea4 ka4 na4 h => ?_)
        obtain ⟨q5, hq5, h⟩ := bd_of h hf
        refine g_cVI (As := [.ref (E.2.2.1 a4)]) hC hO (c_X11_productWithGiven _ hC.2.2.2.2.2.2.1 t ht1 ht2 a4 ka4 na4 σ (nn_of hq5)) gc_X11_171 (xk_X11_productWithGiven _ (Nat.le_of_ble_eq_true rfl) (Nat.le_of_ble_eq_true rfl)) cr11 ht1 ht2 rfl (Nat.le_of_ble_eq_true rfl) dX11_fits_54 hq5 ?_
        refine g_if_ge (tgt := 62) hC dX11_fits_57 (by decide) h (fun c57 h => ?_) (fun c57 h => ?_)
        · exact g_sub [0, 1] rfl (k_X11_fits_62 hC hO hR hf t ht1 ht2 x5 (f_X11_fits_21 t n) ih q5.2 h)
        · refine g_iconst (v := 0) hC dX11_fits_60 (by decide) ?_
          exact g_iret hC hR dX11_fits_61 rfl h
set_option maxHeartbeats 4000000 in
set_option maxRecDepth 100000 in
theorem k_X11_fits_0 {E : ET} {F : FT} {fo : Option (Int32 × HS)} (hC : Cx E F 6 cX11_fits RX11 GT) (hO : Ro F rm_X11_fits) (hR : RI E F .int fo) (hf : fo ≠ none) (t : Nat) (ht1 : kd t = 11) (ht2 : AL E t) (x1 : Int32) (x2 : Int32) (x3 : Int32) (x4 : Int32) (σ : HS) (h : f_X11_fits t x1 x2 x3 x4 σ = fo) : G E F 0 [(0, .ref (E.2.2.1 t)), (1, .int x1), (2, .int x2), (3, .int x3), (4, .int x4)] [] σ := by
    refine g_aload_n hC dX11_fits_0 rfl 0 rfl ?_
    obtain ⟨q1, hq1, h⟩ := bd_of h hf
    refine g_cVV (As := []) hC hO (c_X11_freshen _ hC.2.2.2.2.2.2.1 t ht1 ht2 σ (nn_of hq1)) gc_X11_144 (xk_X11_freshen _ (Nat.le_of_ble_eq_true rfl) (Nat.le_of_ble_eq_true rfl)) cr11 ht1 ht2 rfl (Nat.le_of_ble_eq_true rfl) dX11_fits_1 hq1 ?_
    refine g_aload_n hC dX11_fits_4 rfl 0 rfl ?_
    refine g_iload_n hC dX11_fits_5 rfl 1 rfl ?_
    refine g_iload_n hC dX11_fits_6 rfl 2 rfl ?_
    refine g_iload_n hC dX11_fits_7 rfl 3 rfl ?_
    refine g_iload hC dX11_fits_8 4 rfl ?_
    obtain ⟨q2, hq2, h⟩ := bd_of h hf
    refine g_cVI (As := [.int x1, .int x2, .int x3, .int x4]) hC hO (c_X11_takeWeights _ hC.2.2.2.2.2.2.1 t ht1 ht2 x1 x2 x3 x4 q1 (nn_of hq2)) gc_X11_164 (xk_X11_takeWeights _ (Nat.le_of_ble_eq_true rfl) (Nat.le_of_ble_eq_true rfl)) cr11 ht1 ht2 rfl (Nat.le_of_ble_eq_true rfl) dX11_fits_10 hq2 ?_
    refine g_if_ne (tgt := 18) hC dX11_fits_13 (by decide) h (fun c13 h => ?_) (fun c13 h => ?_)
    · refine g_iconst (v := 0) hC dX11_fits_18 (by decide) ?_
      refine g_istore (lv' := [(5, .int 0), (0, .ref (E.2.2.1 t)), (1, .int x1), (2, .int x2), (3, .int x3), (4, .int x4)]) hC dX11_fits_19 (by decide) rfl ?_
      exact g_sub [1, 0] rfl (k_X11_fits_21 hC hO hR hf t ht1 ht2 FU 0 q2.2 h)
    · refine g_iconst (v := (-1)) hC dX11_fits_16 (by decide) ?_
      exact g_iret hC hR dX11_fits_17 rfl h
theorem xk_X11_fits (R : Room) (h1 : 6 + 1 ≤ R.frames) (h2 : 267 ≤ R.locals) : xw R yX11_fits w_X11_fits GT cX11_fits 6 (some .int) rm_X11_fits 4 := ⟨rfl, rfl, rfl, h1, h2, ⟨by decide, by decide⟩, by decide +kernel⟩
theorem c_X11_fits (E : ET) (hE : EO E) (t : Nat) (ht1 : kd t = 11) (ht2 : AL E t) (x1 : Int32) (x2 : Int32) (x3 : Int32) (x4 : Int32) (σ : HS) (hn : f_X11_fits t x1 x2 x3 x4 σ ≠ none) : CoI E yX11_fits w_X11_fits rm_X11_fits [.ref (E.2.2.1 t), .int x1, .int x2, .int x3, .int x4] σ (f_X11_fits t x1 x2 x3 x4 σ) := CoI.of (lv := [(0, .ref (E.2.2.1 t)), (1, .int x1), (2, .int x2), (3, .int x3), (4, .int x4)]) hE (plainFor_of_name (by decide)) rfl (Nat.le_of_ble_eq_true rfl) rfl (fun F hC hO hR => k_X11_fits_0 hC hO hR hn t ht1 ht2 x1 x2 x3 x4 σ rfl)
def rm_X11_hasMeasure : Room := { frames := 0, cells := 0, slots := 0, locals := 0 }
set_option maxHeartbeats 4000000 in
set_option maxRecDepth 100000 in
theorem k_X11_hasMeasure_17 {E : ET} {F : FT} {fo : Option (Int32 × HS)} (hC : Cx E F 2 cX11_hasMeasure RX11 GT) (hO : Ro F rm_X11_hasMeasure) (hR : RI E F .boolean fo) (hf : fo ≠ none) (s0 : Int32) (σ : HS) (h : f_X11_hasMeasure_17 s0 σ = fo) : G E F 17 [] [.int s0] σ := by
    obtain ⟨hz, h⟩ := zr_of h hf
    exact g_iret hC hR dX11_hasMeasure_17 hz h
set_option maxHeartbeats 4000000 in
set_option maxRecDepth 100000 in
theorem k_X11_hasMeasure_16 {E : ET} {F : FT} {fo : Option (Int32 × HS)} (hC : Cx E F 2 cX11_hasMeasure RX11 GT) (hO : Ro F rm_X11_hasMeasure) (hR : RI E F .boolean fo) (hf : fo ≠ none) (σ : HS) (h : f_X11_hasMeasure_16 σ = fo) : G E F 16 [] [] σ := by
    refine g_iconst (v := 0) hC dX11_hasMeasure_16 (by decide) ?_
    exact g_sub [] rfl (k_X11_hasMeasure_17 hC hO hR hf 0 σ h)
set_option maxHeartbeats 4000000 in
set_option maxRecDepth 100000 in
theorem k_X11_hasMeasure_0 {E : ET} {F : FT} {fo : Option (Int32 × HS)} (hC : Cx E F 2 cX11_hasMeasure RX11 GT) (hO : Ro F rm_X11_hasMeasure) (hR : RI E F .boolean fo) (hf : fo ≠ none) (t : Nat) (ht1 : kd t = 11) (ht2 : AL E t) (x1 : Int32) (σ : HS) (h : f_X11_hasMeasure t x1 σ = fo) : G E F 0 [(0, .ref (E.2.2.1 t)), (1, .int x1)] [] σ := by
    refine g_iload_n hC dX11_hasMeasure_0 rfl 1 rfl ?_
    refine g_if_lt (tgt := 16) hC dX11_hasMeasure_1 (by decide) h (fun c1 h => ?_) (fun c1 h => ?_)
    · exact g_sub [] rfl (k_X11_hasMeasure_16 hC hO hR hf σ h)
    · refine g_iload_n hC dX11_hasMeasure_4 rfl 1 rfl ?_
      refine g_aload_n hC dX11_hasMeasure_5 rfl 0 rfl ?_
      refine g_getI (k := 16) hC cr11 ui_11 ht1 ht2 (by decide) fl_X11_134 rfl rfl dX11_hasMeasure_6 ?_
      refine g_icmp_ge (tgt := 16) hC dX11_hasMeasure_9 (by decide) h (fun c9 h => ?_) (fun c9 h => ?_)
      · exact g_sub [] rfl (k_X11_hasMeasure_16 hC hO hR hf σ h)
      · refine g_iconst (v := 1) hC dX11_hasMeasure_12 (by decide) ?_
        refine g_goto (tgt := 17) hC dX11_hasMeasure_13 (by decide) ?_
        exact g_sub [] rfl (k_X11_hasMeasure_17 hC hO hR hf 1 σ h)
theorem xk_X11_hasMeasure (R : Room) (h1 : 0 + 1 ≤ R.frames) (h2 : 33 ≤ R.locals) : xw R yX11_hasMeasure w_X11_hasMeasure GT cX11_hasMeasure 2 (some .boolean) rm_X11_hasMeasure 1 := ⟨rfl, rfl, rfl, h1, h2, ⟨by decide, by decide⟩, by decide +kernel⟩
theorem c_X11_hasMeasure (E : ET) (hE : EO E) (t : Nat) (ht1 : kd t = 11) (ht2 : AL E t) (x1 : Int32) (σ : HS) (hn : f_X11_hasMeasure t x1 σ ≠ none) : CoI E yX11_hasMeasure w_X11_hasMeasure rm_X11_hasMeasure [.ref (E.2.2.1 t), .int x1] σ (f_X11_hasMeasure t x1 σ) := CoI.of (lv := [(0, .ref (E.2.2.1 t)), (1, .int x1)]) hE (plainFor_of_name (by decide)) rfl (Nat.le_of_ble_eq_true rfl) rfl (fun F hC hO hR => k_X11_hasMeasure_0 hC hO hR hn t ht1 ht2 x1 σ rfl)
def rm_X11_corner : Room := { frames := 6, cells := 0, slots := 0, locals := 230 }
theorem cl_X11_205 : Cond.constantLong RX11 205 (-1) ∈ GT := gtr_33 _ (List.mem_of_getElem? (i := 2) rfl)
theorem fl_X11_196 : Cond.fieldLink RX11 196 "EveryMeasure$Weights" (TX10 2).2.1 (TX10 2).2.2.1 ∈ GT := gtr_33 _ (List.mem_of_getElem? (i := 0) rfl)
theorem fl_X11_200 : Cond.fieldLink RX11 200 "EveryMeasure$Cone" (TX1 5).2.1 (TX1 5).2.2.1 ∈ GT := gtr_33 _ (List.mem_of_getElem? (i := 1) rfl)
theorem wc_X11_hasMeasure : Cond.code yX11_hasMeasure cX11_hasMeasure 2 (some .boolean) ∈ GT := gtr_26 _ (List.mem_of_getElem? (i := 16) rfl)
theorem gc_X11_147 : GoodIn GT (wsV RX11 147 RX11 yX11_hasMeasure w_X11_hasMeasure) := gi_V (gtr_26 _ (List.mem_of_getElem? (i := 13) rfl)) (gtr_26 _ (List.mem_of_getElem? (i := 14) rfl)) (gtr_26 _ (List.mem_of_getElem? (i := 15) rfl)) (gtr_1 _ (List.mem_of_getElem? (i := 2) rfl)) wc_X11_hasMeasure
theorem gc_X11_207 : GoodIn GT (wsV RX11 207 RX1 yX1_weight w_X1_weight) := gi_V (gtr_33 _ (List.mem_of_getElem? (i := 3) rfl)) (gtr_24 _ (List.mem_of_getElem? (i := 20) rfl)) (gtr_24 _ (List.mem_of_getElem? (i := 21) rfl)) (gtr_4 _ (List.mem_of_getElem? (i := 21) rfl)) wc_X1_weight
set_option maxHeartbeats 4000000 in
set_option maxRecDepth 100000 in
theorem k_X11_corner_30 {E : ET} {F : FT} {fo : Option (Int64 × HS)} (hC : Cx E F 3 cX11_corner RX11 GT) (hO : Ro F rm_X11_corner) (hR : RJ E F fo) (hf : fo ≠ none) (σ : HS) (h : f_X11_corner_30 σ = fo) : G E F 30 [] [] σ := by
    refine g_ldc2 (v := (-1)) hC cl_X11_205 dX11_corner_30 ?_
    exact g_lret hC hR dX11_corner_33 h
set_option maxHeartbeats 4000000 in
set_option maxRecDepth 100000 in
theorem k_X11_corner_0 {E : ET} {F : FT} {fo : Option (Int64 × HS)} (hC : Cx E F 3 cX11_corner RX11 GT) (hO : Ro F rm_X11_corner) (hR : RJ E F fo) (hf : fo ≠ none) (t : Nat) (ht1 : kd t = 11) (ht2 : AL E t) (x1 : Int32) (x2 : Int32) (σ : HS) (h : f_X11_corner t x1 x2 σ = fo) : G E F 0 [(0, .ref (E.2.2.1 t)), (1, .int x1), (2, .int x2)] [] σ := by
    refine g_aload_n hC dX11_corner_0 rfl 0 rfl ?_
    obtain ⟨q1, hq1, h⟩ := bd_of h hf
    refine g_cVV (As := []) hC hO (c_X11_freshen _ hC.2.2.2.2.2.2.1 t ht1 ht2 σ (nn_of hq1)) gc_X11_144 (xk_X11_freshen _ (Nat.le_of_ble_eq_true rfl) (Nat.le_of_ble_eq_true rfl)) cr11 ht1 ht2 rfl (Nat.le_of_ble_eq_true rfl) dX11_corner_1 hq1 ?_
    refine g_iload_n hC dX11_corner_4 rfl 1 rfl ?_
    refine g_if_lt (tgt := 30) hC dX11_corner_5 (by decide) h (fun c5 h => ?_) (fun c5 h => ?_)
    · exact g_sub [] rfl (k_X11_corner_30 hC hO hR hf q1 h)
    · refine g_iload_n hC dX11_corner_8 rfl 1 rfl ?_
      refine g_aload_n hC dX11_corner_9 rfl 0 rfl ?_
      refine g_getR (cj := 10) (k := 3) hC cr11 ui_11 ht1 ht2 (by decide) fl_X11_35 rfl rfl dX11_corner_10 h hf (fun a2 ea2 ka2 na2 h => ?_)
      refine g_getR (cj := 1) (k := 2) hC cr10 ui_10 ka2 na2 (by decide) fl_X11_196 rfl rfl dX11_corner_13 h hf (fun a3 ea3 ka3 na3 h => ?_)
      refine g_getI (k := 5) hC cr1 ui_1 ka3 na3 (by decide) fl_X11_200 rfl rfl dX11_corner_16 ?_
      refine g_icmp_ge (tgt := 30) hC dX11_corner_19 (by decide) h (fun c19 h => ?_) (fun c19 h => ?_)
      · exact g_sub [] rfl (k_X11_corner_30 hC hO hR hf q1 h)
      · refine g_aload_n hC dX11_corner_22 rfl 0 rfl ?_
        refine g_iload_n hC dX11_corner_23 rfl 2 rfl ?_
        obtain ⟨q4, hq4, h⟩ := bd_of h hf
        refine g_cVI (As := [.int x2]) hC hO (c_X11_hasMeasure _ hC.2.2.2.2.2.2.1 t ht1 ht2 x2 q1 (nn_of hq4)) gc_X11_147 (xk_X11_hasMeasure _ (Nat.le_of_ble_eq_true rfl) (Nat.le_of_ble_eq_true rfl)) cr11 ht1 ht2 rfl (Nat.le_of_ble_eq_true rfl) dX11_corner_24 hq4 ?_
        refine g_if_ne (tgt := 34) hC dX11_corner_27 (by decide) h (fun c27 h => ?_) (fun c27 h => ?_)
        · refine g_aload_n hC dX11_corner_34 rfl 0 rfl ?_
          refine g_getR (cj := 10) (k := 3) hC cr11 ui_11 ht1 ht2 (by decide) fl_X11_35 rfl rfl dX11_corner_35 h hf (fun a5 ea5 ka5 na5 h => ?_)
          refine g_getR (cj := 1) (k := 2) hC cr10 ui_10 ka5 na5 (by decide) fl_X11_196 rfl rfl dX11_corner_38 h hf (fun a6 ea6 ka6 na6 h => ?_)
          refine g_iload_n hC dX11_corner_41 rfl 1 rfl ?_
          refine g_iload_n hC dX11_corner_42 rfl 2 rfl ?_
          obtain ⟨q7, hq7, h⟩ := bd_of h hf
          refine g_cVJ (As := [.int x1, .int x2]) hC hO (c_X1_weight _ hC.2.2.2.2.2.2.1 a6 ka6 na6 x1 x2 q4.2 (nn_of hq7)) gc_X11_207 (xk_X1_weight _ (Nat.le_of_ble_eq_true rfl) (Nat.le_of_ble_eq_true rfl)) cr1 ka6 na6 rfl (Nat.le_of_ble_eq_true rfl) dX11_corner_43 hq7 ?_
          exact g_lret hC hR dX11_corner_46 h
        · exact g_sub [] rfl (k_X11_corner_30 hC hO hR hf q4.2 h)
theorem xk_X11_corner (R : Room) (h1 : 6 + 1 ≤ R.frames) (h2 : 264 ≤ R.locals) : xw R yX11_corner w_X11_corner GT cX11_corner 3 (some .long) rm_X11_corner 2 := ⟨rfl, rfl, rfl, h1, h2, ⟨by decide, by decide⟩, by decide +kernel⟩
theorem c_X11_corner (E : ET) (hE : EO E) (t : Nat) (ht1 : kd t = 11) (ht2 : AL E t) (x1 : Int32) (x2 : Int32) (σ : HS) (hn : f_X11_corner t x1 x2 σ ≠ none) : CoJ E yX11_corner w_X11_corner rm_X11_corner [.ref (E.2.2.1 t), .int x1, .int x2] σ (f_X11_corner t x1 x2 σ) := CoJ.of (lv := [(0, .ref (E.2.2.1 t)), (1, .int x1), (2, .int x2)]) hE (plainFor_of_name (by decide)) rfl (Nat.le_of_ble_eq_true rfl) rfl (fun F hC hO hR => k_X11_corner_0 hC hO hR hn t ht1 ht2 x1 x2 σ rfl)
def rm_X11_sizeOrSet : Room := { frames := 1, cells := 0, slots := 0, locals := 32 }
theorem gc_X11_264 : GoodIn GT (va_wsS RX11 264 yJ6_bitCount_0f7a4 w_J6_bitCount_0f7a4) := gi_S (gtr_36 _ (List.mem_of_getElem? (i := 10) rfl)) (gtr_25 _ (List.mem_of_getElem? (i := 12) rfl)) (gtr_25 _ (List.mem_of_getElem? (i := 13) rfl)) wc_J6_bitCount_0f7a4
set_option maxHeartbeats 4000000 in
set_option maxRecDepth 100000 in
theorem k_X11_sizeOrSet_18 {E : ET} {F : FT} {fo : Option (Int32 × HS)} (hC : Cx E F 2 cX11_sizeOrSet RX11 GT) (hO : Ro F rm_X11_sizeOrSet) (hR : RI E F .int fo) (hf : fo ≠ none) (s0 : Int32) (σ : HS) (h : f_X11_sizeOrSet_18 s0 σ = fo) : G E F 18 [] [.int s0] σ := by
    exact g_iret hC hR dX11_sizeOrSet_18 rfl h
set_option maxHeartbeats 4000000 in
set_option maxRecDepth 100000 in
theorem k_X11_sizeOrSet_10 {E : ET} {F : FT} {fo : Option (Int32 × HS)} (hC : Cx E F 2 cX11_sizeOrSet RX11 GT) (hO : Ro F rm_X11_sizeOrSet) (hR : RI E F .int fo) (hf : fo ≠ none) (x0 : Int32) (σ : HS) (h : f_X11_sizeOrSet_10 x0 σ = fo) : G E F 10 [(0, .int x0)] [] σ := by
    refine g_iload_n hC dX11_sizeOrSet_10 rfl 0 rfl ?_
    refine g_goto (tgt := 18) hC dX11_sizeOrSet_11 (by decide) ?_
    exact g_sub [] rfl (k_X11_sizeOrSet_18 hC hO hR hf x0 σ h)
set_option maxHeartbeats 4000000 in
set_option maxRecDepth 100000 in
theorem k_X11_sizeOrSet_0 {E : ET} {F : FT} {fo : Option (Int32 × HS)} (hC : Cx E F 2 cX11_sizeOrSet RX11 GT) (hO : Ro F rm_X11_sizeOrSet) (hR : RI E F .int fo) (hf : fo ≠ none) (x0 : Int32) (x1 : Int32) (σ : HS) (h : f_X11_sizeOrSet x0 x1 σ = fo) : G E F 0 [(0, .int x0), (1, .int x1)] [] σ := by
    refine g_iload_n hC dX11_sizeOrSet_0 rfl 0 rfl ?_
    refine g_iconst (v := (-1)) hC dX11_sizeOrSet_1 (by decide) ?_
    refine g_icmp_eq (tgt := 10) hC dX11_sizeOrSet_2 (by decide) h (fun c2 h => ?_) (fun c2 h => ?_)
    · exact g_sub [0] rfl (k_X11_sizeOrSet_10 hC hO hR hf x0 σ h)
    · refine g_iload_n hC dX11_sizeOrSet_5 rfl 1 rfl ?_
      refine g_iconst (v := 1) hC dX11_sizeOrSet_6 (by decide) ?_
      refine g_icmp_ne (tgt := 14) hC dX11_sizeOrSet_7 (by decide) h (fun c7 h => ?_) (fun c7 h => ?_)
      · refine g_iload_n hC dX11_sizeOrSet_14 rfl 0 rfl ?_
        obtain ⟨q1, hq1, h⟩ := bd_of h hf
        refine g_cSI (As := [.int x0]) hC hO (c_J6_bitCount_0f7a4 _ hC.2.2.2.2.2.2.1 x0 σ (nn_of hq1)) gc_X11_264 (xk_J6_bitCount_0f7a4 _ (Nat.le_of_ble_eq_true rfl) (Nat.le_of_ble_eq_true rfl)) rfl (Nat.le_of_ble_eq_true rfl) dX11_sizeOrSet_15 hq1 ?_
        exact g_sub [] rfl (k_X11_sizeOrSet_18 hC hO hR hf q1.1 q1.2 h)
      · exact g_sub [0] rfl (k_X11_sizeOrSet_10 hC hO hR hf x0 σ h)
theorem xk_X11_sizeOrSet (R : Room) (h1 : 1 + 1 ≤ R.frames) (h2 : 65 ≤ R.locals) : xw R yX11_sizeOrSet w_X11_sizeOrSet GT cX11_sizeOrSet 2 (some .int) rm_X11_sizeOrSet 2 := ⟨rfl, rfl, rfl, h1, h2, ⟨by decide, by decide⟩, by decide +kernel⟩
theorem c_X11_sizeOrSet (E : ET) (hE : EO E) (x0 : Int32) (x1 : Int32) (σ : HS) (hn : f_X11_sizeOrSet x0 x1 σ ≠ none) : CoI E yX11_sizeOrSet w_X11_sizeOrSet rm_X11_sizeOrSet [.int x0, .int x1] σ (f_X11_sizeOrSet x0 x1 σ) := CoI.of (lv := [(0, .int x0), (1, .int x1)]) hE (plainFor_of_name (by decide)) rfl (Nat.le_of_ble_eq_true rfl) rfl (fun F hC hO hR => k_X11_sizeOrSet_0 hC hO hR hn x0 x1 σ rfl)
def rm_X11_small : Room := { frames := 29, cells := 0, slots := 0, locals := 1113 }
theorem wc_X10_theyCan : Cond.code yX10_theyCan cX10_theyCan 1 (some .boolean) ∈ GT := gtr_35 _ (List.mem_of_getElem? (i := 3) rfl)
theorem gc_X11_211 : GoodIn GT (wsV RX11 211 RX10 yX10_theyCan w_X10_theyCan) := gi_V (gtr_35 _ (List.mem_of_getElem? (i := 0) rfl)) (gtr_35 _ (List.mem_of_getElem? (i := 1) rfl)) (gtr_35 _ (List.mem_of_getElem? (i := 2) rfl)) (gtr_2 _ (List.mem_of_getElem? (i := 4) rfl)) wc_X10_theyCan
theorem fl_X11_53 : Cond.fieldLink RX11 53 "EveryMeasure" (TX11 5).2.1 (TX11 5).2.2.1 ∈ GT := gtr_2 _ (List.mem_of_getElem? (i := 13) rfl)
theorem wc_X5_among : Cond.code yX5_among cX5_among 3 none ∈ GT := gtr_35 _ (List.mem_of_getElem? (i := 8) rfl)
theorem gc_X11_215 : GoodIn GT (wsV RX11 215 RX5 yX5_among w_X5_among) := gi_V (gtr_35 _ (List.mem_of_getElem? (i := 5) rfl)) (gtr_35 _ (List.mem_of_getElem? (i := 6) rfl)) (gtr_35 _ (List.mem_of_getElem? (i := 7) rfl)) (gtr_2 _ (List.mem_of_getElem? (i := 12) rfl)) wc_X5_among
theorem fl_X11_219 : Cond.fieldLink RX11 219 "EveryMeasure$Weights" (TX10 1).2.1 (TX10 1).2.2.1 ∈ GT := gtr_34 _ (List.mem_of_getElem? (i := 23) rfl)
theorem fl_X11_87 : Cond.fieldLink RX11 87 "EveryMeasure" (TX11 11).2.1 (TX11 11).2.2.1 ∈ GT := gtr_3 _ (List.mem_of_getElem? (i := 5) rfl)
theorem wc_X5_fewest : Cond.code yX5_fewest cX5_fewest 6 (some .int) ∈ GT := gtr_35 _ (List.mem_of_getElem? (i := 12) rfl)
theorem gc_X11_222 : GoodIn GT (wsV RX11 222 RX5 yX5_fewest w_X5_fewest) := gi_V (gtr_35 _ (List.mem_of_getElem? (i := 9) rfl)) (gtr_35 _ (List.mem_of_getElem? (i := 10) rfl)) (gtr_35 _ (List.mem_of_getElem? (i := 11) rfl)) (gtr_2 _ (List.mem_of_getElem? (i := 12) rfl)) wc_X5_fewest
theorem wc_X11_sizeOrSet : Cond.code yX11_sizeOrSet cX11_sizeOrSet 2 (some .int) ∈ GT := gtr_36 _ (List.mem_of_getElem? (i := 9) rfl)
theorem gc_X11_226 : GoodIn GT (va_wsS RX11 226 yX11_sizeOrSet w_X11_sizeOrSet) := gi_S (gtr_36 _ (List.mem_of_getElem? (i := 7) rfl)) (gtr_36 _ (List.mem_of_getElem? (i := 8) rfl)) (gtr_1 _ (List.mem_of_getElem? (i := 2) rfl)) wc_X11_sizeOrSet
set_option maxHeartbeats 4000000 in
set_option maxRecDepth 100000 in
theorem k_X11_small_21 {E : ET} {F : FT} {fo : Option (Int32 × HS)} (hC : Cx E F 2 cX11_small RX11 GT) (hO : Ro F rm_X11_small) (hR : RI E F .int fo) (hf : fo ≠ none) (σ : HS) (h : f_X11_small_21 σ = fo) : G E F 21 [] [] σ := by
    refine g_iconst (v := (-1)) hC dX11_small_21 (by decide) ?_
    exact g_iret hC hR dX11_small_22 rfl h
set_option maxHeartbeats 4000000 in
set_option maxRecDepth 100000 in
theorem k_X11_small_0 {E : ET} {F : FT} {fo : Option (Int32 × HS)} (hC : Cx E F 2 cX11_small RX11 GT) (hO : Ro F rm_X11_small) (hR : RI E F .int fo) (hf : fo ≠ none) (t : Nat) (ht1 : kd t = 11) (ht2 : AL E t) (x1 : Int32) (σ : HS) (h : f_X11_small t x1 σ = fo) : G E F 0 [(0, .ref (E.2.2.1 t)), (1, .int x1)] [] σ := by
    refine g_aload_n hC dX11_small_0 rfl 0 rfl ?_
    obtain ⟨q1, hq1, h⟩ := bd_of h hf
    refine g_cVV (As := []) hC hO (c_X11_freshen _ hC.2.2.2.2.2.2.1 t ht1 ht2 σ (nn_of hq1)) gc_X11_144 (xk_X11_freshen _ (Nat.le_of_ble_eq_true rfl) (Nat.le_of_ble_eq_true rfl)) cr11 ht1 ht2 rfl (Nat.le_of_ble_eq_true rfl) dX11_small_1 hq1 ?_
    refine g_iload_n hC dX11_small_4 rfl 1 rfl ?_
    obtain ⟨q2, hq2, h⟩ := bd_of h hf
    refine g_cSI (As := [.int x1]) hC hO (c_X11_isPart _ hC.2.2.2.2.2.2.1 x1 q1 (nn_of hq2)) gc_X11_168 (xk_X11_isPart _ (Nat.le_of_ble_eq_true rfl) (Nat.le_of_ble_eq_true rfl)) rfl (Nat.le_of_ble_eq_true rfl) dX11_small_5 hq2 ?_
    refine g_if_eq (tgt := 21) hC dX11_small_8 (by decide) h (fun c8 h => ?_) (fun c8 h => ?_)
    · exact g_sub [] rfl (k_X11_small_21 hC hO hR hf q2.2 h)
    · refine g_aload_n hC dX11_small_11 rfl 0 rfl ?_
      refine g_getR (cj := 10) (k := 3) hC cr11 ui_11 ht1 ht2 (by decide) fl_X11_35 rfl rfl dX11_small_12 h hf (fun a3 ea3 ka3 na3 h => ?_)
      obtain ⟨q4, hq4, h⟩ := bd_of h hf
      refine g_cVI (As := []) hC hO (c_X10_theyCan _ hC.2.2.2.2.2.2.1 a3 ka3 na3 q2.2 (nn_of hq4)) gc_X11_211 (xk_X10_theyCan _ (Nat.le_of_ble_eq_true rfl) (Nat.le_of_ble_eq_true rfl)) cr10 ka3 na3 rfl (Nat.le_of_ble_eq_true rfl) dX11_small_15 hq4 ?_
      refine g_if_eq (tgt := 23) hC dX11_small_18 (by decide) h (fun c18 h => ?_) (fun c18 h => ?_)
      · refine g_aload_n hC dX11_small_23 rfl 0 rfl ?_
        refine g_getR (cj := 5) (k := 5) hC cr11 ui_11 ht1 ht2 (by decide) fl_X11_53 rfl rfl dX11_small_24 h hf (fun a5 ea5 ka5 na5 h => ?_)
        refine g_aload_n hC dX11_small_27 rfl 0 rfl ?_
        refine g_getR (cj := 10) (k := 3) hC cr11 ui_11 ht1 ht2 (by decide) fl_X11_35 rfl rfl dX11_small_28 h hf (fun a6 ea6 ka6 na6 h => ?_)
        refine g_getR (cj := 18) (k := 0) hC cr10 ui_10 ka6 na6 (by decide) fl_X11_193 rfl rfl dX11_small_31 h hf (fun a7 ea7 ka7 na7 h => ?_)
        refine g_aload_n hC dX11_small_34 rfl 0 rfl ?_
        refine g_getR (cj := 10) (k := 3) hC cr11 ui_11 ht1 ht2 (by decide) fl_X11_35 rfl rfl dX11_small_35 h hf (fun a8 ea8 ka8 na8 h => ?_)
        refine g_getI (k := 4) hC cr10 ui_10 ka8 na8 (by decide) fl_X11_190 rfl rfl dX11_small_38 ?_
        obtain ⟨q9, hq9, h⟩ := bd_of h hf
        refine g_cVV (As := [.ref (E.2.2.1 a7), .int (q4.2.1 a8 4)]) hC hO (c_X5_among _ hC.2.2.2.2.2.2.1 a5 ka5 na5 a7 ka7 na7 (q4.2.1 a8 4) q4.2 (nn_of hq9)) gc_X11_215 (xk_X5_among _ (Nat.le_of_ble_eq_true rfl) (Nat.le_of_ble_eq_true rfl)) cr5 ka5 na5 rfl (Nat.le_of_ble_eq_true rfl) dX11_small_41 hq9 ?_
        refine g_aload_n hC dX11_small_44 rfl 0 rfl ?_
        refine g_getR (cj := 5) (k := 5) hC cr11 ui_11 ht1 ht2 (by decide) fl_X11_53 rfl rfl dX11_small_45 h hf (fun a10 ea10 ka10 na10 h => ?_)
        refine g_aload_n hC dX11_small_48 rfl 0 rfl ?_
        refine g_getR (cj := 10) (k := 3) hC cr11 ui_11 ht1 ht2 (by decide) fl_X11_35 rfl rfl dX11_small_49 h hf (fun a11 ea11 ka11 na11 h => ?_)
        refine g_getR (cj := 1) (k := 1) hC cr10 ui_10 ka11 na11 (by decide) fl_X11_219 rfl rfl dX11_small_52 h hf (fun a12 ea12 ka12 na12 h => ?_)
        refine g_iconst (v := 4) hC dX11_small_55 (by decide) ?_
        refine g_aload_n hC dX11_small_56 rfl 0 rfl ?_
        refine g_getR (cj := 14) (k := 11) hC cr11 ui_11 ht1 ht2 (by decide) fl_X11_87 rfl rfl dX11_small_57 h hf (fun a13 ea13 ka13 na13 h => ?_)
        obtain ⟨q14, hq14, h⟩ := bd_of h hf
        refine g_cVI (As := [.ref (E.2.2.1 a12), .int 4, .ref (E.2.2.1 a13)]) hC hO (c_X5_fewest _ hC.2.2.2.2.2.2.1 a10 ka10 na10 a12 ka12 na12 4 a13 ka13 na13 q9 (nn_of hq14)) gc_X11_222 (xk_X5_fewest _ (Nat.le_of_ble_eq_true rfl) (Nat.le_of_ble_eq_true rfl)) cr5 ka10 na10 rfl (Nat.le_of_ble_eq_true rfl) dX11_small_60 hq14 ?_
        refine g_iload_n hC dX11_small_63 rfl 1 rfl ?_
        obtain ⟨q15, hq15, h⟩ := bd_of h hf
        refine g_cSI (As := [.int q14.1, .int x1]) hC hO (c_X11_sizeOrSet _ hC.2.2.2.2.2.2.1 q14.1 x1 q14.2 (nn_of hq15)) gc_X11_226 (xk_X11_sizeOrSet _ (Nat.le_of_ble_eq_true rfl) (Nat.le_of_ble_eq_true rfl)) rfl (Nat.le_of_ble_eq_true rfl) dX11_small_64 hq15 ?_
        exact g_iret hC hR dX11_small_67 rfl h
      · exact g_sub [] rfl (k_X11_small_21 hC hO hR hf q4.2 h)
theorem xk_X11_small (R : Room) (h1 : 29 + 1 ≤ R.frames) (h2 : 1146 ≤ R.locals) : xw R yX11_small w_X11_small GT cX11_small 2 (some .int) rm_X11_small 1 := ⟨rfl, rfl, rfl, h1, h2, ⟨by decide, by decide⟩, by decide +kernel⟩
theorem c_X11_small (E : ET) (hE : EO E) (t : Nat) (ht1 : kd t = 11) (ht2 : AL E t) (x1 : Int32) (σ : HS) (hn : f_X11_small t x1 σ ≠ none) : CoI E yX11_small w_X11_small rm_X11_small [.ref (E.2.2.1 t), .int x1] σ (f_X11_small t x1 σ) := CoI.of (lv := [(0, .ref (E.2.2.1 t)), (1, .int x1)]) hE (plainFor_of_name (by decide)) rfl (Nat.le_of_ble_eq_true rfl) rfl (fun F hC hO hR => k_X11_small_0 hC hO hR hn t ht1 ht2 x1 σ rfl)
def rm_X11_better : Room := { frames := 6, cells := 0, slots := 0, locals := 230 }
theorem fl_X11_44 : Cond.fieldLink RX11 44 "EveryMeasure" (TX11 4).2.1 (TX11 4).2.2.1 ∈ GT := gtr_2 _ (List.mem_of_getElem? (i := 9) rfl)
theorem wc_X4_compare : Cond.code yX4_compare cX4_compare 8 (some .int) ∈ GT := gtr_37 _ (List.mem_of_getElem? (i := 3) rfl)
theorem gc_X11_230 : GoodIn GT (wsV RX11 230 RX4 yX4_compare w_X4_compare) := gi_V (gtr_37 _ (List.mem_of_getElem? (i := 0) rfl)) (gtr_37 _ (List.mem_of_getElem? (i := 1) rfl)) (gtr_37 _ (List.mem_of_getElem? (i := 2) rfl)) (gtr_2 _ (List.mem_of_getElem? (i := 8) rfl)) wc_X4_compare
set_option maxHeartbeats 4000000 in
set_option maxRecDepth 100000 in
theorem k_X11_better_0 {E : ET} {F : FT} {fo : Option (Int32 × HS)} (hC : Cx E F 3 cX11_better RX11 GT) (hO : Ro F rm_X11_better) (hR : RI E F .int fo) (hf : fo ≠ none) (t : Nat) (ht1 : kd t = 11) (ht2 : AL E t) (x1 : Int32) (x2 : Int32) (σ : HS) (h : f_X11_better t x1 x2 σ = fo) : G E F 0 [(0, .ref (E.2.2.1 t)), (1, .int x1), (2, .int x2)] [] σ := by
    refine g_aload_n hC dX11_better_0 rfl 0 rfl ?_
    obtain ⟨q1, hq1, h⟩ := bd_of h hf
    refine g_cVV (As := []) hC hO (c_X11_freshen _ hC.2.2.2.2.2.2.1 t ht1 ht2 σ (nn_of hq1)) gc_X11_144 (xk_X11_freshen _ (Nat.le_of_ble_eq_true rfl) (Nat.le_of_ble_eq_true rfl)) cr11 ht1 ht2 rfl (Nat.le_of_ble_eq_true rfl) dX11_better_1 hq1 ?_
    refine g_aload_n hC dX11_better_4 rfl 0 rfl ?_
    refine g_getR (cj := 4) (k := 4) hC cr11 ui_11 ht1 ht2 (by decide) fl_X11_44 rfl rfl dX11_better_5 h hf (fun a2 ea2 ka2 na2 h => ?_)
    refine g_aload_n hC dX11_better_8 rfl 0 rfl ?_
    refine g_getR (cj := 10) (k := 3) hC cr11 ui_11 ht1 ht2 (by decide) fl_X11_35 rfl rfl dX11_better_9 h hf (fun a3 ea3 ka3 na3 h => ?_)
    refine g_getR (cj := 1) (k := 2) hC cr10 ui_10 ka3 na3 (by decide) fl_X11_196 rfl rfl dX11_better_12 h hf (fun a4 ea4 ka4 na4 h => ?_)
    refine g_iload_n hC dX11_better_15 rfl 1 rfl ?_
    refine g_iload_n hC dX11_better_16 rfl 2 rfl ?_
    obtain ⟨q5, hq5, h⟩ := bd_of h hf
    refine g_cVI (As := [.ref (E.2.2.1 a4), .int x1, .int x2]) hC hO (c_X4_compare _ hC.2.2.2.2.2.2.1 a2 ka2 na2 a4 ka4 na4 x1 x2 q1 (nn_of hq5)) gc_X11_230 (xk_X4_compare _ (Nat.le_of_ble_eq_true rfl) (Nat.le_of_ble_eq_true rfl)) cr4 ka2 na2 rfl (Nat.le_of_ble_eq_true rfl) dX11_better_17 hq5 ?_
    exact g_iret hC hR dX11_better_20 rfl h
theorem xk_X11_better (R : Room) (h1 : 6 + 1 ≤ R.frames) (h2 : 264 ≤ R.locals) : xw R yX11_better w_X11_better GT cX11_better 3 (some .int) rm_X11_better 2 := ⟨rfl, rfl, rfl, h1, h2, ⟨by decide, by decide⟩, by decide +kernel⟩
theorem c_X11_better (E : ET) (hE : EO E) (t : Nat) (ht1 : kd t = 11) (ht2 : AL E t) (x1 : Int32) (x2 : Int32) (σ : HS) (hn : f_X11_better t x1 x2 σ ≠ none) : CoI E yX11_better w_X11_better rm_X11_better [.ref (E.2.2.1 t), .int x1, .int x2] σ (f_X11_better t x1 x2 σ) := CoI.of (lv := [(0, .ref (E.2.2.1 t)), (1, .int x1), (2, .int x2)]) hE (plainFor_of_name (by decide)) rfl (Nat.le_of_ble_eq_true rfl) rfl (fun F hC hO hR => k_X11_better_0 hC hO hR hn t ht1 ht2 x1 x2 σ rfl)
def rm_X11_best : Room := { frames := 6, cells := 0, slots := 0, locals := 231 }
theorem gc_X11_243 : GoodIn GT (wsV RX11 243 RX4 yX4_surelyBest w_X4_surelyBest) := gi_V (gtr_41 _ (List.mem_of_getElem? (i := 10) rfl)) (gtr_41 _ (List.mem_of_getElem? (i := 11) rfl)) (gtr_41 _ (List.mem_of_getElem? (i := 12) rfl)) (gtr_2 _ (List.mem_of_getElem? (i := 8) rfl)) wc_X4_surelyBest
theorem wc_X4_mayBeBest : Cond.code yX4_mayBeBest cX4_mayBeBest 3 (some .int) ∈ GT := gtr_40 _ (List.mem_of_getElem? (i := 8) rfl)
theorem gc_X11_240 : GoodIn GT (wsV RX11 240 RX4 yX4_mayBeBest w_X4_mayBeBest) := gi_V (gtr_40 _ (List.mem_of_getElem? (i := 5) rfl)) (gtr_40 _ (List.mem_of_getElem? (i := 6) rfl)) (gtr_40 _ (List.mem_of_getElem? (i := 7) rfl)) (gtr_2 _ (List.mem_of_getElem? (i := 8) rfl)) wc_X4_mayBeBest
set_option maxHeartbeats 4000000 in
set_option maxRecDepth 100000 in
theorem k_X11_best_21 {E : ET} {F : FT} {fo : Option (Int32 × HS)} (hC : Cx E F 2 cX11_best RX11 GT) (hO : Ro F rm_X11_best) (hR : RI E F .int fo) (hf : fo ≠ none) (σ : HS) (h : f_X11_best_21 σ = fo) : G E F 21 [] [] σ := by
    refine g_iconst (v := (-1)) hC dX11_best_21 (by decide) ?_
    exact g_iret hC hR dX11_best_22 rfl h
set_option maxHeartbeats 4000000 in
set_option maxRecDepth 100000 in
theorem k_X11_best_51 {E : ET} {F : FT} {fo : Option (Int32 × HS)} (hC : Cx E F 2 cX11_best RX11 GT) (hO : Ro F rm_X11_best) (hR : RI E F .int fo) (hf : fo ≠ none) (s0 : Int32) (σ : HS) (h : f_X11_best_51 s0 σ = fo) : G E F 51 [] [.int s0] σ := by
    exact g_iret hC hR dX11_best_51 rfl h
set_option maxHeartbeats 4000000 in
set_option maxRecDepth 100000 in
theorem k_X11_best_0 {E : ET} {F : FT} {fo : Option (Int32 × HS)} (hC : Cx E F 2 cX11_best RX11 GT) (hO : Ro F rm_X11_best) (hR : RI E F .int fo) (hf : fo ≠ none) (t : Nat) (ht1 : kd t = 11) (ht2 : AL E t) (x1 : Int32) (σ : HS) (h : f_X11_best t x1 σ = fo) : G E F 0 [(0, .ref (E.2.2.1 t)), (1, .int x1)] [] σ := by
    refine g_aload_n hC dX11_best_0 rfl 0 rfl ?_
    obtain ⟨q1, hq1, h⟩ := bd_of h hf
    refine g_cVV (As := []) hC hO (c_X11_freshen _ hC.2.2.2.2.2.2.1 t ht1 ht2 σ (nn_of hq1)) gc_X11_144 (xk_X11_freshen _ (Nat.le_of_ble_eq_true rfl) (Nat.le_of_ble_eq_true rfl)) cr11 ht1 ht2 rfl (Nat.le_of_ble_eq_true rfl) dX11_best_1 hq1 ?_
    refine g_iload_n hC dX11_best_4 rfl 1 rfl ?_
    obtain ⟨q2, hq2, h⟩ := bd_of h hf
    refine g_cSI (As := [.int x1]) hC hO (c_X11_isPart _ hC.2.2.2.2.2.2.1 x1 q1 (nn_of hq2)) gc_X11_168 (xk_X11_isPart _ (Nat.le_of_ble_eq_true rfl) (Nat.le_of_ble_eq_true rfl)) rfl (Nat.le_of_ble_eq_true rfl) dX11_best_5 hq2 ?_
    refine g_if_eq (tgt := 21) hC dX11_best_8 (by decide) h (fun c8 h => ?_) (fun c8 h => ?_)
    · exact g_sub [] rfl (k_X11_best_21 hC hO hR hf q2.2 h)
    · refine g_aload_n hC dX11_best_11 rfl 0 rfl ?_
      refine g_getR (cj := 10) (k := 3) hC cr11 ui_11 ht1 ht2 (by decide) fl_X11_35 rfl rfl dX11_best_12 h hf (fun a3 ea3 ka3 na3 h => ?_)
      obtain ⟨q4, hq4, h⟩ := bd_of h hf
      refine g_cVI (As := []) hC hO (c_X10_theyCan _ hC.2.2.2.2.2.2.1 a3 ka3 na3 q2.2 (nn_of hq4)) gc_X11_211 (xk_X10_theyCan _ (Nat.le_of_ble_eq_true rfl) (Nat.le_of_ble_eq_true rfl)) cr10 ka3 na3 rfl (Nat.le_of_ble_eq_true rfl) dX11_best_15 hq4 ?_
      refine g_if_ne (tgt := 23) hC dX11_best_18 (by decide) h (fun c18 h => ?_) (fun c18 h => ?_)
      · refine g_iload_n hC dX11_best_23 rfl 1 rfl ?_
        refine g_if_ne (tgt := 37) hC dX11_best_24 (by decide) h (fun c24 h => ?_) (fun c24 h => ?_)
        · refine g_aload_n hC dX11_best_37 rfl 0 rfl ?_
          refine g_getR (cj := 4) (k := 4) hC cr11 ui_11 ht1 ht2 (by decide) fl_X11_44 rfl rfl dX11_best_38 h hf (fun a5 ea5 ka5 na5 h => ?_)
          refine g_aload_n hC dX11_best_41 rfl 0 rfl ?_
          refine g_getR (cj := 10) (k := 3) hC cr11 ui_11 ht1 ht2 (by decide) fl_X11_35 rfl rfl dX11_best_42 h hf (fun a6 ea6 ka6 na6 h => ?_)
          refine g_getR (cj := 1) (k := 2) hC cr10 ui_10 ka6 na6 (by decide) fl_X11_196 rfl rfl dX11_best_45 h hf (fun a7 ea7 ka7 na7 h => ?_)
          obtain ⟨q8, hq8, h⟩ := bd_of h hf
          refine g_cVI (As := [.ref (E.2.2.1 a7)]) hC hO (c_X4_surelyBest _ hC.2.2.2.2.2.2.1 a5 ka5 na5 a7 ka7 na7 q4.2 (nn_of hq8)) gc_X11_243 (xk_X4_surelyBest _ (Nat.le_of_ble_eq_true rfl) (Nat.le_of_ble_eq_true rfl)) cr4 ka5 na5 rfl (Nat.le_of_ble_eq_true rfl) dX11_best_48 hq8 ?_
          exact g_sub [] rfl (k_X11_best_51 hC hO hR hf q8.1 q8.2 h)
        · refine g_aload_n hC dX11_best_27 rfl 0 rfl ?_
          refine g_getR (cj := 4) (k := 4) hC cr11 ui_11 ht1 ht2 (by decide) fl_X11_44 rfl rfl dX11_best_28 h hf (fun a9 ea9 ka9 na9 h => ?_)
          obtain ⟨q10, hq10, h⟩ := bd_of h hf
          refine g_cVI (As := []) hC hO (c_X4_mayBeBest _ hC.2.2.2.2.2.2.1 a9 ka9 na9 q4.2 (nn_of hq10)) gc_X11_240 (xk_X4_mayBeBest _ (Nat.le_of_ble_eq_true rfl) (Nat.le_of_ble_eq_true rfl)) cr4 ka9 na9 rfl (Nat.le_of_ble_eq_true rfl) dX11_best_31 hq10 ?_
          refine g_goto (tgt := 51) hC dX11_best_34 (by decide) ?_
          exact g_sub [] rfl (k_X11_best_51 hC hO hR hf q10.1 q10.2 h)
      · exact g_sub [] rfl (k_X11_best_21 hC hO hR hf q4.2 h)
theorem xk_X11_best (R : Room) (h1 : 6 + 1 ≤ R.frames) (h2 : 264 ≤ R.locals) : xw R yX11_best w_X11_best GT cX11_best 2 (some .int) rm_X11_best 1 := ⟨rfl, rfl, rfl, h1, h2, ⟨by decide, by decide⟩, by decide +kernel⟩
theorem c_X11_best (E : ET) (hE : EO E) (t : Nat) (ht1 : kd t = 11) (ht2 : AL E t) (x1 : Int32) (σ : HS) (hn : f_X11_best t x1 σ ≠ none) : CoI E yX11_best w_X11_best rm_X11_best [.ref (E.2.2.1 t), .int x1] σ (f_X11_best t x1 σ) := CoI.of (lv := [(0, .ref (E.2.2.1 t)), (1, .int x1)]) hE (plainFor_of_name (by decide)) rfl (Nat.le_of_ble_eq_true rfl) rfl (fun F hC hO hR => k_X11_best_0 hC hO hR hn t ht1 ht2 x1 σ rfl)
def rm_X11_regret : Room := { frames := 6, cells := 0, slots := 0, locals := 230 }
theorem gc_X11_247 : GoodIn GT (wsV RX11 247 RX4 yX4_fillRegret w_X4_fillRegret) := gi_V (gtr_43 _ (List.mem_of_getElem? (i := 10) rfl)) (gtr_43 _ (List.mem_of_getElem? (i := 11) rfl)) (gtr_43 _ (List.mem_of_getElem? (i := 12) rfl)) (gtr_2 _ (List.mem_of_getElem? (i := 8) rfl)) wc_X4_fillRegret
set_option maxHeartbeats 4000000 in
set_option maxRecDepth 100000 in
theorem k_X11_regret_32 {E : ET} {F : FT} {fo : Option (Int64 × HS)} (hC : Cx E F 3 cX11_regret RX11 GT) (hO : Ro F rm_X11_regret) (hR : RJ E F fo) (hf : fo ≠ none) (σ : HS) (h : f_X11_regret_32 σ = fo) : G E F 32 [] [] σ := by
    refine g_ldc2 (v := (-1)) hC cl_X11_205 dX11_regret_32 ?_
    exact g_lret hC hR dX11_regret_35 h
set_option maxHeartbeats 4000000 in
set_option maxRecDepth 100000 in
theorem k_X11_regret_0 {E : ET} {F : FT} {fo : Option (Int64 × HS)} (hC : Cx E F 3 cX11_regret RX11 GT) (hO : Ro F rm_X11_regret) (hR : RJ E F fo) (hf : fo ≠ none) (t : Nat) (ht1 : kd t = 11) (ht2 : AL E t) (x1 : Int32) (x2 : Int32) (σ : HS) (h : f_X11_regret t x1 x2 σ = fo) : G E F 0 [(0, .ref (E.2.2.1 t)), (1, .int x1), (2, .int x2)] [] σ := by
    refine g_aload_n hC dX11_regret_0 rfl 0 rfl ?_
    obtain ⟨q1, hq1, h⟩ := bd_of h hf
    refine g_cVV (As := []) hC hO (c_X11_freshen _ hC.2.2.2.2.2.2.1 t ht1 ht2 σ (nn_of hq1)) gc_X11_144 (xk_X11_freshen _ (Nat.le_of_ble_eq_true rfl) (Nat.le_of_ble_eq_true rfl)) cr11 ht1 ht2 rfl (Nat.le_of_ble_eq_true rfl) dX11_regret_1 hq1 ?_
    refine g_iload_n hC dX11_regret_4 rfl 2 rfl ?_
    obtain ⟨q2, hq2, h⟩ := bd_of h hf
    refine g_cSI (As := [.int x2]) hC hO (c_X11_isPart _ hC.2.2.2.2.2.2.1 x2 q1 (nn_of hq2)) gc_X11_168 (xk_X11_isPart _ (Nat.le_of_ble_eq_true rfl) (Nat.le_of_ble_eq_true rfl)) rfl (Nat.le_of_ble_eq_true rfl) dX11_regret_5 hq2 ?_
    refine g_if_eq (tgt := 32) hC dX11_regret_8 (by decide) h (fun c8 h => ?_) (fun c8 h => ?_)
    · exact g_sub [] rfl (k_X11_regret_32 hC hO hR hf q2.2 h)
    · refine g_aload_n hC dX11_regret_11 rfl 0 rfl ?_
      refine g_getR (cj := 9) (k := 2) hC cr11 ui_11 ht1 ht2 (by decide) fl_X11_28 rfl rfl dX11_regret_12 h hf (fun a3 ea3 ka3 na3 h => ?_)
      refine g_iload_n hC dX11_regret_15 rfl 1 rfl ?_
      obtain ⟨q4, hq4, h⟩ := bd_of h hf
      refine g_cVI (As := [.int x1]) hC hO (c_X9_isIn _ hC.2.2.2.2.2.2.1 a3 ka3 na3 x1 q2.2 (nn_of hq4)) gc_X11_161 (xk_X9_isIn _ (Nat.le_of_ble_eq_true rfl) (Nat.le_of_ble_eq_true rfl)) cr9 ka3 na3 rfl (Nat.le_of_ble_eq_true rfl) dX11_regret_16 hq4 ?_
      refine g_if_eq (tgt := 32) hC dX11_regret_19 (by decide) h (fun c19 h => ?_) (fun c19 h => ?_)
      · exact g_sub [] rfl (k_X11_regret_32 hC hO hR hf q4.2 h)
      · refine g_aload_n hC dX11_regret_22 rfl 0 rfl ?_
        refine g_getR (cj := 10) (k := 3) hC cr11 ui_11 ht1 ht2 (by decide) fl_X11_35 rfl rfl dX11_regret_23 h hf (fun a5 ea5 ka5 na5 h => ?_)
        obtain ⟨q6, hq6, h⟩ := bd_of h hf
        refine g_cVI (As := []) hC hO (c_X10_theyCan _ hC.2.2.2.2.2.2.1 a5 ka5 na5 q4.2 (nn_of hq6)) gc_X11_211 (xk_X10_theyCan _ (Nat.le_of_ble_eq_true rfl) (Nat.le_of_ble_eq_true rfl)) cr10 ka5 na5 rfl (Nat.le_of_ble_eq_true rfl) dX11_regret_26 hq6 ?_
        refine g_if_ne (tgt := 36) hC dX11_regret_29 (by decide) h (fun c29 h => ?_) (fun c29 h => ?_)
        · refine g_aload_n hC dX11_regret_36 rfl 0 rfl ?_
          refine g_getR (cj := 4) (k := 4) hC cr11 ui_11 ht1 ht2 (by decide) fl_X11_44 rfl rfl dX11_regret_37 h hf (fun a7 ea7 ka7 na7 h => ?_)
          refine g_iload_n hC dX11_regret_40 rfl 1 rfl ?_
          refine g_aload_n hC dX11_regret_41 rfl 0 rfl ?_
          refine g_getR (cj := 3) (k := 8) hC cr11 ui_11 ht1 ht2 (by decide) fl_X11_76 rfl rfl dX11_regret_42 h hf (fun a8 ea8 ka8 na8 h => ?_)
          obtain ⟨q9, hq9, h⟩ := bd_of h hf
          refine g_cVV (As := [.int x1, .ref (E.2.2.1 a8)]) hC hO (c_X4_fillRegret _ hC.2.2.2.2.2.2.1 a7 ka7 na7 x1 a8 ka8 na8 q6.2 (nn_of hq9)) gc_X11_247 (xk_X4_fillRegret _ (Nat.le_of_ble_eq_true rfl) (Nat.le_of_ble_eq_true rfl)) cr4 ka7 na7 rfl (Nat.le_of_ble_eq_true rfl) dX11_regret_45 hq9 ?_
          refine g_aload_n hC dX11_regret_48 rfl 0 rfl ?_
          refine g_getR (cj := 3) (k := 8) hC cr11 ui_11 ht1 ht2 (by decide) fl_X11_76 rfl rfl dX11_regret_49 h hf (fun a10 ea10 ka10 na10 h => ?_)
          obtain ⟨q11, hq11, h⟩ := bd_of h hf
          refine g_cVV (As := []) hC hO (c_X3_reduce _ hC.2.2.2.2.2.2.1 a10 ka10 na10 q9 (nn_of hq11)) gc_X11_183 (xk_X3_reduce _ (Nat.le_of_ble_eq_true rfl) (Nat.le_of_ble_eq_true rfl)) cr3 ka10 na10 rfl (Nat.le_of_ble_eq_true rfl) dX11_regret_52 hq11 ?_
          refine g_aload_n hC dX11_regret_55 rfl 0 rfl ?_
          refine g_getR (cj := 3) (k := 8) hC cr11 ui_11 ht1 ht2 (by decide) fl_X11_76 rfl rfl dX11_regret_56 h hf (fun a12 ea12 ka12 na12 h => ?_)
          refine g_iload_n hC dX11_regret_59 rfl 2 rfl ?_
          obtain ⟨q13, hq13, h⟩ := bd_of h hf
          refine g_cVJ (As := [.int x2]) hC hO (c_X3_part _ hC.2.2.2.2.2.2.1 a12 ka12 na12 x2 q11 (nn_of hq13)) gc_X11_186 (xk_X3_part _ (Nat.le_of_ble_eq_true rfl) (Nat.le_of_ble_eq_true rfl)) cr3 ka12 na12 rfl (Nat.le_of_ble_eq_true rfl) dX11_regret_60 hq13 ?_
          exact g_lret hC hR dX11_regret_63 h
        · exact g_sub [] rfl (k_X11_regret_32 hC hO hR hf q6.2 h)
theorem xk_X11_regret (R : Room) (h1 : 6 + 1 ≤ R.frames) (h2 : 264 ≤ R.locals) : xw R yX11_regret w_X11_regret GT cX11_regret 3 (some .long) rm_X11_regret 2 := ⟨rfl, rfl, rfl, h1, h2, ⟨by decide, by decide⟩, by decide +kernel⟩
theorem c_X11_regret (E : ET) (hE : EO E) (t : Nat) (ht1 : kd t = 11) (ht2 : AL E t) (x1 : Int32) (x2 : Int32) (σ : HS) (hn : f_X11_regret t x1 x2 σ ≠ none) : CoJ E yX11_regret w_X11_regret rm_X11_regret [.ref (E.2.2.1 t), .int x1, .int x2] σ (f_X11_regret t x1 x2 σ) := CoJ.of (lv := [(0, .ref (E.2.2.1 t)), (1, .int x1), (2, .int x2)]) hE (plainFor_of_name (by decide)) rfl (Nat.le_of_ble_eq_true rfl) rfl (fun F hC hO hR => k_X11_regret_0 hC hO hR hn t ht1 ht2 x1 x2 σ rfl)
def rm_X11_least : Room := { frames := 6, cells := 0, slots := 0, locals := 230 }
theorem wc_X4_leastRegret : Cond.code yX4_leastRegret cX4_leastRegret 8 (some .int) ∈ GT := gtr_44 _ (List.mem_of_getElem? (i := 9) rfl)
theorem gc_X11_251 : GoodIn GT (wsV RX11 251 RX4 yX4_leastRegret w_X4_leastRegret) := gi_V (gtr_44 _ (List.mem_of_getElem? (i := 6) rfl)) (gtr_44 _ (List.mem_of_getElem? (i := 7) rfl)) (gtr_44 _ (List.mem_of_getElem? (i := 8) rfl)) (gtr_2 _ (List.mem_of_getElem? (i := 8) rfl)) wc_X4_leastRegret
set_option maxHeartbeats 4000000 in
set_option maxRecDepth 100000 in
theorem k_X11_least_29 {E : ET} {F : FT} {fo : Option (Int32 × HS)} (hC : Cx E F 1 cX11_least RX11 GT) (hO : Ro F rm_X11_least) (hR : RI E F .int fo) (hf : fo ≠ none) (s0 : Int32) (σ : HS) (h : f_X11_least_29 s0 σ = fo) : G E F 29 [] [.int s0] σ := by
    exact g_iret hC hR dX11_least_29 rfl h
set_option maxHeartbeats 4000000 in
set_option maxRecDepth 100000 in
theorem k_X11_least_0 {E : ET} {F : FT} {fo : Option (Int32 × HS)} (hC : Cx E F 1 cX11_least RX11 GT) (hO : Ro F rm_X11_least) (hR : RI E F .int fo) (hf : fo ≠ none) (t : Nat) (ht1 : kd t = 11) (ht2 : AL E t) (σ : HS) (h : f_X11_least t σ = fo) : G E F 0 [(0, .ref (E.2.2.1 t))] [] σ := by
    refine g_aload_n hC dX11_least_0 rfl 0 rfl ?_
    obtain ⟨q1, hq1, h⟩ := bd_of h hf
    refine g_cVV (As := []) hC hO (c_X11_freshen _ hC.2.2.2.2.2.2.1 t ht1 ht2 σ (nn_of hq1)) gc_X11_144 (xk_X11_freshen _ (Nat.le_of_ble_eq_true rfl) (Nat.le_of_ble_eq_true rfl)) cr11 ht1 ht2 rfl (Nat.le_of_ble_eq_true rfl) dX11_least_1 hq1 ?_
    refine g_aload_n hC dX11_least_4 rfl 0 rfl ?_
    refine g_getR (cj := 10) (k := 3) hC cr11 ui_11 ht1 ht2 (by decide) fl_X11_35 rfl rfl dX11_least_5 h hf (fun a2 ea2 ka2 na2 h => ?_)
    obtain ⟨q3, hq3, h⟩ := bd_of h hf
    refine g_cVI (As := []) hC hO (c_X10_theyCan _ hC.2.2.2.2.2.2.1 a2 ka2 na2 q1 (nn_of hq3)) gc_X11_211 (xk_X10_theyCan _ (Nat.le_of_ble_eq_true rfl) (Nat.le_of_ble_eq_true rfl)) cr10 ka2 na2 rfl (Nat.le_of_ble_eq_true rfl) dX11_least_8 hq3 ?_
    refine g_if_eq (tgt := 28) hC dX11_least_11 (by decide) h (fun c11 h => ?_) (fun c11 h => ?_)
    · refine g_iconst (v := (-1)) hC dX11_least_28 (by decide) ?_
      exact g_sub [] rfl (k_X11_least_29 hC hO hR hf (-1) q3.2 h)
    · refine g_aload_n hC dX11_least_14 rfl 0 rfl ?_
      refine g_getR (cj := 4) (k := 4) hC cr11 ui_11 ht1 ht2 (by decide) fl_X11_44 rfl rfl dX11_least_15 h hf (fun a4 ea4 ka4 na4 h => ?_)
      refine g_aload_n hC dX11_least_18 rfl 0 rfl ?_
      refine g_getR (cj := 3) (k := 8) hC cr11 ui_11 ht1 ht2 (by decide) fl_X11_76 rfl rfl dX11_least_19 h hf (fun a5 ea5 ka5 na5 h => ?_)
      obtain ⟨q6, hq6, h⟩ := bd_of h hf
      refine g_cVI (As := [.ref (E.2.2.1 a5)]) hC hO (c_X4_leastRegret _ hC.2.2.2.2.2.2.1 a4 ka4 na4 a5 ka5 na5 q3.2 (nn_of hq6)) gc_X11_251 (xk_X4_leastRegret _ (Nat.le_of_ble_eq_true rfl) (Nat.le_of_ble_eq_true rfl)) cr4 ka4 na4 rfl (Nat.le_of_ble_eq_true rfl) dX11_least_22 hq6 ?_
      refine g_goto (tgt := 29) hC dX11_least_25 (by decide) ?_
      exact g_sub [] rfl (k_X11_least_29 hC hO hR hf q6.1 q6.2 h)
theorem xk_X11_least (R : Room) (h1 : 6 + 1 ≤ R.frames) (h2 : 262 ≤ R.locals) : xw R yX11_least w_X11_least GT cX11_least 1 (some .int) rm_X11_least 0 := ⟨rfl, rfl, rfl, h1, h2, ⟨by decide, by decide⟩, by decide +kernel⟩
theorem c_X11_least (E : ET) (hE : EO E) (t : Nat) (ht1 : kd t = 11) (ht2 : AL E t) (σ : HS) (hn : f_X11_least t σ ≠ none) : CoI E yX11_least w_X11_least rm_X11_least [.ref (E.2.2.1 t)] σ (f_X11_least t σ) := CoI.of (lv := [(0, .ref (E.2.2.1 t))]) hE (plainFor_of_name (by decide)) rfl (Nat.le_of_ble_eq_true rfl) rfl (fun F hC hO hR => k_X11_least_0 hC hO hR hn t ht1 ht2 σ rfl)
def rm_X11_beaten : Room := { frames := 29, cells := 0, slots := 0, locals := 1113 }
theorem gc_X11_255 : GoodIn GT (wsV RX11 255 RX4 yX4_mayBeBest_ w_X4_mayBeBest_) := gi_V (gtr_44 _ (List.mem_of_getElem? (i := 22) rfl)) (gtr_41 _ (List.mem_of_getElem? (i := 0) rfl)) (gtr_41 _ (List.mem_of_getElem? (i := 1) rfl)) (gtr_2 _ (List.mem_of_getElem? (i := 8) rfl)) wc_X4_mayBeBest_
theorem wc_X4_leadsOf : Cond.code yX4_leadsOf cX4_leadsOf 3 (some (.array (.array .int))) ∈ GT := gtr_45 _ (List.mem_of_getElem? (i := 2) rfl)
theorem gc_X11_257 : GoodIn GT (wsV RX11 257 RX4 yX4_leadsOf w_X4_leadsOf) := gi_V (gtr_44 _ (List.mem_of_getElem? (i := 23) rfl)) (gtr_45 _ (List.mem_of_getElem? (i := 0) rfl)) (gtr_45 _ (List.mem_of_getElem? (i := 1) rfl)) (gtr_2 _ (List.mem_of_getElem? (i := 8) rfl)) wc_X4_leadsOf
theorem fl_X11_261 : Cond.fieldLink RX11 261 "EveryMeasure$Things" (TX9 4).2.1 (TX9 4).2.2.1 ∈ GT := gtr_44 _ (List.mem_of_getElem? (i := 21) rfl)
set_option maxHeartbeats 4000000 in
set_option maxRecDepth 100000 in
theorem k_X11_beaten_36 {E : ET} {F : FT} {fo : Option (Int32 × HS)} (hC : Cx E F 2 cX11_beaten RX11 GT) (hO : Ro F rm_X11_beaten) (hR : RI E F .int fo) (hf : fo ≠ none) (σ : HS) (h : f_X11_beaten_36 σ = fo) : G E F 36 [] [] σ := by
    refine g_iconst (v := (-1)) hC dX11_beaten_36 (by decide) ?_
    exact g_iret hC hR dX11_beaten_37 rfl h
set_option maxHeartbeats 4000000 in
set_option maxRecDepth 100000 in
theorem k_X11_beaten_0 {E : ET} {F : FT} {fo : Option (Int32 × HS)} (hC : Cx E F 2 cX11_beaten RX11 GT) (hO : Ro F rm_X11_beaten) (hR : RI E F .int fo) (hf : fo ≠ none) (t : Nat) (ht1 : kd t = 11) (ht2 : AL E t) (x1 : Int32) (σ : HS) (h : f_X11_beaten t x1 σ = fo) : G E F 0 [(0, .ref (E.2.2.1 t)), (1, .int x1)] [] σ := by
    refine g_aload_n hC dX11_beaten_0 rfl 0 rfl ?_
    obtain ⟨q1, hq1, h⟩ := bd_of h hf
    refine g_cVV (As := []) hC hO (c_X11_freshen _ hC.2.2.2.2.2.2.1 t ht1 ht2 σ (nn_of hq1)) gc_X11_144 (xk_X11_freshen _ (Nat.le_of_ble_eq_true rfl) (Nat.le_of_ble_eq_true rfl)) cr11 ht1 ht2 rfl (Nat.le_of_ble_eq_true rfl) dX11_beaten_1 hq1 ?_
    refine g_aload_n hC dX11_beaten_4 rfl 0 rfl ?_
    refine g_getR (cj := 9) (k := 2) hC cr11 ui_11 ht1 ht2 (by decide) fl_X11_28 rfl rfl dX11_beaten_5 h hf (fun a2 ea2 ka2 na2 h => ?_)
    refine g_iload_n hC dX11_beaten_8 rfl 1 rfl ?_
    obtain ⟨q3, hq3, h⟩ := bd_of h hf
    refine g_cVI (As := [.int x1]) hC hO (c_X9_isIn _ hC.2.2.2.2.2.2.1 a2 ka2 na2 x1 q1 (nn_of hq3)) gc_X11_161 (xk_X9_isIn _ (Nat.le_of_ble_eq_true rfl) (Nat.le_of_ble_eq_true rfl)) cr9 ka2 na2 rfl (Nat.le_of_ble_eq_true rfl) dX11_beaten_9 hq3 ?_
    refine g_if_eq (tgt := 36) hC dX11_beaten_12 (by decide) h (fun c12 h => ?_) (fun c12 h => ?_)
    · exact g_sub [] rfl (k_X11_beaten_36 hC hO hR hf q3.2 h)
    · refine g_aload_n hC dX11_beaten_15 rfl 0 rfl ?_
      refine g_getR (cj := 10) (k := 3) hC cr11 ui_11 ht1 ht2 (by decide) fl_X11_35 rfl rfl dX11_beaten_16 h hf (fun a4 ea4 ka4 na4 h => ?_)
      obtain ⟨q5, hq5, h⟩ := bd_of h hf
      refine g_cVI (As := []) hC hO (c_X10_theyCan _ hC.2.2.2.2.2.2.1 a4 ka4 na4 q3.2 (nn_of hq5)) gc_X11_211 (xk_X10_theyCan _ (Nat.le_of_ble_eq_true rfl) (Nat.le_of_ble_eq_true rfl)) cr10 ka4 na4 rfl (Nat.le_of_ble_eq_true rfl) dX11_beaten_19 hq5 ?_
      refine g_if_eq (tgt := 36) hC dX11_beaten_22 (by decide) h (fun c22 h => ?_) (fun c22 h => ?_)
      · exact g_sub [] rfl (k_X11_beaten_36 hC hO hR hf q5.2 h)
      · refine g_aload_n hC dX11_beaten_25 rfl 0 rfl ?_
        refine g_getR (cj := 4) (k := 4) hC cr11 ui_11 ht1 ht2 (by decide) fl_X11_44 rfl rfl dX11_beaten_26 h hf (fun a6 ea6 ka6 na6 h => ?_)
        refine g_iload_n hC dX11_beaten_29 rfl 1 rfl ?_
        obtain ⟨q7, hq7, h⟩ := bd_of h hf
        refine g_cVI (As := [.int x1]) hC hO (c_X4_mayBeBest_ _ hC.2.2.2.2.2.2.1 a6 ka6 na6 x1 q5.2 (nn_of hq7)) gc_X11_255 (xk_X4_mayBeBest_ _ (Nat.le_of_ble_eq_true rfl) (Nat.le_of_ble_eq_true rfl)) cr4 ka6 na6 rfl (Nat.le_of_ble_eq_true rfl) dX11_beaten_30 hq7 ?_
        refine g_if_eq (tgt := 38) hC dX11_beaten_33 (by decide) h (fun c33 h => ?_) (fun c33 h => ?_)
        · refine g_aload_n hC dX11_beaten_38 rfl 0 rfl ?_
          refine g_getR (cj := 5) (k := 5) hC cr11 ui_11 ht1 ht2 (by decide) fl_X11_53 rfl rfl dX11_beaten_39 h hf (fun a8 ea8 ka8 na8 h => ?_)
          refine g_aload_n hC dX11_beaten_42 rfl 0 rfl ?_
          refine g_getR (cj := 4) (k := 4) hC cr11 ui_11 ht1 ht2 (by decide) fl_X11_44 rfl rfl dX11_beaten_43 h hf (fun a9 ea9 ka9 na9 h => ?_)
          refine g_iload_n hC dX11_beaten_46 rfl 1 rfl ?_
          obtain ⟨q10, hq10, h⟩ := bd_of h hf
          refine g_cVR (As := [.int x1]) hC hO (c_X4_leadsOf _ hC.2.2.2.2.2.2.1 a9 ka9 na9 x1 q7.2 (nn_of hq10)) gc_X11_257 (xk_X4_leadsOf _ (Nat.le_of_ble_eq_true rfl) (Nat.le_of_ble_eq_true rfl)) cr4 ka9 na9 rfl (Nat.le_of_ble_eq_true rfl) dX11_beaten_47 hq10 (fun na11 => ?_)
          obtain ⟨a11, ea11, ka11, h⟩ := rk_of h hf
          rw [Option.some.inj ea11] at na11 ⊢
          refine g_aload_n hC dX11_beaten_50 rfl 0 rfl ?_
          refine g_getR (cj := 9) (k := 2) hC cr11 ui_11 ht1 ht2 (by decide) fl_X11_28 rfl rfl dX11_beaten_51 h hf (fun a12 ea12 ka12 na12 h => ?_)
          refine g_getI (k := 4) hC cr9 ui_9 ka12 na12 (by decide) fl_X11_261 rfl rfl dX11_beaten_54 ?_
          refine g_iconst (v := 1) hC dX11_beaten_57 (by decide) ?_
          refine g_iload_n hC dX11_beaten_58 rfl 1 rfl ?_
          refine g_ishl hC dX11_beaten_59 ?_
          refine g_iconst (v := (-1)) hC dX11_beaten_60 (by decide) ?_
          refine g_ixor hC dX11_beaten_61 ?_
          refine g_iand hC dX11_beaten_62 ?_
          obtain ⟨q13, hq13, h⟩ := bd_of h hf
          refine g_cVV (As := [.ref (E.2.2.1 a11), .int ((q10.2.1 a12 4) &&& (((1 : Int32) <<< (x1 &&& 31)) ^^^ (-1)))]) hC hO (c_X5_among _ hC.2.2.2.2.2.2.1 a8 ka8 na8 a11 ka11 na11 ((q10.2.1 a12 4) &&& (((1 : Int32) <<< (x1 &&& 31)) ^^^ (-1))) q10.2 (nn_of hq13)) gc_X11_215 (xk_X5_among _ (Nat.le_of_ble_eq_true rfl) (Nat.le_of_ble_eq_true rfl)) cr5 ka8 na8 rfl (Nat.le_of_ble_eq_true rfl) dX11_beaten_63 hq13 ?_
          refine g_aload_n hC dX11_beaten_66 rfl 0 rfl ?_
          refine g_getR (cj := 5) (k := 5) hC cr11 ui_11 ht1 ht2 (by decide) fl_X11_53 rfl rfl dX11_beaten_67 h hf (fun a14 ea14 ka14 na14 h => ?_)
          refine g_aload_n hC dX11_beaten_70 rfl 0 rfl ?_
          refine g_getR (cj := 10) (k := 3) hC cr11 ui_11 ht1 ht2 (by decide) fl_X11_35 rfl rfl dX11_beaten_71 h hf (fun a15 ea15 ka15 na15 h => ?_)
          refine g_getR (cj := 1) (k := 2) hC cr10 ui_10 ka15 na15 (by decide) fl_X11_196 rfl rfl dX11_beaten_74 h hf (fun a16 ea16 ka16 na16 h => ?_)
          refine g_iconst (v := 3) hC dX11_beaten_77 (by decide) ?_
          refine g_aload_n hC dX11_beaten_78 rfl 0 rfl ?_
          refine g_getR (cj := 14) (k := 11) hC cr11 ui_11 ht1 ht2 (by decide) fl_X11_87 rfl rfl dX11_beaten_79 h hf (fun a17 ea17 ka17 na17 h => ?_)
          obtain ⟨q18, hq18, h⟩ := bd_of h hf
          refine g_cVI (As := [.ref (E.2.2.1 a16), .int 3, .ref (E.2.2.1 a17)]) hC hO (c_X5_fewest _ hC.2.2.2.2.2.2.1 a14 ka14 na14 a16 ka16 na16 3 a17 ka17 na17 q13 (nn_of hq18)) gc_X11_222 (xk_X5_fewest _ (Nat.le_of_ble_eq_true rfl) (Nat.le_of_ble_eq_true rfl)) cr5 ka14 na14 rfl (Nat.le_of_ble_eq_true rfl) dX11_beaten_82 hq18 ?_
          exact g_iret hC hR dX11_beaten_85 rfl h
        · exact g_sub [] rfl (k_X11_beaten_36 hC hO hR hf q7.2 h)
theorem xk_X11_beaten (R : Room) (h1 : 29 + 1 ≤ R.frames) (h2 : 1146 ≤ R.locals) : xw R yX11_beaten w_X11_beaten GT cX11_beaten 2 (some .int) rm_X11_beaten 1 := ⟨rfl, rfl, rfl, h1, h2, ⟨by decide, by decide⟩, by decide +kernel⟩
theorem c_X11_beaten (E : ET) (hE : EO E) (t : Nat) (ht1 : kd t = 11) (ht2 : AL E t) (x1 : Int32) (σ : HS) (hn : f_X11_beaten t x1 σ ≠ none) : CoI E yX11_beaten w_X11_beaten rm_X11_beaten [.ref (E.2.2.1 t), .int x1] σ (f_X11_beaten t x1 σ) := CoI.of (lv := [(0, .ref (E.2.2.1 t)), (1, .int x1)]) hE (plainFor_of_name (by decide)) rfl (Nat.le_of_ble_eq_true rfl) rfl (fun F hC hO hR => k_X11_beaten_0 hC hO hR hn t ht1 ht2 x1 σ rfl)
def rm_X11_next : Room := { frames := 6, cells := 0, slots := 0, locals := 236 }
theorem wc_X4_partsMost : Cond.code yX4_partsMost cX4_partsMost 6 (some .int) ∈ GT := gtr_45 _ (List.mem_of_getElem? (i := 18) rfl)
theorem gc_X11_270 : GoodIn GT (wsV RX11 270 RX4 yX4_partsMost w_X4_partsMost) := gi_V (gtr_45 _ (List.mem_of_getElem? (i := 15) rfl)) (gtr_45 _ (List.mem_of_getElem? (i := 16) rfl)) (gtr_45 _ (List.mem_of_getElem? (i := 17) rfl)) (gtr_2 _ (List.mem_of_getElem? (i := 8) rfl)) wc_X4_partsMost
theorem gc_X11_273 : GoodIn GT (wsV RX11 273 RX4 yX4_greaterCount w_X4_greaterCount) := gi_V (gtr_46 _ (List.mem_of_getElem? (i := 11) rfl)) (gtr_46 _ (List.mem_of_getElem? (i := 4) rfl)) (gtr_46 _ (List.mem_of_getElem? (i := 5) rfl)) (gtr_2 _ (List.mem_of_getElem? (i := 8) rfl)) wc_X4_greaterCount
set_option maxHeartbeats 4000000 in
set_option maxRecDepth 100000 in
theorem k_X11_next_37 {E : ET} {F : FT} {fo : Option (Int32 × HS)} (hC : Cx E F 3 cX11_next RX11 GT) (hO : Ro F rm_X11_next) (hR : RI E F .int fo) (hf : fo ≠ none) (σ : HS) (h : f_X11_next_37 σ = fo) : G E F 37 [] [] σ := by
    refine g_iconst (v := (-1)) hC dX11_next_37 (by decide) ?_
    exact g_iret hC hR dX11_next_38 rfl h
set_option maxHeartbeats 4000000 in
set_option maxRecDepth 100000 in
theorem k_X11_next_76 {E : ET} {F : FT} {fo : Option (Int32 × HS)} (hC : Cx E F 3 cX11_next RX11 GT) (hO : Ro F rm_X11_next) (hR : RI E F .int fo) (hf : fo ≠ none) (s0 : Int32) (σ : HS) (h : f_X11_next_76 s0 σ = fo) : G E F 76 [] [.int s0] σ := by
    exact g_iret hC hR dX11_next_76 rfl h
set_option maxHeartbeats 4000000 in
set_option maxRecDepth 100000 in
theorem k_X11_next_0 {E : ET} {F : FT} {fo : Option (Int32 × HS)} (hC : Cx E F 3 cX11_next RX11 GT) (hO : Ro F rm_X11_next) (hR : RI E F .int fo) (hf : fo ≠ none) (t : Nat) (ht1 : kd t = 11) (ht2 : AL E t) (x1 : Int32) (σ : HS) (h : f_X11_next t x1 σ = fo) : G E F 0 [(0, .ref (E.2.2.1 t)), (1, .int x1)] [] σ := by
    refine g_aload_n hC dX11_next_0 rfl 0 rfl ?_
    obtain ⟨q1, hq1, h⟩ := bd_of h hf
    refine g_cVV (As := []) hC hO (c_X11_freshen _ hC.2.2.2.2.2.2.1 t ht1 ht2 σ (nn_of hq1)) gc_X11_144 (xk_X11_freshen _ (Nat.le_of_ble_eq_true rfl) (Nat.le_of_ble_eq_true rfl)) cr11 ht1 ht2 rfl (Nat.le_of_ble_eq_true rfl) dX11_next_1 hq1 ?_
    refine g_iload_n hC dX11_next_4 rfl 1 rfl ?_
    refine g_if_lt (tgt := 37) hC dX11_next_5 (by decide) h (fun c5 h => ?_) (fun c5 h => ?_)
    · exact g_sub [] rfl (k_X11_next_37 hC hO hR hf q1 h)
    · refine g_iload_n hC dX11_next_8 rfl 1 rfl ?_
      refine g_iconst (v := 2) hC dX11_next_9 (by decide) ?_
      refine g_icmp_gt (tgt := 37) hC dX11_next_10 (by decide) h (fun c10 h => ?_) (fun c10 h => ?_)
      · exact g_sub [] rfl (k_X11_next_37 hC hO hR hf q1 h)
      · refine g_aload_n hC dX11_next_13 rfl 0 rfl ?_
        refine g_getR (cj := 10) (k := 3) hC cr11 ui_11 ht1 ht2 (by decide) fl_X11_35 rfl rfl dX11_next_14 h hf (fun a2 ea2 ka2 na2 h => ?_)
        obtain ⟨q3, hq3, h⟩ := bd_of h hf
        refine g_cVI (As := []) hC hO (c_X10_theyCan _ hC.2.2.2.2.2.2.1 a2 ka2 na2 q1 (nn_of hq3)) gc_X11_211 (xk_X10_theyCan _ (Nat.le_of_ble_eq_true rfl) (Nat.le_of_ble_eq_true rfl)) cr10 ka2 na2 rfl (Nat.le_of_ble_eq_true rfl) dX11_next_17 hq3 ?_
        refine g_if_eq (tgt := 37) hC dX11_next_20 (by decide) h (fun c20 h => ?_) (fun c20 h => ?_)
        · exact g_sub [] rfl (k_X11_next_37 hC hO hR hf q3.2 h)
        · refine g_aload_n hC dX11_next_23 rfl 0 rfl ?_
          refine g_getR (cj := 9) (k := 2) hC cr11 ui_11 ht1 ht2 (by decide) fl_X11_28 rfl rfl dX11_next_24 h hf (fun a4 ea4 ka4 na4 h => ?_)
          refine g_getI (k := 4) hC cr9 ui_9 ka4 na4 (by decide) fl_X11_261 rfl rfl dX11_next_27 ?_
          obtain ⟨q5, hq5, h⟩ := bd_of h hf
          refine g_cSI (As := [.int (q3.2.1 a4 4)]) hC hO (c_J6_bitCount_0f7a4 _ hC.2.2.2.2.2.2.1 (q3.2.1 a4 4) q3.2 (nn_of hq5)) gc_X11_264 (xk_J6_bitCount_0f7a4 _ (Nat.le_of_ble_eq_true rfl) (Nat.le_of_ble_eq_true rfl)) rfl (Nat.le_of_ble_eq_true rfl) dX11_next_30 hq5 ?_
          refine g_iconst (v := 2) hC dX11_next_33 (by decide) ?_
          refine g_icmp_ge (tgt := 39) hC dX11_next_34 (by decide) h (fun c34 h => ?_) (fun c34 h => ?_)
          · refine g_aload_n hC dX11_next_39 rfl 0 rfl ?_
            refine g_getR (cj := 4) (k := 4) hC cr11 ui_11 ht1 ht2 (by decide) fl_X11_44 rfl rfl dX11_next_40 h hf (fun a6 ea6 ka6 na6 h => ?_)
            obtain ⟨q7, hq7, h⟩ := bd_of h hf
            refine g_cVI (As := []) hC hO (c_X4_partsMost _ hC.2.2.2.2.2.2.1 a6 ka6 na6 q5.2 (nn_of hq7)) gc_X11_270 (xk_X4_partsMost _ (Nat.le_of_ble_eq_true rfl) (Nat.le_of_ble_eq_true rfl)) cr4 ka6 na6 rfl (Nat.le_of_ble_eq_true rfl) dX11_next_43 hq7 ?_
            refine g_istore_n (lv' := [(2, .int q7.1), (0, .ref (E.2.2.1 t)), (1, .int x1)]) hC dX11_next_46 rfl (by decide) rfl ?_
            refine g_iload_n hC dX11_next_47 rfl 2 rfl ?_
            refine g_iconst (v := 2) hC dX11_next_48 (by decide) ?_
            refine g_icmp_ne (tgt := 61) hC dX11_next_49 (by decide) h (fun c49 h => ?_) (fun c49 h => ?_)
            · refine g_iload_n hC dX11_next_61 rfl 2 rfl ?_
              refine g_if_ne (tgt := 72) hC dX11_next_62 (by decide) h (fun c62 h => ?_) (fun c62 h => ?_)
              · refine g_iload_n hC dX11_next_72 rfl 0 rfl ?_
                refine g_bipush (v := 8) hC dX11_next_73 (by decide) ?_
                refine g_irem hC dX11_next_75 (by decide) ?_
                exact g_sub [] rfl (k_X11_next_76 hC hO hR hf (q7.1 - q7.1 / 8 * 8) q7.2 h)
              · refine g_iload_n hC dX11_next_65 rfl 0 rfl ?_
                refine g_bipush (v := 8) hC dX11_next_66 (by decide) ?_
                refine g_idiv hC dX11_next_68 (by decide) ?_
                refine g_goto (tgt := 76) hC dX11_next_69 (by decide) ?_
                exact g_sub [] rfl (k_X11_next_76 hC hO hR hf (q7.1 / 8) q7.2 h)
            · refine g_aload_n hC dX11_next_52 rfl 1 rfl ?_
              refine g_getR (cj := 4) (k := 4) hC cr11 ui_11 ht1 ht2 (by decide) fl_X11_44 rfl rfl dX11_next_53 h hf (fun a8 ea8 ka8 na8 h => ?_)
              refine g_iload_n hC dX11_next_56 rfl 0 rfl ?_
              obtain ⟨q9, hq9, h⟩ := bd_of h hf
              refine g_cVI (As := [.int q7.1]) hC hO (c_X4_greaterCount _ hC.2.2.2.2.2.2.1 a8 ka8 na8 q7.1 q7.2 (nn_of hq9)) gc_X11_273 (xk_X4_greaterCount _ (Nat.le_of_ble_eq_true rfl) (Nat.le_of_ble_eq_true rfl)) cr4 ka8 na8 rfl (Nat.le_of_ble_eq_true rfl) dX11_next_57 hq9 ?_
              exact g_iret hC hR dX11_next_60 rfl h
          · exact g_sub [] rfl (k_X11_next_37 hC hO hR hf q5.2 h)
theorem xk_X11_next (R : Room) (h1 : 6 + 1 ≤ R.frames) (h2 : 270 ≤ R.locals) : xw R yX11_next w_X11_next GT cX11_next 3 (some .int) rm_X11_next 1 := ⟨rfl, rfl, rfl, h1, h2, ⟨by decide, by decide⟩, by decide +kernel⟩
theorem c_X11_next (E : ET) (hE : EO E) (t : Nat) (ht1 : kd t = 11) (ht2 : AL E t) (x1 : Int32) (σ : HS) (hn : f_X11_next t x1 σ ≠ none) : CoI E yX11_next w_X11_next rm_X11_next [.ref (E.2.2.1 t), .int x1] σ (f_X11_next t x1 σ) := CoI.of (lv := [(0, .ref (E.2.2.1 t)), (1, .int x1)]) hE (plainFor_of_name (by decide)) rfl (Nat.le_of_ble_eq_true rfl) rfl (fun F hC hO hR => k_X11_next_0 hC hO hR hn t ht1 ht2 x1 σ rfl)
def rm_X11_few : Room := { frames := 6, cells := 0, slots := 0, locals := 230 }
theorem wc_X4_fewQuestions : Cond.code yX4_fewQuestions cX4_fewQuestions 4 (some .int) ∈ GT := gtr_47 _ (List.mem_of_getElem? (i := 6) rfl)
theorem gc_X11_276 : GoodIn GT (wsV RX11 276 RX4 yX4_fewQuestions w_X4_fewQuestions) := gi_V (gtr_47 _ (List.mem_of_getElem? (i := 3) rfl)) (gtr_47 _ (List.mem_of_getElem? (i := 4) rfl)) (gtr_47 _ (List.mem_of_getElem? (i := 5) rfl)) (gtr_2 _ (List.mem_of_getElem? (i := 8) rfl)) wc_X4_fewQuestions
set_option maxHeartbeats 4000000 in
set_option maxRecDepth 100000 in
theorem k_X11_few_35 {E : ET} {F : FT} {fo : Option (Int32 × HS)} (hC : Cx E F 1 cX11_few RX11 GT) (hO : Ro F rm_X11_few) (hR : RI E F .int fo) (hf : fo ≠ none) (s0 : Int32) (σ : HS) (h : f_X11_few_35 s0 σ = fo) : G E F 35 [] [.int s0] σ := by
    exact g_iret hC hR dX11_few_35 rfl h
set_option maxHeartbeats 4000000 in
set_option maxRecDepth 100000 in
theorem k_X11_few_34 {E : ET} {F : FT} {fo : Option (Int32 × HS)} (hC : Cx E F 1 cX11_few RX11 GT) (hO : Ro F rm_X11_few) (hR : RI E F .int fo) (hf : fo ≠ none) (σ : HS) (h : f_X11_few_34 σ = fo) : G E F 34 [] [] σ := by
    refine g_iconst (v := (-1)) hC dX11_few_34 (by decide) ?_
    exact g_sub [] rfl (k_X11_few_35 hC hO hR hf (-1) σ h)
set_option maxHeartbeats 4000000 in
set_option maxRecDepth 100000 in
theorem k_X11_few_0 {E : ET} {F : FT} {fo : Option (Int32 × HS)} (hC : Cx E F 1 cX11_few RX11 GT) (hO : Ro F rm_X11_few) (hR : RI E F .int fo) (hf : fo ≠ none) (t : Nat) (ht1 : kd t = 11) (ht2 : AL E t) (σ : HS) (h : f_X11_few t σ = fo) : G E F 0 [(0, .ref (E.2.2.1 t))] [] σ := by
    refine g_aload_n hC dX11_few_0 rfl 0 rfl ?_
    obtain ⟨q1, hq1, h⟩ := bd_of h hf
    refine g_cVV (As := []) hC hO (c_X11_freshen _ hC.2.2.2.2.2.2.1 t ht1 ht2 σ (nn_of hq1)) gc_X11_144 (xk_X11_freshen _ (Nat.le_of_ble_eq_true rfl) (Nat.le_of_ble_eq_true rfl)) cr11 ht1 ht2 rfl (Nat.le_of_ble_eq_true rfl) dX11_few_1 hq1 ?_
    refine g_aload_n hC dX11_few_4 rfl 0 rfl ?_
    refine g_getR (cj := 10) (k := 3) hC cr11 ui_11 ht1 ht2 (by decide) fl_X11_35 rfl rfl dX11_few_5 h hf (fun a2 ea2 ka2 na2 h => ?_)
    obtain ⟨q3, hq3, h⟩ := bd_of h hf
    refine g_cVI (As := []) hC hO (c_X10_theyCan _ hC.2.2.2.2.2.2.1 a2 ka2 na2 q1 (nn_of hq3)) gc_X11_211 (xk_X10_theyCan _ (Nat.le_of_ble_eq_true rfl) (Nat.le_of_ble_eq_true rfl)) cr10 ka2 na2 rfl (Nat.le_of_ble_eq_true rfl) dX11_few_8 hq3 ?_
    refine g_if_eq (tgt := 34) hC dX11_few_11 (by decide) h (fun c11 h => ?_) (fun c11 h => ?_)
    · exact g_sub [] rfl (k_X11_few_34 hC hO hR hf q3.2 h)
    · refine g_aload_n hC dX11_few_14 rfl 0 rfl ?_
      refine g_getR (cj := 9) (k := 2) hC cr11 ui_11 ht1 ht2 (by decide) fl_X11_28 rfl rfl dX11_few_15 h hf (fun a4 ea4 ka4 na4 h => ?_)
      refine g_getI (k := 4) hC cr9 ui_9 ka4 na4 (by decide) fl_X11_261 rfl rfl dX11_few_18 ?_
      refine g_if_eq (tgt := 34) hC dX11_few_21 (by decide) h (fun c21 h => ?_) (fun c21 h => ?_)
      · exact g_sub [] rfl (k_X11_few_34 hC hO hR hf q3.2 h)
      · refine g_aload_n hC dX11_few_24 rfl 0 rfl ?_
        refine g_getR (cj := 4) (k := 4) hC cr11 ui_11 ht1 ht2 (by decide) fl_X11_44 rfl rfl dX11_few_25 h hf (fun a5 ea5 ka5 na5 h => ?_)
        obtain ⟨q6, hq6, h⟩ := bd_of h hf
        refine g_cVI (As := []) hC hO (c_X4_fewQuestions _ hC.2.2.2.2.2.2.1 a5 ka5 na5 q3.2 (nn_of hq6)) gc_X11_276 (xk_X4_fewQuestions _ (Nat.le_of_ble_eq_true rfl) (Nat.le_of_ble_eq_true rfl)) cr4 ka5 na5 rfl (Nat.le_of_ble_eq_true rfl) dX11_few_28 hq6 ?_
        refine g_goto (tgt := 35) hC dX11_few_31 (by decide) ?_
        exact g_sub [] rfl (k_X11_few_35 hC hO hR hf q6.1 q6.2 h)
theorem xk_X11_few (R : Room) (h1 : 6 + 1 ≤ R.frames) (h2 : 262 ≤ R.locals) : xw R yX11_few w_X11_few GT cX11_few 1 (some .int) rm_X11_few 0 := ⟨rfl, rfl, rfl, h1, h2, ⟨by decide, by decide⟩, by decide +kernel⟩
theorem c_X11_few (E : ET) (hE : EO E) (t : Nat) (ht1 : kd t = 11) (ht2 : AL E t) (σ : HS) (hn : f_X11_few t σ ≠ none) : CoI E yX11_few w_X11_few rm_X11_few [.ref (E.2.2.1 t)] σ (f_X11_few t σ) := CoI.of (lv := [(0, .ref (E.2.2.1 t))]) hE (plainFor_of_name (by decide)) rfl (Nat.le_of_ble_eq_true rfl) rfl (fun F hC hO hR => k_X11_few_0 hC hO hR hn t ht1 ht2 σ rfl)
def rm_X11_need : Room := { frames := 6, cells := 0, slots := 0, locals := 230 }
theorem wc_X4_needToMaybe : Cond.code yX4_needToMaybe cX4_needToMaybe 7 (some .int) ∈ GT := gtr_49 _ (List.mem_of_getElem? (i := 12) rfl)
theorem gc_X11_282 : GoodIn GT (wsV RX11 282 RX4 yX4_needToMaybe w_X4_needToMaybe) := gi_V (gtr_49 _ (List.mem_of_getElem? (i := 9) rfl)) (gtr_49 _ (List.mem_of_getElem? (i := 10) rfl)) (gtr_49 _ (List.mem_of_getElem? (i := 11) rfl)) (gtr_2 _ (List.mem_of_getElem? (i := 8) rfl)) wc_X4_needToMaybe
theorem wc_X4_needToBeSure : Cond.code yX4_needToBeSure cX4_needToBeSure 11 (some .int) ∈ GT := gtr_49 _ (List.mem_of_getElem? (i := 0) rfl)
theorem gc_X11_279 : GoodIn GT (wsV RX11 279 RX4 yX4_needToBeSure w_X4_needToBeSure) := gi_V (gtr_48 _ (List.mem_of_getElem? (i := 21) rfl)) (gtr_48 _ (List.mem_of_getElem? (i := 22) rfl)) (gtr_48 _ (List.mem_of_getElem? (i := 23) rfl)) (gtr_2 _ (List.mem_of_getElem? (i := 8) rfl)) wc_X4_needToBeSure
set_option maxHeartbeats 4000000 in
set_option maxRecDepth 100000 in
theorem k_X11_need_33 {E : ET} {F : FT} {fo : Option (Int32 × HS)} (hC : Cx E F 4 cX11_need RX11 GT) (hO : Ro F rm_X11_need) (hR : RI E F .int fo) (hf : fo ≠ none) (σ : HS) (h : f_X11_need_33 σ = fo) : G E F 33 [] [] σ := by
    refine g_iconst (v := (-1)) hC dX11_need_33 (by decide) ?_
    exact g_iret hC hR dX11_need_34 rfl h
set_option maxHeartbeats 4000000 in
set_option maxRecDepth 100000 in
theorem k_X11_need_60 {E : ET} {F : FT} {fo : Option (Int32 × HS)} (hC : Cx E F 4 cX11_need RX11 GT) (hO : Ro F rm_X11_need) (hR : RI E F .int fo) (hf : fo ≠ none) (s0 : Int32) (σ : HS) (h : f_X11_need_60 s0 σ = fo) : G E F 60 [] [.int s0] σ := by
    exact g_iret hC hR dX11_need_60 rfl h
set_option maxHeartbeats 4000000 in
set_option maxRecDepth 100000 in
theorem k_X11_need_0 {E : ET} {F : FT} {fo : Option (Int32 × HS)} (hC : Cx E F 4 cX11_need RX11 GT) (hO : Ro F rm_X11_need) (hR : RI E F .int fo) (hf : fo ≠ none) (t : Nat) (ht1 : kd t = 11) (ht2 : AL E t) (x1 : Int32) (x2 : Int32) (x3 : Int32) (σ : HS) (h : f_X11_need t x1 x2 x3 σ = fo) : G E F 0 [(0, .ref (E.2.2.1 t)), (1, .int x1), (2, .int x2), (3, .int x3)] [] σ := by
    refine g_aload_n hC dX11_need_0 rfl 0 rfl ?_
    obtain ⟨q1, hq1, h⟩ := bd_of h hf
    refine g_cVV (As := []) hC hO (c_X11_freshen _ hC.2.2.2.2.2.2.1 t ht1 ht2 σ (nn_of hq1)) gc_X11_144 (xk_X11_freshen _ (Nat.le_of_ble_eq_true rfl) (Nat.le_of_ble_eq_true rfl)) cr11 ht1 ht2 rfl (Nat.le_of_ble_eq_true rfl) dX11_need_1 hq1 ?_
    refine g_aload_n hC dX11_need_4 rfl 0 rfl ?_
    refine g_getR (cj := 9) (k := 2) hC cr11 ui_11 ht1 ht2 (by decide) fl_X11_28 rfl rfl dX11_need_5 h hf (fun a2 ea2 ka2 na2 h => ?_)
    refine g_iload_n hC dX11_need_8 rfl 1 rfl ?_
    obtain ⟨q3, hq3, h⟩ := bd_of h hf
    refine g_cVI (As := [.int x1]) hC hO (c_X9_isIn _ hC.2.2.2.2.2.2.1 a2 ka2 na2 x1 q1 (nn_of hq3)) gc_X11_161 (xk_X9_isIn _ (Nat.le_of_ble_eq_true rfl) (Nat.le_of_ble_eq_true rfl)) cr9 ka2 na2 rfl (Nat.le_of_ble_eq_true rfl) dX11_need_9 hq3 ?_
    refine g_if_eq (tgt := 33) hC dX11_need_12 (by decide) h (fun c12 h => ?_) (fun c12 h => ?_)
    · exact g_sub [] rfl (k_X11_need_33 hC hO hR hf q3.2 h)
    · refine g_aload_n hC dX11_need_15 rfl 0 rfl ?_
      refine g_iload_n hC dX11_need_16 rfl 2 rfl ?_
      obtain ⟨q4, hq4, h⟩ := bd_of h hf
      refine g_cVI (As := [.int x2]) hC hO (c_X11_hasMeasure _ hC.2.2.2.2.2.2.1 t ht1 ht2 x2 q3.2 (nn_of hq4)) gc_X11_147 (xk_X11_hasMeasure _ (Nat.le_of_ble_eq_true rfl) (Nat.le_of_ble_eq_true rfl)) cr11 ht1 ht2 rfl (Nat.le_of_ble_eq_true rfl) dX11_need_17 hq4 ?_
      refine g_if_eq (tgt := 33) hC dX11_need_20 (by decide) h (fun c20 h => ?_) (fun c20 h => ?_)
      · exact g_sub [] rfl (k_X11_need_33 hC hO hR hf q4.2 h)
      · refine g_aload_n hC dX11_need_23 rfl 0 rfl ?_
        refine g_getR (cj := 10) (k := 3) hC cr11 ui_11 ht1 ht2 (by decide) fl_X11_35 rfl rfl dX11_need_24 h hf (fun a5 ea5 ka5 na5 h => ?_)
        obtain ⟨q6, hq6, h⟩ := bd_of h hf
        refine g_cVI (As := []) hC hO (c_X10_theyCan _ hC.2.2.2.2.2.2.1 a5 ka5 na5 q4.2 (nn_of hq6)) gc_X11_211 (xk_X10_theyCan _ (Nat.le_of_ble_eq_true rfl) (Nat.le_of_ble_eq_true rfl)) cr10 ka5 na5 rfl (Nat.le_of_ble_eq_true rfl) dX11_need_27 hq6 ?_
        refine g_if_ne (tgt := 35) hC dX11_need_30 (by decide) h (fun c30 h => ?_) (fun c30 h => ?_)
        · refine g_iload_n hC dX11_need_35 rfl 3 rfl ?_
          refine g_if_eq (tgt := 51) hC dX11_need_36 (by decide) h (fun c36 h => ?_) (fun c36 h => ?_)
          · refine g_aload_n hC dX11_need_51 rfl 0 rfl ?_
            refine g_getR (cj := 4) (k := 4) hC cr11 ui_11 ht1 ht2 (by decide) fl_X11_44 rfl rfl dX11_need_52 h hf (fun a7 ea7 ka7 na7 h => ?_)
            refine g_iload_n hC dX11_need_55 rfl 1 rfl ?_
            refine g_iload_n hC dX11_need_56 rfl 2 rfl ?_
            obtain ⟨q8, hq8, h⟩ := bd_of h hf
            refine g_cVI (As := [.int x1, .int x2]) hC hO (c_X4_needToMaybe _ hC.2.2.2.2.2.2.1 a7 ka7 na7 x1 x2 q6.2 (nn_of hq8)) gc_X11_282 (xk_X4_needToMaybe _ (Nat.le_of_ble_eq_true rfl) (Nat.le_of_ble_eq_true rfl)) cr4 ka7 na7 rfl (Nat.le_of_ble_eq_true rfl) dX11_need_57 hq8 ?_
            exact g_sub [] rfl (k_X11_need_60 hC hO hR hf q8.1 q8.2 h)
          · refine g_aload_n hC dX11_need_39 rfl 0 rfl ?_
            refine g_getR (cj := 4) (k := 4) hC cr11 ui_11 ht1 ht2 (by decide) fl_X11_44 rfl rfl dX11_need_40 h hf (fun a9 ea9 ka9 na9 h => ?_)
            refine g_iload_n hC dX11_need_43 rfl 1 rfl ?_
            refine g_iload_n hC dX11_need_44 rfl 2 rfl ?_
            obtain ⟨q10, hq10, h⟩ := bd_of h hf
            refine g_cVI (As := [.int x1, .int x2]) hC hO (c_X4_needToBeSure _ hC.2.2.2.2.2.2.1 a9 ka9 na9 x1 x2 q6.2 (nn_of hq10)) gc_X11_279 (xk_X4_needToBeSure _ (Nat.le_of_ble_eq_true rfl) (Nat.le_of_ble_eq_true rfl)) cr4 ka9 na9 rfl (Nat.le_of_ble_eq_true rfl) dX11_need_45 hq10 ?_
            refine g_goto (tgt := 60) hC dX11_need_48 (by decide) ?_
            exact g_sub [] rfl (k_X11_need_60 hC hO hR hf q10.1 q10.2 h)
        · exact g_sub [] rfl (k_X11_need_33 hC hO hR hf q6.2 h)
theorem xk_X11_need (R : Room) (h1 : 6 + 1 ≤ R.frames) (h2 : 265 ≤ R.locals) : xw R yX11_need w_X11_need GT cX11_need 4 (some .int) rm_X11_need 3 := ⟨rfl, rfl, rfl, h1, h2, ⟨by decide, by decide⟩, by decide +kernel⟩
theorem c_X11_need (E : ET) (hE : EO E) (t : Nat) (ht1 : kd t = 11) (ht2 : AL E t) (x1 : Int32) (x2 : Int32) (x3 : Int32) (σ : HS) (hn : f_X11_need t x1 x2 x3 σ ≠ none) : CoI E yX11_need w_X11_need rm_X11_need [.ref (E.2.2.1 t), .int x1, .int x2, .int x3] σ (f_X11_need t x1 x2 x3 σ) := CoI.of (lv := [(0, .ref (E.2.2.1 t)), (1, .int x1), (2, .int x2), (3, .int x3)]) hE (plainFor_of_name (by decide)) rfl (Nat.le_of_ble_eq_true rfl) rfl (fun F hC hO hR => k_X11_need_0 hC hO hR hn t ht1 ht2 x1 x2 x3 σ rfl)
def rm_X11_share : Room := { frames := 6, cells := 0, slots := 0, locals := 230 }
theorem fl_X11_69 : Cond.fieldLink RX11 69 "EveryMeasure" (TX11 7).2.1 (TX11 7).2.2.1 ∈ GT := gtr_2 _ (List.mem_of_getElem? (i := 21) rfl)
theorem wc_X7_open : Cond.code yX7_open cX7_open 5 none ∈ GT := gtr_50 _ (List.mem_of_getElem? (i := 5) rfl)
theorem gc_X11_285 : GoodIn GT (wsV RX11 285 RX7 yX7_open w_X7_open) := gi_V (gtr_50 _ (List.mem_of_getElem? (i := 2) rfl)) (gtr_50 _ (List.mem_of_getElem? (i := 3) rfl)) (gtr_50 _ (List.mem_of_getElem? (i := 4) rfl)) (gtr_2 _ (List.mem_of_getElem? (i := 20) rfl)) wc_X7_open
theorem wc_X7_narrowBy : Cond.code yX7_narrowBy cX7_narrowBy 4 none ∈ GT := gtr_50 _ (List.mem_of_getElem? (i := 9) rfl)
theorem gc_X11_289 : GoodIn GT (wsV RX11 289 RX7 yX7_narrowBy w_X7_narrowBy) := gi_V (gtr_50 _ (List.mem_of_getElem? (i := 6) rfl)) (gtr_50 _ (List.mem_of_getElem? (i := 7) rfl)) (gtr_50 _ (List.mem_of_getElem? (i := 8) rfl)) (gtr_2 _ (List.mem_of_getElem? (i := 20) rfl)) wc_X7_narrowBy
theorem fl_X11_292 : Cond.fieldLink RX11 292 "EveryMeasure$Judge" (TX4 2).2.1 (TX4 2).2.2.1 ∈ GT := gtr_50 _ (List.mem_of_getElem? (i := 1) rfl)
theorem wc_X7_width : Cond.code yX7_width cX7_width 1 (some .int) ∈ GT := gtr_50 _ (List.mem_of_getElem? (i := 22) rfl)
theorem gc_X11_295 : GoodIn GT (wsV RX11 295 RX7 yX7_width w_X7_width) := gi_V (gtr_50 _ (List.mem_of_getElem? (i := 19) rfl)) (gtr_50 _ (List.mem_of_getElem? (i := 20) rfl)) (gtr_50 _ (List.mem_of_getElem? (i := 21) rfl)) (gtr_2 _ (List.mem_of_getElem? (i := 20) rfl)) wc_X7_width
set_option maxHeartbeats 4000000 in
set_option maxRecDepth 100000 in
theorem k_X11_share_31 {E : ET} {F : FT} {fo : Option (Int32 × HS)} (hC : Cx E F 9 cX11_share RX11 GT) (hO : Ro F rm_X11_share) (hR : RI E F .int fo) (hf : fo ≠ none) (σ : HS) (h : f_X11_share_31 σ = fo) : G E F 31 [] [] σ := by
    refine g_iconst (v := (-1)) hC dX11_share_31 (by decide) ?_
    exact g_iret hC hR dX11_share_32 rfl h
set_option maxHeartbeats 4000000 in
set_option maxRecDepth 100000 in
theorem k_X11_share_112 {E : ET} {F : FT} {fo : Option (Int32 × HS)} (hC : Cx E F 9 cX11_share RX11 GT) (hO : Ro F rm_X11_share) (hR : RI E F .int fo) (hf : fo ≠ none) (t : Nat) (ht1 : kd t = 11) (ht2 : AL E t) (x2 : Int32) (x3 : Int32) (x5 : Int32) (x6 : Int32) (x7 : Int32) (r84 : Int32 → Int32 → HS → Option (Int32 × HS)) (h84 : ∀ (x4 : Int32) (x6 : Int32) (σ : HS), r84 x4 x6 σ = fo → G E F 84 [(0, .ref (E.2.2.1 t)), (2, .int x2), (3, .int x3), (4, .int x4), (5, .int x5), (6, .int x6)] [] σ) : ∀ (n : Nat) (x4 : Int32) (x8 : Int32) (σ : HS), f_X11_share_112 t x2 x3 x5 x6 x7 r84 n x4 x8 σ = fo → G E F 112 [(0, .ref (E.2.2.1 t)), (2, .int x2), (3, .int x3), (4, .int x4), (5, .int x5), (6, .int x6), (7, .int x7), (8, .int x8)] [] σ := by
  intro n
  induction n with
  | zero =>
    intro x4 x8 σ h
    exact absurd (h.symm.trans rfl) hf
  | succ n ih =>
    intro x4 x8 σ h
    refine g_iload hC dX11_share_112 7 rfl ?_
    refine g_iload hC dX11_share_114 6 rfl ?_
    refine g_icmp_gt (tgt := 189) hC dX11_share_116 (by decide) h (fun c116 h => ?_) (fun c116 h => ?_)
    · refine g_iinc (v := x6 + 1) (lv' := [(6, .int (x6 + 1)), (0, .ref (E.2.2.1 t)), (2, .int x2), (3, .int x3), (4, .int x4), (5, .int x5), (7, .int x7), (8, .int x8)]) hC dX11_share_189 5 rfl rfl (by decide) rfl ?_
      refine g_goto (tgt := 84) hC dX11_share_192 (by decide) ?_
      exact g_sub [1, 2, 3, 4, 5, 0] rfl (h84 x4 (x6 + 1) σ h)
    · refine g_aload_n hC dX11_share_119 rfl 0 rfl ?_
      refine g_getR (cj := 7) (k := 7) hC cr11 ui_11 ht1 ht2 (by decide) fl_X11_69 rfl rfl dX11_share_120 h hf (fun a1 ea1 ka1 na1 h => ?_)
      refine g_aload_n hC dX11_share_123 rfl 0 rfl ?_
      refine g_getI (k := 16) hC cr11 ui_11 ht1 ht2 (by decide) fl_X11_134 rfl rfl dX11_share_124 ?_
      refine g_iload_n hC dX11_share_127 rfl 1 rfl ?_
      refine g_iload hC dX11_share_128 5 rfl ?_
      refine g_iload hC dX11_share_130 7 rfl ?_
      obtain ⟨q2, hq2, h⟩ := bd_of h hf
      refine g_cVV (As := [.int (σ.1 t 16), .int x2, .int x6, .int x8]) hC hO (c_X7_open _ hC.2.2.2.2.2.2.1 a1 ka1 na1 (σ.1 t 16) x2 x6 x8 σ (nn_of hq2)) gc_X11_285 (xk_X7_open _ (Nat.le_of_ble_eq_true rfl) (Nat.le_of_ble_eq_true rfl)) cr7 ka1 na1 rfl (Nat.le_of_ble_eq_true rfl) dX11_share_132 hq2 ?_
      refine g_aload_n hC dX11_share_135 rfl 0 rfl ?_
      refine g_getR (cj := 7) (k := 7) hC cr11 ui_11 ht1 ht2 (by decide) fl_X11_69 rfl rfl dX11_share_136 h hf (fun a3 ea3 ka3 na3 h => ?_)
      refine g_aload_n hC dX11_share_139 rfl 0 rfl ?_
      refine g_getR (cj := 10) (k := 3) hC cr11 ui_11 ht1 ht2 (by decide) fl_X11_35 rfl rfl dX11_share_140 h hf (fun a4 ea4 ka4 na4 h => ?_)
      refine g_getR (cj := 18) (k := 0) hC cr10 ui_10 ka4 na4 (by decide) fl_X11_193 rfl rfl dX11_share_143 h hf (fun a5 ea5 ka5 na5 h => ?_)
      refine g_aload_n hC dX11_share_146 rfl 0 rfl ?_
      refine g_getR (cj := 10) (k := 3) hC cr11 ui_11 ht1 ht2 (by decide) fl_X11_35 rfl rfl dX11_share_147 h hf (fun a6 ea6 ka6 na6 h => ?_)
      refine g_getI (k := 4) hC cr10 ui_10 ka6 na6 (by decide) fl_X11_190 rfl rfl dX11_share_150 ?_
      obtain ⟨q7, hq7, h⟩ := bd_of h hf
      refine g_cVV (As := [.ref (E.2.2.1 a5), .int (q2.1 a6 4)]) hC hO (c_X7_narrowBy _ hC.2.2.2.2.2.2.1 a3 ka3 na3 a5 ka5 na5 (q2.1 a6 4) q2 (nn_of hq7)) gc_X11_289 (xk_X7_narrowBy _ (Nat.le_of_ble_eq_true rfl) (Nat.le_of_ble_eq_true rfl)) cr7 ka3 na3 rfl (Nat.le_of_ble_eq_true rfl) dX11_share_153 hq7 ?_
      refine g_aload_n hC dX11_share_156 rfl 0 rfl ?_
      refine g_getR (cj := 7) (k := 7) hC cr11 ui_11 ht1 ht2 (by decide) fl_X11_69 rfl rfl dX11_share_157 h hf (fun a8 ea8 ka8 na8 h => ?_)
      refine g_aload_n hC dX11_share_160 rfl 0 rfl ?_
      refine g_getR (cj := 4) (k := 4) hC cr11 ui_11 ht1 ht2 (by decide) fl_X11_44 rfl rfl dX11_share_161 h hf (fun a9 ea9 ka9 na9 h => ?_)
      refine g_getR (cj := 18) (k := 2) hC cr4 ui_4 ka9 na9 (by decide) fl_X11_292 rfl rfl dX11_share_164 h hf (fun a10 ea10 ka10 na10 h => ?_)
      refine g_iload_n hC dX11_share_167 rfl 2 rfl ?_
      obtain ⟨q11, hq11, h⟩ := bd_of h hf
      refine g_cVV (As := [.ref (E.2.2.1 a10), .int x3]) hC hO (c_X7_narrowBy _ hC.2.2.2.2.2.2.1 a8 ka8 na8 a10 ka10 na10 x3 q7 (nn_of hq11)) gc_X11_289 (xk_X7_narrowBy _ (Nat.le_of_ble_eq_true rfl) (Nat.le_of_ble_eq_true rfl)) cr7 ka8 na8 rfl (Nat.le_of_ble_eq_true rfl) dX11_share_168 hq11 ?_
      refine g_iload hC dX11_share_171 3 rfl ?_
      refine g_aload_n hC dX11_share_173 rfl 0 rfl ?_
      refine g_getR (cj := 7) (k := 7) hC cr11 ui_11 ht1 ht2 (by decide) fl_X11_69 rfl rfl dX11_share_174 h hf (fun a12 ea12 ka12 na12 h => ?_)
      obtain ⟨q13, hq13, h⟩ := bd_of h hf
      refine g_cVI (As := []) hC hO (c_X7_width _ hC.2.2.2.2.2.2.1 a12 ka12 na12 q11 (nn_of hq13)) gc_X11_295 (xk_X7_width _ (Nat.le_of_ble_eq_true rfl) (Nat.le_of_ble_eq_true rfl)) cr7 ka12 na12 rfl (Nat.le_of_ble_eq_true rfl) dX11_share_177 hq13 ?_
      refine g_iadd hC dX11_share_180 ?_
      refine g_istore (lv' := [(4, .int (x4 + q13.1)), (0, .ref (E.2.2.1 t)), (2, .int x2), (3, .int x3), (5, .int x5), (6, .int x6), (7, .int x7), (8, .int x8)]) hC dX11_share_181 (by decide) rfl ?_
      refine g_iinc (v := x8 + 1) (lv' := [(8, .int (x8 + 1)), (4, .int (x4 + q13.1)), (0, .ref (E.2.2.1 t)), (2, .int x2), (3, .int x3), (5, .int x5), (6, .int x6), (7, .int x7)]) hC dX11_share_183 7 rfl rfl (by decide) rfl ?_
      refine g_goto (tgt := 112) hC dX11_share_186 (by decide) ?_
      exact g_sub [2, 3, 4, 1, 5, 6, 7, 0] rfl (ih (x4 + q13.1) (x8 + 1) q13.2 h)
set_option maxHeartbeats 4000000 in
set_option maxRecDepth 100000 in
theorem k_X11_share_107 {E : ET} {F : FT} {fo : Option (Int32 × HS)} (hC : Cx E F 9 cX11_share RX11 GT) (hO : Ro F rm_X11_share) (hR : RI E F .int fo) (hf : fo ≠ none) (t : Nat) (ht1 : kd t = 11) (ht2 : AL E t) (x2 : Int32) (x3 : Int32) (x4 : Int32) (x5 : Int32) (x6 : Int32) (s0 : Int32) (r84 : Int32 → Int32 → HS → Option (Int32 × HS)) (h84 : ∀ (x4 : Int32) (x6 : Int32) (σ : HS), r84 x4 x6 σ = fo → G E F 84 [(0, .ref (E.2.2.1 t)), (2, .int x2), (3, .int x3), (4, .int x4), (5, .int x5), (6, .int x6)] [] σ) (σ : HS) (h : f_X11_share_107 r84 t x2 x3 x4 x5 x6 s0 σ = fo) : G E F 107 [(0, .ref (E.2.2.1 t)), (2, .int x2), (3, .int x3), (4, .int x4), (5, .int x5), (6, .int x6)] [.int s0] σ := by
    refine g_istore (lv' := [(7, .int s0), (0, .ref (E.2.2.1 t)), (2, .int x2), (3, .int x3), (4, .int x4), (5, .int x5), (6, .int x6)]) hC dX11_share_107 (by decide) rfl ?_
    refine g_iconst (v := 0) hC dX11_share_109 (by decide) ?_
    refine g_istore (lv' := [(8, .int 0), (7, .int s0), (0, .ref (E.2.2.1 t)), (2, .int x2), (3, .int x3), (4, .int x4), (5, .int x5), (6, .int x6)]) hC dX11_share_110 (by decide) rfl ?_
    exact g_sub [2, 3, 4, 5, 6, 7, 1, 0] rfl (k_X11_share_112 hC hO hR hf t ht1 ht2 x2 x3 x5 x6 s0 r84 h84 FU x4 0 σ h)
set_option maxHeartbeats 4000000 in
set_option maxRecDepth 100000 in
theorem k_X11_share_84 {E : ET} {F : FT} {fo : Option (Int32 × HS)} (hC : Cx E F 9 cX11_share RX11 GT) (hO : Ro F rm_X11_share) (hR : RI E F .int fo) (hf : fo ≠ none) (t : Nat) (ht1 : kd t = 11) (ht2 : AL E t) (x2 : Int32) (x3 : Int32) (x5 : Int32) : ∀ (n : Nat) (x4 : Int32) (x6 : Int32) (σ : HS), f_X11_share_84 t x2 x3 x5 n x4 x6 σ = fo → G E F 84 [(0, .ref (E.2.2.1 t)), (2, .int x2), (3, .int x3), (4, .int x4), (5, .int x5), (6, .int x6)] [] σ := by
  intro n
  induction n with
  | zero =>
    intro x4 x6 σ h
    exact absurd (h.symm.trans rfl) hf
  | succ n ih =>
    intro x4 x6 σ h
    refine g_iload hC dX11_share_84 5 rfl ?_
    refine g_iload hC dX11_share_86 4 rfl ?_
    refine g_icmp_gt (tgt := 195) hC dX11_share_88 (by decide) h (fun c88 h => ?_) (fun c88 h => ?_)
    · refine g_iload hC dX11_share_195 3 rfl ?_
      exact g_iret hC hR dX11_share_197 rfl h
    · refine g_aload_n hC dX11_share_91 rfl 0 rfl ?_
      refine g_getI (k := 16) hC cr11 ui_11 ht1 ht2 (by decide) fl_X11_134 rfl rfl dX11_share_92 ?_
      refine g_iconst (v := 3) hC dX11_share_95 (by decide) ?_
      refine g_icmp_le (tgt := 106) hC dX11_share_96 (by decide) h (fun c96 h => ?_) (fun c96 h => ?_)
      · refine g_iconst (v := 0) hC dX11_share_106 (by decide) ?_
        exact g_sub [0, 1, 2, 3, 4, 5] rfl (k_X11_share_107 hC hO hR hf t ht1 ht2 x2 x3 x4 x5 x6 0 (f_X11_share_84 t x2 x3 x5 n) ih σ h)
      · refine g_iload_n hC dX11_share_99 rfl 1 rfl ?_
        refine g_iload hC dX11_share_100 5 rfl ?_
        refine g_isub hC dX11_share_102 ?_
        refine g_goto (tgt := 107) hC dX11_share_103 (by decide) ?_
        exact g_sub [0, 1, 2, 3, 4, 5] rfl (k_X11_share_107 hC hO hR hf t ht1 ht2 x2 x3 x4 x5 x6 (x2 - x6) (f_X11_share_84 t x2 x3 x5 n) ih σ h)
set_option maxHeartbeats 4000000 in
set_option maxRecDepth 100000 in
theorem k_X11_share_79 {E : ET} {F : FT} {fo : Option (Int32 × HS)} (hC : Cx E F 9 cX11_share RX11 GT) (hO : Ro F rm_X11_share) (hR : RI E F .int fo) (hf : fo ≠ none) (t : Nat) (ht1 : kd t = 11) (ht2 : AL E t) (x2 : Int32) (x3 : Int32) (x4 : Int32) (s0 : Int32) (σ : HS) (h : f_X11_share_79 t x2 x3 x4 s0 σ = fo) : G E F 79 [(0, .ref (E.2.2.1 t)), (2, .int x2), (3, .int x3), (4, .int x4)] [.int s0] σ := by
    refine g_istore (lv' := [(5, .int s0), (0, .ref (E.2.2.1 t)), (2, .int x2), (3, .int x3), (4, .int x4)]) hC dX11_share_79 (by decide) rfl ?_
    refine g_iconst (v := 0) hC dX11_share_81 (by decide) ?_
    refine g_istore (lv' := [(6, .int 0), (5, .int s0), (0, .ref (E.2.2.1 t)), (2, .int x2), (3, .int x3), (4, .int x4)]) hC dX11_share_82 (by decide) rfl ?_
    exact g_sub [2, 3, 4, 5, 1, 0] rfl (k_X11_share_84 hC hO hR hf t ht1 ht2 x2 x3 s0 FU x4 0 σ h)
set_option maxHeartbeats 4000000 in
set_option maxRecDepth 100000 in
theorem k_X11_share_63 {E : ET} {F : FT} {fo : Option (Int32 × HS)} (hC : Cx E F 9 cX11_share RX11 GT) (hO : Ro F rm_X11_share) (hR : RI E F .int fo) (hf : fo ≠ none) (t : Nat) (ht1 : kd t = 11) (ht2 : AL E t) (x2 : Int32) (x3 : Int32) (σ : HS) (h : f_X11_share_63 t x2 x3 σ = fo) : G E F 63 [(0, .ref (E.2.2.1 t)), (2, .int x2), (3, .int x3)] [] σ := by
    refine g_iconst (v := 0) hC dX11_share_63 (by decide) ?_
    refine g_istore (lv' := [(4, .int 0), (0, .ref (E.2.2.1 t)), (2, .int x2), (3, .int x3)]) hC dX11_share_64 (by decide) rfl ?_
    refine g_aload_n hC dX11_share_66 rfl 1 rfl ?_
    refine g_getI (k := 16) hC cr11 ui_11 ht1 ht2 (by decide) fl_X11_134 rfl rfl dX11_share_67 ?_
    refine g_iconst (v := 2) hC dX11_share_70 (by decide) ?_
    refine g_icmp_le (tgt := 78) hC dX11_share_71 (by decide) h (fun c71 h => ?_) (fun c71 h => ?_)
    · refine g_iconst (v := 0) hC dX11_share_78 (by decide) ?_
      exact g_sub [1, 2, 3, 0] rfl (k_X11_share_79 hC hO hR hf t ht1 ht2 x2 x3 0 0 σ h)
    · refine g_iload_n hC dX11_share_74 rfl 2 rfl ?_
      refine g_goto (tgt := 79) hC dX11_share_75 (by decide) ?_
      exact g_sub [1, 2, 3, 0] rfl (k_X11_share_79 hC hO hR hf t ht1 ht2 x2 x3 0 x2 σ h)
set_option maxHeartbeats 4000000 in
set_option maxRecDepth 100000 in
theorem k_X11_share_33 {E : ET} {F : FT} {fo : Option (Int32 × HS)} (hC : Cx E F 9 cX11_share RX11 GT) (hO : Ro F rm_X11_share) (hR : RI E F .int fo) (hf : fo ≠ none) (t : Nat) (ht1 : kd t = 11) (ht2 : AL E t) (x1 : Int32) (x2 : Int32) (σ : HS) (h : f_X11_share_33 t x1 x2 σ = fo) : G E F 33 [(0, .ref (E.2.2.1 t)), (1, .int x1), (2, .int x2)] [] σ := by
    refine g_iconst (v := 0) hC dX11_share_33 (by decide) ?_
    refine g_istore_n (lv' := [(3, .int 0), (0, .ref (E.2.2.1 t)), (1, .int x1), (2, .int x2)]) hC dX11_share_34 rfl (by decide) rfl ?_
    refine g_iload_n hC dX11_share_35 rfl 2 rfl ?_
    refine g_iconst (v := (-1)) hC dX11_share_36 (by decide) ?_
    refine g_icmp_eq (tgt := 63) hC dX11_share_37 (by decide) h (fun c37 h => ?_) (fun c37 h => ?_)
    · exact g_sub [1, 3, 0] rfl (k_X11_share_63 hC hO hR hf t ht1 ht2 x2 0 σ h)
    · refine g_aload_n hC dX11_share_40 rfl 1 rfl ?_
      refine g_getR (cj := 9) (k := 2) hC cr11 ui_11 ht1 ht2 (by decide) fl_X11_28 rfl rfl dX11_share_41 h hf (fun a1 ea1 ka1 na1 h => ?_)
      refine g_getI (k := 4) hC cr9 ui_9 ka1 na1 (by decide) fl_X11_261 rfl rfl dX11_share_44 ?_
      refine g_iconst (v := 1) hC dX11_share_47 (by decide) ?_
      refine g_iload_n hC dX11_share_48 rfl 2 rfl ?_
      refine g_ishl hC dX11_share_49 ?_
      refine g_iconst (v := (-1)) hC dX11_share_50 (by decide) ?_
      refine g_ixor hC dX11_share_51 ?_
      refine g_iand hC dX11_share_52 ?_
      refine g_istore_n (lv' := [(3, .int ((σ.1 a1 4) &&& (((1 : Int32) <<< (x1 &&& 31)) ^^^ (-1)))), (0, .ref (E.2.2.1 t)), (1, .int x1), (2, .int x2)]) hC dX11_share_53 rfl (by decide) rfl ?_
      refine g_aload_n hC dX11_share_54 rfl 1 rfl ?_
      refine g_getR (cj := 4) (k := 4) hC cr11 ui_11 ht1 ht2 (by decide) fl_X11_44 rfl rfl dX11_share_55 h hf (fun a2 ea2 ka2 na2 h => ?_)
      refine g_iload_n hC dX11_share_58 rfl 2 rfl ?_
      obtain ⟨q3, hq3, h⟩ := bd_of h hf
      refine g_cVR (As := [.int x1]) hC hO (c_X4_leadsOf _ hC.2.2.2.2.2.2.1 a2 ka2 na2 x1 σ (nn_of hq3)) gc_X11_257 (xk_X4_leadsOf _ (Nat.le_of_ble_eq_true rfl) (Nat.le_of_ble_eq_true rfl)) cr4 ka2 na2 rfl (Nat.le_of_ble_eq_true rfl) dX11_share_59 hq3 (fun na4 => ?_)
      obtain ⟨a4, ea4, ka4, h⟩ := rk_of h hf
      rw [Option.some.inj ea4] at na4 ⊢
      refine g_pop hC dX11_share_62 rfl ?_
      exact g_sub [1, 3, 0] rfl (k_X11_share_63 hC hO hR hf t ht1 ht2 x2 ((σ.1 a1 4) &&& (((1 : Int32) <<< (x1 &&& 31)) ^^^ (-1))) q3.2 h)
set_option maxHeartbeats 4000000 in
set_option maxRecDepth 100000 in
theorem k_X11_share_0 {E : ET} {F : FT} {fo : Option (Int32 × HS)} (hC : Cx E F 9 cX11_share RX11 GT) (hO : Ro F rm_X11_share) (hR : RI E F .int fo) (hf : fo ≠ none) (t : Nat) (ht1 : kd t = 11) (ht2 : AL E t) (x1 : Int32) (x2 : Int32) (σ : HS) (h : f_X11_share t x1 x2 σ = fo) : G E F 0 [(0, .ref (E.2.2.1 t)), (1, .int x1), (2, .int x2)] [] σ := by
    refine g_aload_n hC dX11_share_0 rfl 0 rfl ?_
    obtain ⟨q1, hq1, h⟩ := bd_of h hf
    refine g_cVV (As := []) hC hO (c_X11_freshen _ hC.2.2.2.2.2.2.1 t ht1 ht2 σ (nn_of hq1)) gc_X11_144 (xk_X11_freshen _ (Nat.le_of_ble_eq_true rfl) (Nat.le_of_ble_eq_true rfl)) cr11 ht1 ht2 rfl (Nat.le_of_ble_eq_true rfl) dX11_share_1 hq1 ?_
    refine g_iload_n hC dX11_share_4 rfl 2 rfl ?_
    refine g_iconst (v := 1) hC dX11_share_5 (by decide) ?_
    refine g_icmp_lt (tgt := 31) hC dX11_share_6 (by decide) h (fun c6 h => ?_) (fun c6 h => ?_)
    · exact g_sub [] rfl (k_X11_share_31 hC hO hR hf q1 h)
    · refine g_iload_n hC dX11_share_9 rfl 2 rfl ?_
      refine g_bipush (v := 20) hC dX11_share_10 (by decide) ?_
      refine g_icmp_gt (tgt := 31) hC dX11_share_12 (by decide) h (fun c12 h => ?_) (fun c12 h => ?_)
      · exact g_sub [] rfl (k_X11_share_31 hC hO hR hf q1 h)
      · refine g_iload_n hC dX11_share_15 rfl 1 rfl ?_
        refine g_iconst (v := (-1)) hC dX11_share_16 (by decide) ?_
        refine g_icmp_eq (tgt := 33) hC dX11_share_17 (by decide) h (fun c17 h => ?_) (fun c17 h => ?_)
        · exact g_sub [0, 1, 2] rfl (k_X11_share_33 hC hO hR hf t ht1 ht2 x1 x2 q1 h)
        · refine g_aload_n hC dX11_share_20 rfl 0 rfl ?_
          refine g_getR (cj := 9) (k := 2) hC cr11 ui_11 ht1 ht2 (by decide) fl_X11_28 rfl rfl dX11_share_21 h hf (fun a2 ea2 ka2 na2 h => ?_)
          refine g_iload_n hC dX11_share_24 rfl 1 rfl ?_
          obtain ⟨q3, hq3, h⟩ := bd_of h hf
          refine g_cVI (As := [.int x1]) hC hO (c_X9_isIn _ hC.2.2.2.2.2.2.1 a2 ka2 na2 x1 q1 (nn_of hq3)) gc_X11_161 (xk_X9_isIn _ (Nat.le_of_ble_eq_true rfl) (Nat.le_of_ble_eq_true rfl)) cr9 ka2 na2 rfl (Nat.le_of_ble_eq_true rfl) dX11_share_25 hq3 ?_
          refine g_if_ne (tgt := 33) hC dX11_share_28 (by decide) h (fun c28 h => ?_) (fun c28 h => ?_)
          · exact g_sub [0, 1, 2] rfl (k_X11_share_33 hC hO hR hf t ht1 ht2 x1 x2 q3.2 h)
          · exact g_sub [] rfl (k_X11_share_31 hC hO hR hf q3.2 h)
theorem xk_X11_share (R : Room) (h1 : 6 + 1 ≤ R.frames) (h2 : 270 ≤ R.locals) : xw R yX11_share w_X11_share GT cX11_share 9 (some .int) rm_X11_share 2 := ⟨rfl, rfl, rfl, h1, h2, ⟨by decide, by decide⟩, by decide +kernel⟩
theorem c_X11_share (E : ET) (hE : EO E) (t : Nat) (ht1 : kd t = 11) (ht2 : AL E t) (x1 : Int32) (x2 : Int32) (σ : HS) (hn : f_X11_share t x1 x2 σ ≠ none) : CoI E yX11_share w_X11_share rm_X11_share [.ref (E.2.2.1 t), .int x1, .int x2] σ (f_X11_share t x1 x2 σ) := CoI.of (lv := [(0, .ref (E.2.2.1 t)), (1, .int x1), (2, .int x2)]) hE (plainFor_of_name (by decide)) rfl (Nat.le_of_ble_eq_true rfl) rfl (fun F hC hO hR => k_X11_share_0 hC hO hR hn t ht1 ht2 x1 x2 σ rfl)
def rm_X11_why : Room := { frames := 29, cells := 0, slots := 0, locals := 1113 }
theorem fl_X11_84 : Cond.fieldLink RX11 84 "EveryMeasure" (TX11 10).2.1 (TX11 10).2.2.1 ∈ GT := gtr_3 _ (List.mem_of_getElem? (i := 4) rfl)
theorem gc_X11_298 : GoodIn GT (wsV RX11 298 RX9 yX9_fillLead w_X9_fillLead) := gi_V (gtr_51 _ (List.mem_of_getElem? (i := 15) rfl)) (gtr_23 _ (List.mem_of_getElem? (i := 20) rfl)) (gtr_23 _ (List.mem_of_getElem? (i := 21) rfl)) (gtr_2 _ (List.mem_of_getElem? (i := 0) rfl)) wc_X9_fillLead
set_option maxHeartbeats 4000000 in
set_option maxRecDepth 100000 in
theorem k_X11_why_31 {E : ET} {F : FT} {fo : Option (Int32 × HS)} (hC : Cx E F 4 cX11_why RX11 GT) (hO : Ro F rm_X11_why) (hR : RI E F .int fo) (hf : fo ≠ none) (σ : HS) (h : f_X11_why_31 σ = fo) : G E F 31 [] [] σ := by
    refine g_iconst (v := (-1)) hC dX11_why_31 (by decide) ?_
    exact g_iret hC hR dX11_why_32 rfl h
set_option maxHeartbeats 4000000 in
set_option maxRecDepth 100000 in
theorem k_X11_why_0 {E : ET} {F : FT} {fo : Option (Int32 × HS)} (hC : Cx E F 4 cX11_why RX11 GT) (hO : Ro F rm_X11_why) (hR : RI E F .int fo) (hf : fo ≠ none) (t : Nat) (ht1 : kd t = 11) (ht2 : AL E t) (x1 : Int32) (x2 : Int32) (x3 : Int32) (σ : HS) (h : f_X11_why t x1 x2 x3 σ = fo) : G E F 0 [(0, .ref (E.2.2.1 t)), (1, .int x1), (2, .int x2), (3, .int x3)] [] σ := by
    refine g_aload_n hC dX11_why_0 rfl 0 rfl ?_
    obtain ⟨q1, hq1, h⟩ := bd_of h hf
    refine g_cVV (As := []) hC hO (c_X11_freshen _ hC.2.2.2.2.2.2.1 t ht1 ht2 σ (nn_of hq1)) gc_X11_144 (xk_X11_freshen _ (Nat.le_of_ble_eq_true rfl) (Nat.le_of_ble_eq_true rfl)) cr11 ht1 ht2 rfl (Nat.le_of_ble_eq_true rfl) dX11_why_1 hq1 ?_
    refine g_iload_n hC dX11_why_4 rfl 3 rfl ?_
    obtain ⟨q2, hq2, h⟩ := bd_of h hf
    refine g_cSI (As := [.int x3]) hC hO (c_X11_isPart _ hC.2.2.2.2.2.2.1 x3 q1 (nn_of hq2)) gc_X11_168 (xk_X11_isPart _ (Nat.le_of_ble_eq_true rfl) (Nat.le_of_ble_eq_true rfl)) rfl (Nat.le_of_ble_eq_true rfl) dX11_why_5 hq2 ?_
    refine g_if_eq (tgt := 31) hC dX11_why_8 (by decide) h (fun c8 h => ?_) (fun c8 h => ?_)
    · exact g_sub [] rfl (k_X11_why_31 hC hO hR hf q2.2 h)
    · refine g_aload_n hC dX11_why_11 rfl 0 rfl ?_
      refine g_getR (cj := 4) (k := 4) hC cr11 ui_11 ht1 ht2 (by decide) fl_X11_44 rfl rfl dX11_why_12 h hf (fun a3 ea3 ka3 na3 h => ?_)
      refine g_aload_n hC dX11_why_15 rfl 0 rfl ?_
      refine g_getR (cj := 10) (k := 3) hC cr11 ui_11 ht1 ht2 (by decide) fl_X11_35 rfl rfl dX11_why_16 h hf (fun a4 ea4 ka4 na4 h => ?_)
      refine g_getR (cj := 1) (k := 2) hC cr10 ui_10 ka4 na4 (by decide) fl_X11_196 rfl rfl dX11_why_19 h hf (fun a5 ea5 ka5 na5 h => ?_)
      refine g_iload_n hC dX11_why_22 rfl 1 rfl ?_
      refine g_iload_n hC dX11_why_23 rfl 2 rfl ?_
      obtain ⟨q6, hq6, h⟩ := bd_of h hf
      refine g_cVI (As := [.ref (E.2.2.1 a5), .int x1, .int x2]) hC hO (c_X4_compare _ hC.2.2.2.2.2.2.1 a3 ka3 na3 a5 ka5 na5 x1 x2 q2.2 (nn_of hq6)) gc_X11_230 (xk_X4_compare _ (Nat.le_of_ble_eq_true rfl) (Nat.le_of_ble_eq_true rfl)) cr4 ka3 na3 rfl (Nat.le_of_ble_eq_true rfl) dX11_why_24 hq6 ?_
      refine g_iconst (v := 2) hC dX11_why_27 (by decide) ?_
      refine g_icmp_eq (tgt := 33) hC dX11_why_28 (by decide) h (fun c28 h => ?_) (fun c28 h => ?_)
      · refine g_aload_n hC dX11_why_33 rfl 0 rfl ?_
        refine g_getR (cj := 9) (k := 2) hC cr11 ui_11 ht1 ht2 (by decide) fl_X11_28 rfl rfl dX11_why_34 h hf (fun a7 ea7 ka7 na7 h => ?_)
        refine g_iload_n hC dX11_why_37 rfl 1 rfl ?_
        refine g_iload_n hC dX11_why_38 rfl 2 rfl ?_
        refine g_aload_n hC dX11_why_39 rfl 0 rfl ?_
        refine g_getR (cj := 14) (k := 10) hC cr11 ui_11 ht1 ht2 (by decide) fl_X11_84 rfl rfl dX11_why_40 h hf (fun a8 ea8 ka8 na8 h => ?_)
        obtain ⟨q9, hq9, h⟩ := bd_of h hf
        refine g_cVV (As := [.int x1, .int x2, .ref (E.2.2.1 a8)]) hC hO (c_X9_fillLead _ hC.2.2.2.2.2.2.1 a7 ka7 na7 x1 x2 a8 ka8 na8 q6.2 (nn_of hq9)) gc_X11_298 (xk_X9_fillLead _ (Nat.le_of_ble_eq_true rfl) (Nat.le_of_ble_eq_true rfl)) cr9 ka7 na7 rfl (Nat.le_of_ble_eq_true rfl) dX11_why_43 hq9 ?_
        refine g_aload_n hC dX11_why_46 rfl 0 rfl ?_
        refine g_getR (cj := 5) (k := 5) hC cr11 ui_11 ht1 ht2 (by decide) fl_X11_53 rfl rfl dX11_why_47 h hf (fun a10 ea10 ka10 na10 h => ?_)
        refine g_aload_n hC dX11_why_50 rfl 0 rfl ?_
        refine g_getR (cj := 10) (k := 3) hC cr11 ui_11 ht1 ht2 (by decide) fl_X11_35 rfl rfl dX11_why_51 h hf (fun a11 ea11 ka11 na11 h => ?_)
        refine g_getR (cj := 18) (k := 0) hC cr10 ui_10 ka11 na11 (by decide) fl_X11_193 rfl rfl dX11_why_54 h hf (fun a12 ea12 ka12 na12 h => ?_)
        refine g_aload_n hC dX11_why_57 rfl 0 rfl ?_
        refine g_getR (cj := 10) (k := 3) hC cr11 ui_11 ht1 ht2 (by decide) fl_X11_35 rfl rfl dX11_why_58 h hf (fun a13 ea13 ka13 na13 h => ?_)
        refine g_getI (k := 4) hC cr10 ui_10 ka13 na13 (by decide) fl_X11_190 rfl rfl dX11_why_61 ?_
        obtain ⟨q14, hq14, h⟩ := bd_of h hf
        refine g_cVV (As := [.ref (E.2.2.1 a12), .int (q9.1 a13 4)]) hC hO (c_X5_among _ hC.2.2.2.2.2.2.1 a10 ka10 na10 a12 ka12 na12 (q9.1 a13 4) q9 (nn_of hq14)) gc_X11_215 (xk_X5_among _ (Nat.le_of_ble_eq_true rfl) (Nat.le_of_ble_eq_true rfl)) cr5 ka10 na10 rfl (Nat.le_of_ble_eq_true rfl) dX11_why_64 hq14 ?_
        refine g_aload_n hC dX11_why_67 rfl 0 rfl ?_
        refine g_getR (cj := 5) (k := 5) hC cr11 ui_11 ht1 ht2 (by decide) fl_X11_53 rfl rfl dX11_why_68 h hf (fun a15 ea15 ka15 na15 h => ?_)
        refine g_aload_n hC dX11_why_71 rfl 0 rfl ?_
        refine g_getR (cj := 10) (k := 3) hC cr11 ui_11 ht1 ht2 (by decide) fl_X11_35 rfl rfl dX11_why_72 h hf (fun a16 ea16 ka16 na16 h => ?_)
        refine g_getR (cj := 1) (k := 1) hC cr10 ui_10 ka16 na16 (by decide) fl_X11_219 rfl rfl dX11_why_75 h hf (fun a17 ea17 ka17 na17 h => ?_)
        refine g_iconst (v := 3) hC dX11_why_78 (by decide) ?_
        refine g_aload_n hC dX11_why_79 rfl 0 rfl ?_
        refine g_getR (cj := 14) (k := 10) hC cr11 ui_11 ht1 ht2 (by decide) fl_X11_84 rfl rfl dX11_why_80 h hf (fun a18 ea18 ka18 na18 h => ?_)
        obtain ⟨q19, hq19, h⟩ := bd_of h hf
        refine g_cVI (As := [.ref (E.2.2.1 a17), .int 3, .ref (E.2.2.1 a18)]) hC hO (c_X5_fewest _ hC.2.2.2.2.2.2.1 a15 ka15 na15 a17 ka17 na17 3 a18 ka18 na18 q14 (nn_of hq19)) gc_X11_222 (xk_X5_fewest _ (Nat.le_of_ble_eq_true rfl) (Nat.le_of_ble_eq_true rfl)) cr5 ka15 na15 rfl (Nat.le_of_ble_eq_true rfl) dX11_why_83 hq19 ?_
        refine g_iload_n hC dX11_why_86 rfl 3 rfl ?_
        obtain ⟨q20, hq20, h⟩ := bd_of h hf
        refine g_cSI (As := [.int q19.1, .int x3]) hC hO (c_X11_sizeOrSet _ hC.2.2.2.2.2.2.1 q19.1 x3 q19.2 (nn_of hq20)) gc_X11_226 (xk_X11_sizeOrSet _ (Nat.le_of_ble_eq_true rfl) (Nat.le_of_ble_eq_true rfl)) rfl (Nat.le_of_ble_eq_true rfl) dX11_why_87 hq20 ?_
        exact g_iret hC hR dX11_why_90 rfl h
      · exact g_sub [] rfl (k_X11_why_31 hC hO hR hf q6.2 h)
theorem xk_X11_why (R : Room) (h1 : 29 + 1 ≤ R.frames) (h2 : 1148 ≤ R.locals) : xw R yX11_why w_X11_why GT cX11_why 4 (some .int) rm_X11_why 3 := ⟨rfl, rfl, rfl, h1, h2, ⟨by decide, by decide⟩, by decide +kernel⟩
theorem c_X11_why (E : ET) (hE : EO E) (t : Nat) (ht1 : kd t = 11) (ht2 : AL E t) (x1 : Int32) (x2 : Int32) (x3 : Int32) (σ : HS) (hn : f_X11_why t x1 x2 x3 σ ≠ none) : CoI E yX11_why w_X11_why rm_X11_why [.ref (E.2.2.1 t), .int x1, .int x2, .int x3] σ (f_X11_why t x1 x2 x3 σ) := CoI.of (lv := [(0, .ref (E.2.2.1 t)), (1, .int x1), (2, .int x2), (3, .int x3)]) hE (plainFor_of_name (by decide)) rfl (Nat.le_of_ble_eq_true rfl) rfl (fun F hC hO hR => k_X11_why_0 hC hO hR hn t ht1 ht2 x1 x2 x3 σ rfl)
def rm_X11_holds : Room := { frames := 6, cells := 0, slots := 0, locals := 230 }
theorem fl_X11_302 : Cond.fieldLink RX11 302 "EveryMeasure$Choice" (TX0 9).2.1 (TX0 9).2.2.1 ∈ GT := gtr_52 _ (List.mem_of_getElem? (i := 4) rfl)
theorem gc_X11_305 : GoodIn GT (wsV RX11 305 RX10 yX10_cutBy w_X10_cutBy) := gi_V (gtr_52 _ (List.mem_of_getElem? (i := 5) rfl)) (gtr_24 _ (List.mem_of_getElem? (i := 8) rfl)) (gtr_24 _ (List.mem_of_getElem? (i := 9) rfl)) (gtr_2 _ (List.mem_of_getElem? (i := 4) rfl)) wc_X10_cutBy
set_option maxHeartbeats 4000000 in
set_option maxRecDepth 100000 in
theorem k_X11_holds_19 {E : ET} {F : FT} {fo : Option (Int32 × HS)} (hC : Cx E F 4 cX11_holds RX11 GT) (hO : Ro F rm_X11_holds) (hR : RI E F .int fo) (hf : fo ≠ none) (σ : HS) (h : f_X11_holds_19 σ = fo) : G E F 19 [] [] σ := by
    refine g_iconst (v := (-1)) hC dX11_holds_19 (by decide) ?_
    exact g_iret hC hR dX11_holds_20 rfl h
set_option maxHeartbeats 4000000 in
set_option maxRecDepth 100000 in
theorem k_X11_holds_0 {E : ET} {F : FT} {fo : Option (Int32 × HS)} (hC : Cx E F 4 cX11_holds RX11 GT) (hO : Ro F rm_X11_holds) (hR : RI E F .int fo) (hf : fo ≠ none) (t : Nat) (ht1 : kd t = 11) (ht2 : AL E t) (x1 : Int32) (x2 : Int32) (x3 : Int32) (σ : HS) (h : f_X11_holds t x1 x2 x3 σ = fo) : G E F 0 [(0, .ref (E.2.2.1 t)), (1, .int x1), (2, .int x2), (3, .int x3)] [] σ := by
    refine g_aload_n hC dX11_holds_0 rfl 0 rfl ?_
    obtain ⟨q1, hq1, h⟩ := bd_of h hf
    refine g_cVV (As := []) hC hO (c_X11_freshen _ hC.2.2.2.2.2.2.1 t ht1 ht2 σ (nn_of hq1)) gc_X11_144 (xk_X11_freshen _ (Nat.le_of_ble_eq_true rfl) (Nat.le_of_ble_eq_true rfl)) cr11 ht1 ht2 rfl (Nat.le_of_ble_eq_true rfl) dX11_holds_1 hq1 ?_
    refine g_iload_n hC dX11_holds_4 rfl 1 rfl ?_
    refine g_if_lt (tgt := 19) hC dX11_holds_5 (by decide) h (fun c5 h => ?_) (fun c5 h => ?_)
    · exact g_sub [] rfl (k_X11_holds_19 hC hO hR hf q1 h)
    · refine g_iload_n hC dX11_holds_8 rfl 1 rfl ?_
      refine g_aload_n hC dX11_holds_9 rfl 0 rfl ?_
      refine g_getR (cj := 0) (k := 14) hC cr11 ui_11 ht1 ht2 (by decide) fl_X11_96 rfl rfl dX11_holds_10 h hf (fun a2 ea2 ka2 na2 h => ?_)
      refine g_getI (k := 9) hC cr0 ui_0 ka2 na2 (by decide) fl_X11_302 rfl rfl dX11_holds_13 ?_
      refine g_icmp_lt (tgt := 21) hC dX11_holds_16 (by decide) h (fun c16 h => ?_) (fun c16 h => ?_)
      · refine g_aload_n hC dX11_holds_21 rfl 0 rfl ?_
        refine g_getR (cj := 4) (k := 4) hC cr11 ui_11 ht1 ht2 (by decide) fl_X11_44 rfl rfl dX11_holds_22 h hf (fun a3 ea3 ka3 na3 h => ?_)
        refine g_aload_n hC dX11_holds_25 rfl 0 rfl ?_
        refine g_getR (cj := 10) (k := 3) hC cr11 ui_11 ht1 ht2 (by decide) fl_X11_35 rfl rfl dX11_holds_26 h hf (fun a4 ea4 ka4 na4 h => ?_)
        refine g_aload_n hC dX11_holds_29 rfl 0 rfl ?_
        refine g_getR (cj := 10) (k := 3) hC cr11 ui_11 ht1 ht2 (by decide) fl_X11_35 rfl rfl dX11_holds_30 h hf (fun a5 ea5 ka5 na5 h => ?_)
        refine g_getI (k := 4) hC cr10 ui_10 ka5 na5 (by decide) fl_X11_190 rfl rfl dX11_holds_33 ?_
        refine g_iconst (v := 1) hC dX11_holds_36 (by decide) ?_
        refine g_iload_n hC dX11_holds_37 rfl 1 rfl ?_
        refine g_ishl hC dX11_holds_38 ?_
        refine g_iconst (v := (-1)) hC dX11_holds_39 (by decide) ?_
        refine g_ixor hC dX11_holds_40 ?_
        refine g_iand hC dX11_holds_41 ?_
        obtain ⟨q6, hq6, h⟩ := bd_of h hf
        refine g_cVR (As := [.int ((q1.1 a5 4) &&& (((1 : Int32) <<< (x1 &&& 31)) ^^^ (-1)))]) hC hO (c_X10_cutBy _ hC.2.2.2.2.2.2.1 a4 ka4 na4 ((q1.1 a5 4) &&& (((1 : Int32) <<< (x1 &&& 31)) ^^^ (-1))) q1 (nn_of hq6)) gc_X11_305 (xk_X10_cutBy _ (Nat.le_of_ble_eq_true rfl) (Nat.le_of_ble_eq_true rfl)) cr10 ka4 na4 rfl (Nat.le_of_ble_eq_true rfl) dX11_holds_42 hq6 (fun na7 => ?_)
        obtain ⟨a7, ea7, ka7, h⟩ := rk_of h hf
        rw [Option.some.inj ea7] at na7 ⊢
        refine g_iload_n hC dX11_holds_45 rfl 2 rfl ?_
        refine g_iload_n hC dX11_holds_46 rfl 3 rfl ?_
        obtain ⟨q8, hq8, h⟩ := bd_of h hf
        refine g_cVI (As := [.ref (E.2.2.1 a7), .int x2, .int x3]) hC hO (c_X4_compare _ hC.2.2.2.2.2.2.1 a3 ka3 na3 a7 ka7 na7 x2 x3 q6.2 (nn_of hq8)) gc_X11_230 (xk_X4_compare _ (Nat.le_of_ble_eq_true rfl) (Nat.le_of_ble_eq_true rfl)) cr4 ka3 na3 rfl (Nat.le_of_ble_eq_true rfl) dX11_holds_47 hq8 ?_
        exact g_iret hC hR dX11_holds_50 rfl h
      · exact g_sub [] rfl (k_X11_holds_19 hC hO hR hf q1 h)
theorem xk_X11_holds (R : Room) (h1 : 6 + 1 ≤ R.frames) (h2 : 265 ≤ R.locals) : xw R yX11_holds w_X11_holds GT cX11_holds 4 (some .int) rm_X11_holds 3 := ⟨rfl, rfl, rfl, h1, h2, ⟨by decide, by decide⟩, by decide +kernel⟩
theorem c_X11_holds (E : ET) (hE : EO E) (t : Nat) (ht1 : kd t = 11) (ht2 : AL E t) (x1 : Int32) (x2 : Int32) (x3 : Int32) (σ : HS) (hn : f_X11_holds t x1 x2 x3 σ ≠ none) : CoI E yX11_holds w_X11_holds rm_X11_holds [.ref (E.2.2.1 t), .int x1, .int x2, .int x3] σ (f_X11_holds t x1 x2 x3 σ) := CoI.of (lv := [(0, .ref (E.2.2.1 t)), (1, .int x1), (2, .int x2), (3, .int x3)]) hE (plainFor_of_name (by decide)) rfl (Nat.le_of_ble_eq_true rfl) rfl (fun F hC hO hR => k_X11_holds_0 hC hO hR hn t ht1 ht2 x1 x2 x3 σ rfl)
def rm_X11_edge : Room := { frames := 6, cells := 0, slots := 0, locals := 230 }
theorem wc_X4_leastStillBetter : Cond.code yX4_leastStillBetter cX4_leastStillBetter 11 (some .int) ∈ GT := gtr_52 _ (List.mem_of_getElem? (i := 17) rfl)
theorem gc_X11_309 : GoodIn GT (wsV RX11 309 RX4 yX4_leastStillBetter w_X4_leastStillBetter) := gi_V (gtr_52 _ (List.mem_of_getElem? (i := 14) rfl)) (gtr_52 _ (List.mem_of_getElem? (i := 15) rfl)) (gtr_52 _ (List.mem_of_getElem? (i := 16) rfl)) (gtr_2 _ (List.mem_of_getElem? (i := 8) rfl)) wc_X4_leastStillBetter
set_option maxHeartbeats 4000000 in
set_option maxRecDepth 100000 in
theorem k_X11_edge_32 {E : ET} {F : FT} {fo : Option (Int32 × HS)} (hC : Cx E F 4 cX11_edge RX11 GT) (hO : Ro F rm_X11_edge) (hR : RI E F .int fo) (hf : fo ≠ none) (σ : HS) (h : f_X11_edge_32 σ = fo) : G E F 32 [] [] σ := by
    refine g_iconst (v := (-1)) hC dX11_edge_32 (by decide) ?_
    exact g_iret hC hR dX11_edge_33 rfl h
set_option maxHeartbeats 4000000 in
set_option maxRecDepth 100000 in
theorem k_X11_edge_0 {E : ET} {F : FT} {fo : Option (Int32 × HS)} (hC : Cx E F 4 cX11_edge RX11 GT) (hO : Ro F rm_X11_edge) (hR : RI E F .int fo) (hf : fo ≠ none) (t : Nat) (ht1 : kd t = 11) (ht2 : AL E t) (x1 : Int32) (x2 : Int32) (x3 : Int32) (σ : HS) (h : f_X11_edge t x1 x2 x3 σ = fo) : G E F 0 [(0, .ref (E.2.2.1 t)), (1, .int x1), (2, .int x2), (3, .int x3)] [] σ := by
    refine g_aload_n hC dX11_edge_0 rfl 0 rfl ?_
    obtain ⟨q1, hq1, h⟩ := bd_of h hf
    refine g_cVV (As := []) hC hO (c_X11_freshen _ hC.2.2.2.2.2.2.1 t ht1 ht2 σ (nn_of hq1)) gc_X11_144 (xk_X11_freshen _ (Nat.le_of_ble_eq_true rfl) (Nat.le_of_ble_eq_true rfl)) cr11 ht1 ht2 rfl (Nat.le_of_ble_eq_true rfl) dX11_edge_1 hq1 ?_
    refine g_aload_n hC dX11_edge_4 rfl 0 rfl ?_
    refine g_iload_n hC dX11_edge_5 rfl 3 rfl ?_
    obtain ⟨q2, hq2, h⟩ := bd_of h hf
    refine g_cVI (As := [.int x3]) hC hO (c_X11_hasMeasure _ hC.2.2.2.2.2.2.1 t ht1 ht2 x3 q1 (nn_of hq2)) gc_X11_147 (xk_X11_hasMeasure _ (Nat.le_of_ble_eq_true rfl) (Nat.le_of_ble_eq_true rfl)) cr11 ht1 ht2 rfl (Nat.le_of_ble_eq_true rfl) dX11_edge_6 hq2 ?_
    refine g_if_eq (tgt := 32) hC dX11_edge_9 (by decide) h (fun c9 h => ?_) (fun c9 h => ?_)
    · exact g_sub [] rfl (k_X11_edge_32 hC hO hR hf q2.2 h)
    · refine g_aload_n hC dX11_edge_12 rfl 0 rfl ?_
      refine g_getR (cj := 4) (k := 4) hC cr11 ui_11 ht1 ht2 (by decide) fl_X11_44 rfl rfl dX11_edge_13 h hf (fun a3 ea3 ka3 na3 h => ?_)
      refine g_aload_n hC dX11_edge_16 rfl 0 rfl ?_
      refine g_getR (cj := 10) (k := 3) hC cr11 ui_11 ht1 ht2 (by decide) fl_X11_35 rfl rfl dX11_edge_17 h hf (fun a4 ea4 ka4 na4 h => ?_)
      refine g_getR (cj := 1) (k := 2) hC cr10 ui_10 ka4 na4 (by decide) fl_X11_196 rfl rfl dX11_edge_20 h hf (fun a5 ea5 ka5 na5 h => ?_)
      refine g_iload_n hC dX11_edge_23 rfl 1 rfl ?_
      refine g_iload_n hC dX11_edge_24 rfl 2 rfl ?_
      obtain ⟨q6, hq6, h⟩ := bd_of h hf
      refine g_cVI (As := [.ref (E.2.2.1 a5), .int x1, .int x2]) hC hO (c_X4_compare _ hC.2.2.2.2.2.2.1 a3 ka3 na3 a5 ka5 na5 x1 x2 q2.2 (nn_of hq6)) gc_X11_230 (xk_X4_compare _ (Nat.le_of_ble_eq_true rfl) (Nat.le_of_ble_eq_true rfl)) cr4 ka3 na3 rfl (Nat.le_of_ble_eq_true rfl) dX11_edge_25 hq6 ?_
      refine g_iconst (v := 2) hC dX11_edge_28 (by decide) ?_
      refine g_icmp_eq (tgt := 34) hC dX11_edge_29 (by decide) h (fun c29 h => ?_) (fun c29 h => ?_)
      · refine g_aload_n hC dX11_edge_34 rfl 0 rfl ?_
        refine g_getR (cj := 4) (k := 4) hC cr11 ui_11 ht1 ht2 (by decide) fl_X11_44 rfl rfl dX11_edge_35 h hf (fun a7 ea7 ka7 na7 h => ?_)
        refine g_iload_n hC dX11_edge_38 rfl 1 rfl ?_
        refine g_iload_n hC dX11_edge_39 rfl 2 rfl ?_
        refine g_iload_n hC dX11_edge_40 rfl 3 rfl ?_
        obtain ⟨q8, hq8, h⟩ := bd_of h hf
        refine g_cVI (As := [.int x1, .int x2, .int x3]) hC hO (c_X4_leastStillBetter _ hC.2.2.2.2.2.2.1 a7 ka7 na7 x1 x2 x3 q6.2 (nn_of hq8)) gc_X11_309 (xk_X4_leastStillBetter _ (Nat.le_of_ble_eq_true rfl) (Nat.le_of_ble_eq_true rfl)) cr4 ka7 na7 rfl (Nat.le_of_ble_eq_true rfl) dX11_edge_41 hq8 ?_
        exact g_iret hC hR dX11_edge_44 rfl h
      · exact g_sub [] rfl (k_X11_edge_32 hC hO hR hf q6.2 h)
theorem xk_X11_edge (R : Room) (h1 : 6 + 1 ≤ R.frames) (h2 : 265 ≤ R.locals) : xw R yX11_edge w_X11_edge GT cX11_edge 4 (some .int) rm_X11_edge 3 := ⟨rfl, rfl, rfl, h1, h2, ⟨by decide, by decide⟩, by decide +kernel⟩
theorem c_X11_edge (E : ET) (hE : EO E) (t : Nat) (ht1 : kd t = 11) (ht2 : AL E t) (x1 : Int32) (x2 : Int32) (x3 : Int32) (σ : HS) (hn : f_X11_edge t x1 x2 x3 σ ≠ none) : CoI E yX11_edge w_X11_edge rm_X11_edge [.ref (E.2.2.1 t), .int x1, .int x2, .int x3] σ (f_X11_edge t x1 x2 x3 σ) := CoI.of (lv := [(0, .ref (E.2.2.1 t)), (1, .int x1), (2, .int x2), (3, .int x3)]) hE (plainFor_of_name (by decide)) rfl (Nat.le_of_ble_eq_true rfl) rfl (fun F hC hO hR => k_X11_edge_0 hC hO hR hn t ht1 ht2 x1 x2 x3 σ rfl)
def rm_X11_agree : Room := { frames := 19, cells := 0, slots := 0, locals := 716 }
theorem fl_X11_62 : Cond.fieldLink RX11 62 "EveryMeasure" (TX11 6).2.1 (TX11 6).2.2.1 ∈ GT := gtr_2 _ (List.mem_of_getElem? (i := 17) rfl)
theorem wc_X2_mostThatAgree : Cond.code yX2_mostThatAgree cX2_mostThatAgree 2 (some .int) ∈ GT := gtr_53 _ (List.mem_of_getElem? (i := 5) rfl)
theorem gc_X11_313 : GoodIn GT (wsV RX11 313 RX2 yX2_mostThatAgree w_X2_mostThatAgree) := gi_V (gtr_53 _ (List.mem_of_getElem? (i := 2) rfl)) (gtr_53 _ (List.mem_of_getElem? (i := 3) rfl)) (gtr_53 _ (List.mem_of_getElem? (i := 4) rfl)) (gtr_2 _ (List.mem_of_getElem? (i := 16) rfl)) wc_X2_mostThatAgree
set_option maxHeartbeats 4000000 in
set_option maxRecDepth 100000 in
theorem k_X11_agree_0 {E : ET} {F : FT} {fo : Option (Int32 × HS)} (hC : Cx E F 2 cX11_agree RX11 GT) (hO : Ro F rm_X11_agree) (hR : RI E F .int fo) (hf : fo ≠ none) (t : Nat) (ht1 : kd t = 11) (ht2 : AL E t) (x1 : Int32) (σ : HS) (h : f_X11_agree t x1 σ = fo) : G E F 0 [(0, .ref (E.2.2.1 t)), (1, .int x1)] [] σ := by
    refine g_aload_n hC dX11_agree_0 rfl 0 rfl ?_
    obtain ⟨q1, hq1, h⟩ := bd_of h hf
    refine g_cVV (As := []) hC hO (c_X11_freshen _ hC.2.2.2.2.2.2.1 t ht1 ht2 σ (nn_of hq1)) gc_X11_144 (xk_X11_freshen _ (Nat.le_of_ble_eq_true rfl) (Nat.le_of_ble_eq_true rfl)) cr11 ht1 ht2 rfl (Nat.le_of_ble_eq_true rfl) dX11_agree_1 hq1 ?_
    refine g_iload_n hC dX11_agree_4 rfl 1 rfl ?_
    obtain ⟨q2, hq2, h⟩ := bd_of h hf
    refine g_cSI (As := [.int x1]) hC hO (c_X11_isPart _ hC.2.2.2.2.2.2.1 x1 q1 (nn_of hq2)) gc_X11_168 (xk_X11_isPart _ (Nat.le_of_ble_eq_true rfl) (Nat.le_of_ble_eq_true rfl)) rfl (Nat.le_of_ble_eq_true rfl) dX11_agree_5 hq2 ?_
    refine g_if_ne (tgt := 13) hC dX11_agree_8 (by decide) h (fun c8 h => ?_) (fun c8 h => ?_)
    · refine g_aload_n hC dX11_agree_13 rfl 0 rfl ?_
      refine g_getR (cj := 2) (k := 6) hC cr11 ui_11 ht1 ht2 (by decide) fl_X11_62 rfl rfl dX11_agree_14 h hf (fun a3 ea3 ka3 na3 h => ?_)
      refine g_aload_n hC dX11_agree_17 rfl 0 rfl ?_
      refine g_getR (cj := 0) (k := 14) hC cr11 ui_11 ht1 ht2 (by decide) fl_X11_96 rfl rfl dX11_agree_18 h hf (fun a4 ea4 ka4 na4 h => ?_)
      obtain ⟨q5, hq5, h⟩ := bd_of h hf
      refine g_cVI (As := [.ref (E.2.2.1 a4)]) hC hO (c_X2_mostThatAgree _ hC.2.2.2.2.2.2.1 a3 ka3 na3 a4 ka4 na4 q2.2 (nn_of hq5)) gc_X11_313 (xk_X2_mostThatAgree _ (Nat.le_of_ble_eq_true rfl) (Nat.le_of_ble_eq_true rfl)) cr2 ka3 na3 rfl (Nat.le_of_ble_eq_true rfl) dX11_agree_21 hq5 ?_
      refine g_iload_n hC dX11_agree_24 rfl 1 rfl ?_
      obtain ⟨q6, hq6, h⟩ := bd_of h hf
      refine g_cSI (As := [.int q5.1, .int x1]) hC hO (c_X11_sizeOrSet _ hC.2.2.2.2.2.2.1 q5.1 x1 q5.2 (nn_of hq6)) gc_X11_226 (xk_X11_sizeOrSet _ (Nat.le_of_ble_eq_true rfl) (Nat.le_of_ble_eq_true rfl)) rfl (Nat.le_of_ble_eq_true rfl) dX11_agree_25 hq6 ?_
      exact g_iret hC hR dX11_agree_28 rfl h
    · refine g_iconst (v := (-1)) hC dX11_agree_11 (by decide) ?_
      exact g_iret hC hR dX11_agree_12 rfl h
theorem xk_X11_agree (R : Room) (h1 : 19 + 1 ≤ R.frames) (h2 : 749 ≤ R.locals) : xw R yX11_agree w_X11_agree GT cX11_agree 2 (some .int) rm_X11_agree 1 := ⟨rfl, rfl, rfl, h1, h2, ⟨by decide, by decide⟩, by decide +kernel⟩
theorem c_X11_agree (E : ET) (hE : EO E) (t : Nat) (ht1 : kd t = 11) (ht2 : AL E t) (x1 : Int32) (σ : HS) (hn : f_X11_agree t x1 σ ≠ none) : CoI E yX11_agree w_X11_agree rm_X11_agree [.ref (E.2.2.1 t), .int x1] σ (f_X11_agree t x1 σ) := CoI.of (lv := [(0, .ref (E.2.2.1 t)), (1, .int x1)]) hE (plainFor_of_name (by decide)) rfl (Nat.le_of_ble_eq_true rfl) rfl (fun F hC hO hR => k_X11_agree_0 hC hO hR hn t ht1 ht2 x1 σ rfl)
def rm_X11_yields : Room := { frames := 19, cells := 0, slots := 0, locals := 717 }
theorem wc_X2_fewestThatYield : Cond.code yX2_fewestThatYield cX2_fewestThatYield 3 (some .int) ∈ GT := gtr_54 _ (List.mem_of_getElem? (i := 22) rfl)
theorem gc_X11_317 : GoodIn GT (wsV RX11 317 RX2 yX2_fewestThatYield w_X2_fewestThatYield) := gi_V (gtr_54 _ (List.mem_of_getElem? (i := 19) rfl)) (gtr_54 _ (List.mem_of_getElem? (i := 20) rfl)) (gtr_54 _ (List.mem_of_getElem? (i := 21) rfl)) (gtr_2 _ (List.mem_of_getElem? (i := 16) rfl)) wc_X2_fewestThatYield
set_option maxHeartbeats 4000000 in
set_option maxRecDepth 100000 in
theorem k_X11_yields_0 {E : ET} {F : FT} {fo : Option (Int32 × HS)} (hC : Cx E F 2 cX11_yields RX11 GT) (hO : Ro F rm_X11_yields) (hR : RI E F .int fo) (hf : fo ≠ none) (t : Nat) (ht1 : kd t = 11) (ht2 : AL E t) (x1 : Int32) (σ : HS) (h : f_X11_yields t x1 σ = fo) : G E F 0 [(0, .ref (E.2.2.1 t)), (1, .int x1)] [] σ := by
    refine g_aload_n hC dX11_yields_0 rfl 0 rfl ?_
    obtain ⟨q1, hq1, h⟩ := bd_of h hf
    refine g_cVV (As := []) hC hO (c_X11_freshen _ hC.2.2.2.2.2.2.1 t ht1 ht2 σ (nn_of hq1)) gc_X11_144 (xk_X11_freshen _ (Nat.le_of_ble_eq_true rfl) (Nat.le_of_ble_eq_true rfl)) cr11 ht1 ht2 rfl (Nat.le_of_ble_eq_true rfl) dX11_yields_1 hq1 ?_
    refine g_iload_n hC dX11_yields_4 rfl 1 rfl ?_
    obtain ⟨q2, hq2, h⟩ := bd_of h hf
    refine g_cSI (As := [.int x1]) hC hO (c_X11_isPart _ hC.2.2.2.2.2.2.1 x1 q1 (nn_of hq2)) gc_X11_168 (xk_X11_isPart _ (Nat.le_of_ble_eq_true rfl) (Nat.le_of_ble_eq_true rfl)) rfl (Nat.le_of_ble_eq_true rfl) dX11_yields_5 hq2 ?_
    refine g_if_ne (tgt := 13) hC dX11_yields_8 (by decide) h (fun c8 h => ?_) (fun c8 h => ?_)
    · refine g_aload_n hC dX11_yields_13 rfl 0 rfl ?_
      refine g_getR (cj := 2) (k := 6) hC cr11 ui_11 ht1 ht2 (by decide) fl_X11_62 rfl rfl dX11_yields_14 h hf (fun a3 ea3 ka3 na3 h => ?_)
      refine g_aload_n hC dX11_yields_17 rfl 0 rfl ?_
      refine g_getR (cj := 0) (k := 14) hC cr11 ui_11 ht1 ht2 (by decide) fl_X11_96 rfl rfl dX11_yields_18 h hf (fun a4 ea4 ka4 na4 h => ?_)
      refine g_aload_n hC dX11_yields_21 rfl 0 rfl ?_
      refine g_getI (k := 17) hC cr11 ui_11 ht1 ht2 (by decide) fl_X11_141 rfl rfl dX11_yields_22 ?_
      obtain ⟨q5, hq5, h⟩ := bd_of h hf
      refine g_cVI (As := [.ref (E.2.2.1 a4), .int (q2.2.1 t 17)]) hC hO (c_X2_fewestThatYield _ hC.2.2.2.2.2.2.1 a3 ka3 na3 a4 ka4 na4 (q2.2.1 t 17) q2.2 (nn_of hq5)) gc_X11_317 (xk_X2_fewestThatYield _ (Nat.le_of_ble_eq_true rfl) (Nat.le_of_ble_eq_true rfl)) cr2 ka3 na3 rfl (Nat.le_of_ble_eq_true rfl) dX11_yields_25 hq5 ?_
      refine g_iload_n hC dX11_yields_28 rfl 1 rfl ?_
      obtain ⟨q6, hq6, h⟩ := bd_of h hf
      refine g_cSI (As := [.int q5.1, .int x1]) hC hO (c_X11_sizeOrSet _ hC.2.2.2.2.2.2.1 q5.1 x1 q5.2 (nn_of hq6)) gc_X11_226 (xk_X11_sizeOrSet _ (Nat.le_of_ble_eq_true rfl) (Nat.le_of_ble_eq_true rfl)) rfl (Nat.le_of_ble_eq_true rfl) dX11_yields_29 hq6 ?_
      exact g_iret hC hR dX11_yields_32 rfl h
    · refine g_iconst (v := (-1)) hC dX11_yields_11 (by decide) ?_
      exact g_iret hC hR dX11_yields_12 rfl h
theorem xk_X11_yields (R : Room) (h1 : 19 + 1 ≤ R.frames) (h2 : 750 ≤ R.locals) : xw R yX11_yields w_X11_yields GT cX11_yields 2 (some .int) rm_X11_yields 1 := ⟨rfl, rfl, rfl, h1, h2, ⟨by decide, by decide⟩, by decide +kernel⟩
theorem c_X11_yields (E : ET) (hE : EO E) (t : Nat) (ht1 : kd t = 11) (ht2 : AL E t) (x1 : Int32) (σ : HS) (hn : f_X11_yields t x1 σ ≠ none) : CoI E yX11_yields w_X11_yields rm_X11_yields [.ref (E.2.2.1 t), .int x1] σ (f_X11_yields t x1 σ) := CoI.of (lv := [(0, .ref (E.2.2.1 t)), (1, .int x1)]) hE (plainFor_of_name (by decide)) rfl (Nat.le_of_ble_eq_true rfl) rfl (fun F hC hO hR => k_X11_yields_0 hC hO hR hn t ht1 ht2 x1 σ rfl)
def rm_X11_row : Room := { frames := 0, cells := 0, slots := 0, locals := 0 }
theorem fl_X11_90 : Cond.fieldLink RX11 90 "EveryMeasure" (TX11 12).2.1 (TX11 12).2.2.1 ∈ GT := gtr_3 _ (List.mem_of_getElem? (i := 6) rfl)
set_option maxHeartbeats 4000000 in
set_option maxRecDepth 100000 in
theorem k_X11_row_31 {E : ET} {F : FT} {fo : Option (Int32 × HS)} (hC : Cx E F 3 cX11_row RX11 GT) (hO : Ro F rm_X11_row) (hR : RI E F .boolean fo) (hf : fo ≠ none) (σ : HS) (h : f_X11_row_31 σ = fo) : G E F 31 [] [] σ := by
    refine g_iconst (v := 0) hC dX11_row_31 (by decide) ?_
    exact g_iret hC hR dX11_row_32 rfl h
set_option maxHeartbeats 4000000 in
set_option maxRecDepth 100000 in
theorem k_X11_row_35 {E : ET} {F : FT} {fo : Option (Int32 × HS)} (hC : Cx E F 3 cX11_row RX11 GT) (hO : Ro F rm_X11_row) (hR : RI E F .boolean fo) (hf : fo ≠ none) (t : Nat) (ht1 : kd t = 11) (ht2 : AL E t) (x1 : Int32) : ∀ (n : Nat) (x2 : Int32) (σ : HS), f_X11_row_35 t x1 n x2 σ = fo → G E F 35 [(0, .ref (E.2.2.1 t)), (1, .int x1), (2, .int x2)] [] σ := by
  intro n
  induction n with
  | zero =>
    intro x2 σ h
    exact absurd (h.symm.trans rfl) hf
  | succ n ih =>
    intro x2 σ h
    refine g_iload_n hC dX11_row_35 rfl 2 rfl ?_
    refine g_aload_n hC dX11_row_36 rfl 0 rfl ?_
    refine g_getI (k := 13) hC cr11 ui_11 ht1 ht2 (by decide) fl_X11_320 rfl rfl dX11_row_37 ?_
    refine g_icmp_ge (tgt := 61) hC dX11_row_40 (by decide) h (fun c40 h => ?_) (fun c40 h => ?_)
    · refine g_aload_n hC dX11_row_61 rfl 0 rfl ?_
      refine g_getR (cj := 14) (k := 12) hC cr11 ui_11 ht1 ht2 (by decide) fl_X11_90 rfl rfl dX11_row_62 h hf (fun a1 ea1 ka1 na1 h => ?_)
      refine g_aload_n hC dX11_row_65 rfl 0 rfl ?_
      refine g_getI (k := 13) hC cr11 ui_11 ht1 ht2 (by decide) fl_X11_320 rfl rfl dX11_row_66 ?_
      refine g_iload_n hC dX11_row_69 rfl 1 rfl ?_
      refine g_iast hC ka1 na1 dX11_row_70 h hf (fun h => ?_)
      refine g_aload_n hC dX11_row_71 rfl 0 rfl ?_
      refine g_dup hC dX11_row_72 rfl ?_
      refine g_getI (k := 13) hC cr11 ui_11 ht1 ht2 (by decide) fl_X11_320 rfl rfl dX11_row_73 ?_
      refine g_iconst (v := 1) hC dX11_row_76 (by decide) ?_
      refine g_iadd hC dX11_row_77 ?_
      refine g_putI (k := 13) hC cr11 ui_11 tyX11_ok nmX11 ht1 ht2 (by decide) fl_X11_320 rfl rfl rfl rfl dX11_row_78 ?_
      refine g_iconst (v := 1) hC dX11_row_81 (by decide) ?_
      exact g_iret hC hR dX11_row_82 rfl h
    · refine g_aload_n hC dX11_row_43 rfl 0 rfl ?_
      refine g_getR (cj := 14) (k := 12) hC cr11 ui_11 ht1 ht2 (by decide) fl_X11_90 rfl rfl dX11_row_44 h hf (fun a2 ea2 ka2 na2 h => ?_)
      refine g_iload_n hC dX11_row_47 rfl 2 rfl ?_
      refine g_iald hC ka2 na2 dX11_row_48 h hf (fun h => ?_)
      refine g_iload_n hC dX11_row_49 rfl 1 rfl ?_
      refine g_icmp_ne (tgt := 55) hC dX11_row_50 (by decide) h (fun c50 h => ?_) (fun c50 h => ?_)
      · refine g_iinc (v := x2 + 1) (lv' := [(2, .int (x2 + 1)), (0, .ref (E.2.2.1 t)), (1, .int x1)]) hC dX11_row_55 2 rfl rfl (by decide) rfl ?_
        refine g_goto (tgt := 35) hC dX11_row_58 (by decide) ?_
        exact g_sub [1, 2, 0] rfl (ih (x2 + 1) σ h)
      · refine g_iconst (v := 0) hC dX11_row_53 (by decide) ?_
        exact g_iret hC hR dX11_row_54 rfl h
set_option maxHeartbeats 4000000 in
set_option maxRecDepth 100000 in
theorem k_X11_row_0 {E : ET} {F : FT} {fo : Option (Int32 × HS)} (hC : Cx E F 3 cX11_row RX11 GT) (hO : Ro F rm_X11_row) (hR : RI E F .boolean fo) (hf : fo ≠ none) (t : Nat) (ht1 : kd t = 11) (ht2 : AL E t) (x1 : Int32) (σ : HS) (h : f_X11_row t x1 σ = fo) : G E F 0 [(0, .ref (E.2.2.1 t)), (1, .int x1)] [] σ := by
    refine g_iload_n hC dX11_row_0 rfl 1 rfl ?_
    refine g_iconst (v := (-1)) hC dX11_row_1 (by decide) ?_
    refine g_icmp_ne (tgt := 12) hC dX11_row_2 (by decide) h (fun c2 h => ?_) (fun c2 h => ?_)
    · refine g_iload_n hC dX11_row_12 rfl 1 rfl ?_
      refine g_if_lt (tgt := 31) hC dX11_row_13 (by decide) h (fun c13 h => ?_) (fun c13 h => ?_)
      · exact g_sub [] rfl (k_X11_row_31 hC hO hR hf σ h)
      · refine g_iload_n hC dX11_row_16 rfl 1 rfl ?_
        refine g_bipush (v := 8) hC dX11_row_17 (by decide) ?_
        refine g_icmp_ge (tgt := 31) hC dX11_row_19 (by decide) h (fun c19 h => ?_) (fun c19 h => ?_)
        · exact g_sub [] rfl (k_X11_row_31 hC hO hR hf σ h)
        · refine g_aload_n hC dX11_row_22 rfl 0 rfl ?_
          refine g_getI (k := 13) hC cr11 ui_11 ht1 ht2 (by decide) fl_X11_320 rfl rfl dX11_row_23 ?_
          refine g_bipush (v := 8) hC dX11_row_26 (by decide) ?_
          refine g_icmp_lt (tgt := 33) hC dX11_row_28 (by decide) h (fun c28 h => ?_) (fun c28 h => ?_)
          · refine g_iconst (v := 0) hC dX11_row_33 (by decide) ?_
            refine g_istore_n (lv' := [(2, .int 0), (0, .ref (E.2.2.1 t)), (1, .int x1)]) hC dX11_row_34 rfl (by decide) rfl ?_
            exact g_sub [1, 2, 0] rfl (k_X11_row_35 hC hO hR hf t ht1 ht2 x1 FU 0 σ h)
          · exact g_sub [] rfl (k_X11_row_31 hC hO hR hf σ h)
    · refine g_aload_n hC dX11_row_5 rfl 0 rfl ?_
      refine g_iconst (v := 0) hC dX11_row_6 (by decide) ?_
      refine g_putI (k := 13) hC cr11 ui_11 tyX11_ok nmX11 ht1 ht2 (by decide) fl_X11_320 rfl rfl rfl rfl dX11_row_7 ?_
      refine g_iconst (v := 1) hC dX11_row_10 (by decide) ?_
      exact g_iret hC hR dX11_row_11 rfl h
theorem xk_X11_row (R : Room) (h1 : 0 + 1 ≤ R.frames) (h2 : 34 ≤ R.locals) : xw R yX11_row w_X11_row GT cX11_row 3 (some .boolean) rm_X11_row 1 := ⟨rfl, rfl, rfl, h1, h2, ⟨by decide, by decide⟩, by decide +kernel⟩
theorem c_X11_row (E : ET) (hE : EO E) (t : Nat) (ht1 : kd t = 11) (ht2 : AL E t) (x1 : Int32) (σ : HS) (hn : f_X11_row t x1 σ ≠ none) : CoI E yX11_row w_X11_row rm_X11_row [.ref (E.2.2.1 t), .int x1] σ (f_X11_row t x1 σ) := CoI.of (lv := [(0, .ref (E.2.2.1 t)), (1, .int x1)]) hE (plainFor_of_name (by decide)) rfl (Nat.le_of_ble_eq_true rfl) rfl (fun F hC hO hR => k_X11_row_0 hC hO hR hn t ht1 ht2 x1 σ rfl)
def rm_X11_judged : Room := { frames := 6, cells := 0, slots := 0, locals := 230 }
theorem wc_X4_brokenPlace : Cond.code yX4_brokenPlace cX4_brokenPlace 5 (some .int) ∈ GT := gtr_55 _ (List.mem_of_getElem? (i := 18) rfl)
theorem gc_X11_323 : GoodIn GT (wsV RX11 323 RX4 yX4_brokenPlace w_X4_brokenPlace) := gi_V (gtr_55 _ (List.mem_of_getElem? (i := 15) rfl)) (gtr_55 _ (List.mem_of_getElem? (i := 16) rfl)) (gtr_55 _ (List.mem_of_getElem? (i := 17) rfl)) (gtr_2 _ (List.mem_of_getElem? (i := 8) rfl)) wc_X4_brokenPlace
set_option maxHeartbeats 4000000 in
set_option maxRecDepth 100000 in
theorem k_X11_judged_21 {E : ET} {F : FT} {fo : Option (Int32 × HS)} (hC : Cx E F 3 cX11_judged RX11 GT) (hO : Ro F rm_X11_judged) (hR : RI E F .int fo) (hf : fo ≠ none) (σ : HS) (h : f_X11_judged_21 σ = fo) : G E F 21 [] [] σ := by
    refine g_iconst (v := (-1)) hC dX11_judged_21 (by decide) ?_
    exact g_iret hC hR dX11_judged_22 rfl h
set_option maxHeartbeats 4000000 in
set_option maxRecDepth 100000 in
theorem k_X11_judged_90 {E : ET} {F : FT} {fo : Option (Int32 × HS)} (hC : Cx E F 3 cX11_judged RX11 GT) (hO : Ro F rm_X11_judged) (hR : RI E F .int fo) (hf : fo ≠ none) (s0 : Int32) (σ : HS) (h : f_X11_judged_90 s0 σ = fo) : G E F 90 [] [.int s0] σ := by
    exact g_iret hC hR dX11_judged_90 rfl h
set_option maxHeartbeats 4000000 in
set_option maxRecDepth 100000 in
theorem k_X11_judged_25 {E : ET} {F : FT} {fo : Option (Int32 × HS)} (hC : Cx E F 3 cX11_judged RX11 GT) (hO : Ro F rm_X11_judged) (hR : RI E F .int fo) (hf : fo ≠ none) (t : Nat) (ht1 : kd t = 11) (ht2 : AL E t) (x1 : Int32) : ∀ (n : Nat) (x2 : Int32) (σ : HS), f_X11_judged_25 t x1 n x2 σ = fo → G E F 25 [(0, .ref (E.2.2.1 t)), (1, .int x1), (2, .int x2)] [] σ := by
  intro n
  induction n with
  | zero =>
    intro x2 σ h
    exact absurd (h.symm.trans rfl) hf
  | succ n ih =>
    intro x2 σ h
    refine g_iload_n hC dX11_judged_25 rfl 2 rfl ?_
    refine g_aload_n hC dX11_judged_26 rfl 0 rfl ?_
    refine g_getI (k := 13) hC cr11 ui_11 ht1 ht2 (by decide) fl_X11_320 rfl rfl dX11_judged_27 ?_
    refine g_icmp_ge (tgt := 57) hC dX11_judged_30 (by decide) h (fun c30 h => ?_) (fun c30 h => ?_)
    · refine g_aload_n hC dX11_judged_57 rfl 0 rfl ?_
      refine g_getR (cj := 4) (k := 4) hC cr11 ui_11 ht1 ht2 (by decide) fl_X11_44 rfl rfl dX11_judged_58 h hf (fun a1 ea1 ka1 na1 h => ?_)
      refine g_aload_n hC dX11_judged_61 rfl 0 rfl ?_
      refine g_getR (cj := 14) (k := 12) hC cr11 ui_11 ht1 ht2 (by decide) fl_X11_90 rfl rfl dX11_judged_62 h hf (fun a2 ea2 ka2 na2 h => ?_)
      refine g_aload_n hC dX11_judged_65 rfl 0 rfl ?_
      refine g_getI (k := 13) hC cr11 ui_11 ht1 ht2 (by decide) fl_X11_320 rfl rfl dX11_judged_66 ?_
      obtain ⟨q3, hq3, h⟩ := bd_of h hf
      refine g_cVI (As := [.ref (E.2.2.1 a2), .int (σ.1 t 13)]) hC hO (c_X4_brokenPlace _ hC.2.2.2.2.2.2.1 a1 ka1 na1 a2 ka2 na2 (σ.1 t 13) σ (nn_of hq3)) gc_X11_323 (xk_X4_brokenPlace _ (Nat.le_of_ble_eq_true rfl) (Nat.le_of_ble_eq_true rfl)) cr4 ka1 na1 rfl (Nat.le_of_ble_eq_true rfl) dX11_judged_69 hq3 ?_
      refine g_istore_n (lv' := [(2, .int q3.1), (0, .ref (E.2.2.1 t)), (1, .int x1)]) hC dX11_judged_72 rfl (by decide) rfl ?_
      refine g_iload_n hC dX11_judged_73 rfl 2 rfl ?_
      refine g_iconst (v := 1) hC dX11_judged_74 (by decide) ?_
      refine g_icmp_ne (tgt := 80) hC dX11_judged_75 (by decide) h (fun c75 h => ?_) (fun c75 h => ?_)
      · refine g_iload_n hC dX11_judged_80 rfl 0 rfl ?_
        refine g_iconst (v := (-1)) hC dX11_judged_81 (by decide) ?_
        refine g_icmp_ne (tgt := 89) hC dX11_judged_82 (by decide) h (fun c82 h => ?_) (fun c82 h => ?_)
        · refine g_iconst (v := 0) hC dX11_judged_89 (by decide) ?_
          exact g_sub [] rfl (k_X11_judged_90 hC hO hR hf 0 q3.2 h)
        · refine g_iconst (v := 1) hC dX11_judged_85 (by decide) ?_
          refine g_goto (tgt := 90) hC dX11_judged_86 (by decide) ?_
          exact g_sub [] rfl (k_X11_judged_90 hC hO hR hf 1 q3.2 h)
      · refine g_iload_n hC dX11_judged_78 rfl 0 rfl ?_
        exact g_iret hC hR dX11_judged_79 rfl h
    · refine g_aload_n hC dX11_judged_33 rfl 0 rfl ?_
      refine g_getR (cj := 9) (k := 2) hC cr11 ui_11 ht1 ht2 (by decide) fl_X11_28 rfl rfl dX11_judged_34 h hf (fun a4 ea4 ka4 na4 h => ?_)
      refine g_aload_n hC dX11_judged_37 rfl 0 rfl ?_
      refine g_getR (cj := 14) (k := 12) hC cr11 ui_11 ht1 ht2 (by decide) fl_X11_90 rfl rfl dX11_judged_38 h hf (fun a5 ea5 ka5 na5 h => ?_)
      refine g_iload_n hC dX11_judged_41 rfl 2 rfl ?_
      refine g_iald hC ka5 na5 dX11_judged_42 h hf (fun h => ?_)
      obtain ⟨q6, hq6, h⟩ := bd_of h hf
      refine g_cVI (As := [.int (σ.1 a5 x2.toNatClampNeg)]) hC hO (c_X9_isIn _ hC.2.2.2.2.2.2.1 a4 ka4 na4 (σ.1 a5 x2.toNatClampNeg) σ (nn_of hq6)) gc_X11_161 (xk_X9_isIn _ (Nat.le_of_ble_eq_true rfl) (Nat.le_of_ble_eq_true rfl)) cr9 ka4 na4 rfl (Nat.le_of_ble_eq_true rfl) dX11_judged_43 hq6 ?_
      refine g_if_ne (tgt := 51) hC dX11_judged_46 (by decide) h (fun c46 h => ?_) (fun c46 h => ?_)
      · refine g_iinc (v := x2 + 1) (lv' := [(2, .int (x2 + 1)), (0, .ref (E.2.2.1 t)), (1, .int x1)]) hC dX11_judged_51 2 rfl rfl (by decide) rfl ?_
        refine g_goto (tgt := 25) hC dX11_judged_54 (by decide) ?_
        exact g_sub [1, 2, 0] rfl (ih (x2 + 1) q6.2 h)
      · refine g_iconst (v := (-1)) hC dX11_judged_49 (by decide) ?_
        exact g_iret hC hR dX11_judged_50 rfl h
set_option maxHeartbeats 4000000 in
set_option maxRecDepth 100000 in
theorem k_X11_judged_0 {E : ET} {F : FT} {fo : Option (Int32 × HS)} (hC : Cx E F 3 cX11_judged RX11 GT) (hO : Ro F rm_X11_judged) (hR : RI E F .int fo) (hf : fo ≠ none) (t : Nat) (ht1 : kd t = 11) (ht2 : AL E t) (x1 : Int32) (σ : HS) (h : f_X11_judged t x1 σ = fo) : G E F 0 [(0, .ref (E.2.2.1 t)), (1, .int x1)] [] σ := by
    refine g_aload_n hC dX11_judged_0 rfl 0 rfl ?_
    obtain ⟨q1, hq1, h⟩ := bd_of h hf
    refine g_cVV (As := []) hC hO (c_X11_freshen _ hC.2.2.2.2.2.2.1 t ht1 ht2 σ (nn_of hq1)) gc_X11_144 (xk_X11_freshen _ (Nat.le_of_ble_eq_true rfl) (Nat.le_of_ble_eq_true rfl)) cr11 ht1 ht2 rfl (Nat.le_of_ble_eq_true rfl) dX11_judged_1 hq1 ?_
    refine g_iload_n hC dX11_judged_4 rfl 1 rfl ?_
    obtain ⟨q2, hq2, h⟩ := bd_of h hf
    refine g_cSI (As := [.int x1]) hC hO (c_X11_isPart _ hC.2.2.2.2.2.2.1 x1 q1 (nn_of hq2)) gc_X11_168 (xk_X11_isPart _ (Nat.le_of_ble_eq_true rfl) (Nat.le_of_ble_eq_true rfl)) rfl (Nat.le_of_ble_eq_true rfl) dX11_judged_5 hq2 ?_
    refine g_if_eq (tgt := 21) hC dX11_judged_8 (by decide) h (fun c8 h => ?_) (fun c8 h => ?_)
    · exact g_sub [] rfl (k_X11_judged_21 hC hO hR hf q2.2 h)
    · refine g_aload_n hC dX11_judged_11 rfl 0 rfl ?_
      refine g_getR (cj := 10) (k := 3) hC cr11 ui_11 ht1 ht2 (by decide) fl_X11_35 rfl rfl dX11_judged_12 h hf (fun a3 ea3 ka3 na3 h => ?_)
      obtain ⟨q4, hq4, h⟩ := bd_of h hf
      refine g_cVI (As := []) hC hO (c_X10_theyCan _ hC.2.2.2.2.2.2.1 a3 ka3 na3 q2.2 (nn_of hq4)) gc_X11_211 (xk_X10_theyCan _ (Nat.le_of_ble_eq_true rfl) (Nat.le_of_ble_eq_true rfl)) cr10 ka3 na3 rfl (Nat.le_of_ble_eq_true rfl) dX11_judged_15 hq4 ?_
      refine g_if_ne (tgt := 23) hC dX11_judged_18 (by decide) h (fun c18 h => ?_) (fun c18 h => ?_)
      · refine g_iconst (v := 0) hC dX11_judged_23 (by decide) ?_
        refine g_istore_n (lv' := [(2, .int 0), (0, .ref (E.2.2.1 t)), (1, .int x1)]) hC dX11_judged_24 rfl (by decide) rfl ?_
        exact g_sub [1, 2, 0] rfl (k_X11_judged_25 hC hO hR hf t ht1 ht2 x1 FU 0 q4.2 h)
      · exact g_sub [] rfl (k_X11_judged_21 hC hO hR hf q4.2 h)
theorem xk_X11_judged (R : Room) (h1 : 6 + 1 ≤ R.frames) (h2 : 264 ≤ R.locals) : xw R yX11_judged w_X11_judged GT cX11_judged 3 (some .int) rm_X11_judged 1 := ⟨rfl, rfl, rfl, h1, h2, ⟨by decide, by decide⟩, by decide +kernel⟩
theorem c_X11_judged (E : ET) (hE : EO E) (t : Nat) (ht1 : kd t = 11) (ht2 : AL E t) (x1 : Int32) (σ : HS) (hn : f_X11_judged t x1 σ ≠ none) : CoI E yX11_judged w_X11_judged rm_X11_judged [.ref (E.2.2.1 t), .int x1] σ (f_X11_judged t x1 σ) := CoI.of (lv := [(0, .ref (E.2.2.1 t)), (1, .int x1)]) hE (plainFor_of_name (by decide)) rfl (Nat.le_of_ble_eq_true rfl) rfl (fun F hC hO hR => k_X11_judged_0 hC hO hR hn t ht1 ht2 x1 σ rfl)
def rm_X11_worst : Room := { frames := 6, cells := 0, slots := 0, locals := 230 }
theorem wc_X9_bestAtWorst : Cond.code yX9_bestAtWorst cX9_bestAtWorst 3 (some .int) ∈ GT := gtr_56 _ (List.mem_of_getElem? (i := 6) rfl)
theorem gc_X11_327 : GoodIn GT (wsV RX11 327 RX9 yX9_bestAtWorst w_X9_bestAtWorst) := gi_V (gtr_56 _ (List.mem_of_getElem? (i := 3) rfl)) (gtr_56 _ (List.mem_of_getElem? (i := 4) rfl)) (gtr_56 _ (List.mem_of_getElem? (i := 5) rfl)) (gtr_2 _ (List.mem_of_getElem? (i := 0) rfl)) wc_X9_bestAtWorst
set_option maxHeartbeats 4000000 in
set_option maxRecDepth 100000 in
theorem k_X11_worst_0 {E : ET} {F : FT} {fo : Option (Int32 × HS)} (hC : Cx E F 1 cX11_worst RX11 GT) (hO : Ro F rm_X11_worst) (hR : RI E F .int fo) (hf : fo ≠ none) (t : Nat) (ht1 : kd t = 11) (ht2 : AL E t) (σ : HS) (h : f_X11_worst t σ = fo) : G E F 0 [(0, .ref (E.2.2.1 t))] [] σ := by
    refine g_aload_n hC dX11_worst_0 rfl 0 rfl ?_
    obtain ⟨q1, hq1, h⟩ := bd_of h hf
    refine g_cVV (As := []) hC hO (c_X11_freshen _ hC.2.2.2.2.2.2.1 t ht1 ht2 σ (nn_of hq1)) gc_X11_144 (xk_X11_freshen _ (Nat.le_of_ble_eq_true rfl) (Nat.le_of_ble_eq_true rfl)) cr11 ht1 ht2 rfl (Nat.le_of_ble_eq_true rfl) dX11_worst_1 hq1 ?_
    refine g_aload_n hC dX11_worst_4 rfl 0 rfl ?_
    refine g_getR (cj := 9) (k := 2) hC cr11 ui_11 ht1 ht2 (by decide) fl_X11_28 rfl rfl dX11_worst_5 h hf (fun a2 ea2 ka2 na2 h => ?_)
    refine g_aload_n hC dX11_worst_8 rfl 0 rfl ?_
    refine g_getI (k := 16) hC cr11 ui_11 ht1 ht2 (by decide) fl_X11_134 rfl rfl dX11_worst_9 ?_
    obtain ⟨q3, hq3, h⟩ := bd_of h hf
    refine g_cVI (As := [.int (q1.1 t 16)]) hC hO (c_X9_bestAtWorst _ hC.2.2.2.2.2.2.1 a2 ka2 na2 (q1.1 t 16) q1 (nn_of hq3)) gc_X11_327 (xk_X9_bestAtWorst _ (Nat.le_of_ble_eq_true rfl) (Nat.le_of_ble_eq_true rfl)) cr9 ka2 na2 rfl (Nat.le_of_ble_eq_true rfl) dX11_worst_12 hq3 ?_
    exact g_iret hC hR dX11_worst_15 rfl h
theorem xk_X11_worst (R : Room) (h1 : 6 + 1 ≤ R.frames) (h2 : 262 ≤ R.locals) : xw R yX11_worst w_X11_worst GT cX11_worst 1 (some .int) rm_X11_worst 0 := ⟨rfl, rfl, rfl, h1, h2, ⟨by decide, by decide⟩, by decide +kernel⟩
theorem c_X11_worst (E : ET) (hE : EO E) (t : Nat) (ht1 : kd t = 11) (ht2 : AL E t) (σ : HS) (hn : f_X11_worst t σ ≠ none) : CoI E yX11_worst w_X11_worst rm_X11_worst [.ref (E.2.2.1 t)] σ (f_X11_worst t σ) := CoI.of (lv := [(0, .ref (E.2.2.1 t))]) hE (plainFor_of_name (by decide)) rfl (Nat.le_of_ble_eq_true rfl) rfl (fun F hC hO hR => k_X11_worst_0 hC hO hR hn t ht1 ht2 σ rfl)
def rm_X11_first : Room := { frames := 6, cells := 0, slots := 0, locals := 230 }
theorem wc_X9_topOf : Cond.code yX9_topOf cX9_topOf 4 (some .int) ∈ GT := gtr_56 _ (List.mem_of_getElem? (i := 23) rfl)
theorem gc_X11_330 : GoodIn GT (wsV RX11 330 RX9 yX9_topOf w_X9_topOf) := gi_V (gtr_56 _ (List.mem_of_getElem? (i := 20) rfl)) (gtr_56 _ (List.mem_of_getElem? (i := 21) rfl)) (gtr_56 _ (List.mem_of_getElem? (i := 22) rfl)) (gtr_2 _ (List.mem_of_getElem? (i := 0) rfl)) wc_X9_topOf
set_option maxHeartbeats 4000000 in
set_option maxRecDepth 100000 in
theorem k_X11_first_97 {E : ET} {F : FT} {fo : Option (Int32 × HS)} (hC : Cx E F 6 cX11_first RX11 GT) (hO : Ro F rm_X11_first) (hR : RI E F .int fo) (hf : fo ≠ none) (t : Nat) (ht1 : kd t = 11) (ht2 : AL E t) : ∀ (n : Nat) (x4 : Int32) (x5 : Int32) (σ : HS), f_X11_first_97 t n x4 x5 σ = fo → G E F 97 [(0, .ref (E.2.2.1 t)), (4, .int x4), (5, .int x5)] [] σ := by
  intro n
  induction n with
  | zero =>
    intro x4 x5 σ h
    exact absurd (h.symm.trans rfl) hf
  | succ n ih =>
    intro x4 x5 σ h
    refine g_iload hC dX11_first_97 2 rfl ?_
    refine g_aload_n hC dX11_first_99 rfl 0 rfl ?_
    refine g_getI (k := 16) hC cr11 ui_11 ht1 ht2 (by decide) fl_X11_134 rfl rfl dX11_first_100 ?_
    refine g_icmp_ge (tgt := 130) hC dX11_first_103 (by decide) h (fun c103 h => ?_) (fun c103 h => ?_)
    · refine g_iload hC dX11_first_130 1 rfl ?_
      exact g_iret hC hR dX11_first_132 rfl h
    · refine g_aload_n hC dX11_first_106 rfl 0 rfl ?_
      refine g_getR (cj := 9) (k := 2) hC cr11 ui_11 ht1 ht2 (by decide) fl_X11_28 rfl rfl dX11_first_107 h hf (fun a1 ea1 ka1 na1 h => ?_)
      refine g_iload hC dX11_first_110 1 rfl ?_
      refine g_aload_n hC dX11_first_112 rfl 0 rfl ?_
      refine g_getR (cj := 14) (k := 10) hC cr11 ui_11 ht1 ht2 (by decide) fl_X11_84 rfl rfl dX11_first_113 h hf (fun a2 ea2 ka2 na2 h => ?_)
      refine g_iload hC dX11_first_116 2 rfl ?_
      refine g_iald hC ka2 na2 dX11_first_118 h hf (fun h => ?_)
      obtain ⟨q3, hq3, h⟩ := bd_of h hf
      refine g_cVI (As := [.int x4, .int (σ.1 a2 x5.toNatClampNeg)]) hC hO (c_X9_topOf _ hC.2.2.2.2.2.2.1 a1 ka1 na1 x4 (σ.1 a2 x5.toNatClampNeg) σ (nn_of hq3)) gc_X11_330 (xk_X9_topOf _ (Nat.le_of_ble_eq_true rfl) (Nat.le_of_ble_eq_true rfl)) cr9 ka1 na1 rfl (Nat.le_of_ble_eq_true rfl) dX11_first_119 hq3 ?_
      refine g_istore (lv' := [(4, .int q3.1), (0, .ref (E.2.2.1 t)), (5, .int x5)]) hC dX11_first_122 (by decide) rfl ?_
      refine g_iinc (v := x5 + 1) (lv' := [(5, .int (x5 + 1)), (4, .int q3.1), (0, .ref (E.2.2.1 t))]) hC dX11_first_124 2 rfl rfl (by decide) rfl ?_
      refine g_goto (tgt := 97) hC dX11_first_127 (by decide) ?_
      exact g_sub [2, 1, 0] rfl (ih q3.1 (x5 + 1) q3.2 h)
set_option maxHeartbeats 4000000 in
set_option maxRecDepth 100000 in
theorem k_X11_first_55 {E : ET} {F : FT} {fo : Option (Int32 × HS)} (hC : Cx E F 6 cX11_first RX11 GT) (hO : Ro F rm_X11_first) (hR : RI E F .int fo) (hf : fo ≠ none) (σ : HS) (h : f_X11_first_55 σ = fo) : G E F 55 [] [] σ := by
    refine g_iconst (v := (-1)) hC dX11_first_55 (by decide) ?_
    exact g_iret hC hR dX11_first_56 rfl h
set_option maxHeartbeats 4000000 in
set_option maxRecDepth 100000 in
theorem k_X11_first_16 {E : ET} {F : FT} {fo : Option (Int32 × HS)} (hC : Cx E F 6 cX11_first RX11 GT) (hO : Ro F rm_X11_first) (hR : RI E F .int fo) (hf : fo ≠ none) (t : Nat) (ht1 : kd t = 11) (ht2 : AL E t) : ∀ (n : Nat) (x2 : Int32) (x3 : Int32) (x4 : Int32) (σ : HS), f_X11_first_16 t n x2 x3 x4 σ = fo → G E F 16 [(0, .ref (E.2.2.1 t)), (2, .int x2), (3, .int x3), (4, .int x4)] [] σ := by
  intro n
  induction n with
  | zero =>
    intro x2 x3 x4 σ h
    exact absurd (h.symm.trans rfl) hf
  | succ n ih =>
    intro x2 x3 x4 σ h
    refine g_iload hC dX11_first_16 3 rfl ?_
    refine g_if_lt (tgt := 79) hC dX11_first_18 (by decide) h (fun c18 h => ?_) (fun c18 h => ?_)
    · refine g_iload_n hC dX11_first_79 rfl 1 rfl ?_
      refine g_if_eq (tgt := 85) hC dX11_first_80 (by decide) h (fun c80 h => ?_) (fun c80 h => ?_)
      · refine g_aload_n hC dX11_first_85 rfl 0 rfl ?_
        refine g_getR (cj := 9) (k := 2) hC cr11 ui_11 ht1 ht2 (by decide) fl_X11_28 rfl rfl dX11_first_86 h hf (fun a1 ea1 ka1 na1 h => ?_)
        refine g_getI (k := 4) hC cr9 ui_9 ka1 na1 (by decide) fl_X11_261 rfl rfl dX11_first_89 ?_
        refine g_istore (lv' := [(4, .int (σ.1 a1 4)), (0, .ref (E.2.2.1 t)), (2, .int x2), (3, .int x3)]) hC dX11_first_92 (by decide) rfl ?_
        refine g_iconst (v := 0) hC dX11_first_94 (by decide) ?_
        refine g_istore (lv' := [(5, .int 0), (4, .int (σ.1 a1 4)), (0, .ref (E.2.2.1 t)), (2, .int x2), (3, .int x3)]) hC dX11_first_95 (by decide) rfl ?_
        exact g_sub [2, 1, 0] rfl (k_X11_first_97 hC hO hR hf t ht1 ht2 FU (σ.1 a1 4) 0 σ h)
      · refine g_iconst (v := (-1)) hC dX11_first_83 (by decide) ?_
        exact g_iret hC hR dX11_first_84 rfl h
    · refine g_iload_n hC dX11_first_21 rfl 1 rfl ?_
      refine g_bipush (v := 10) hC dX11_first_22 (by decide) ?_
      refine g_irem hC dX11_first_24 (by decide) ?_
      refine g_istore (lv' := [(5, .int (x2 - x2 / 10 * 10)), (0, .ref (E.2.2.1 t)), (2, .int x2), (3, .int x3), (4, .int x4)]) hC dX11_first_25 (by decide) rfl ?_
      refine g_iload_n hC dX11_first_27 rfl 2 rfl ?_
      refine g_bipush (v := 10) hC dX11_first_28 (by decide) ?_
      refine g_idiv hC dX11_first_30 (by decide) ?_
      refine g_istore_n (lv' := [(2, .int (x2 / 10)), (5, .int (x2 - x2 / 10 * 10)), (0, .ref (E.2.2.1 t)), (3, .int x3), (4, .int x4)]) hC dX11_first_31 rfl (by decide) rfl ?_
      refine g_iload hC dX11_first_32 1 rfl ?_
      refine g_if_lt (tgt := 55) hC dX11_first_34 (by decide) h (fun c34 h => ?_) (fun c34 h => ?_)
      · exact g_sub [] rfl (k_X11_first_55 hC hO hR hf σ h)
      · refine g_iload hC dX11_first_37 1 rfl ?_
        refine g_aload_n hC dX11_first_39 rfl 2 rfl ?_
        refine g_getI (k := 16) hC cr11 ui_11 ht1 ht2 (by decide) fl_X11_134 rfl rfl dX11_first_40 ?_
        refine g_icmp_ge (tgt := 55) hC dX11_first_43 (by decide) h (fun c43 h => ?_) (fun c43 h => ?_)
        · exact g_sub [] rfl (k_X11_first_55 hC hO hR hf σ h)
        · refine g_iload_n hC dX11_first_46 rfl 3 rfl ?_
          refine g_iconst (v := 1) hC dX11_first_47 (by decide) ?_
          refine g_iload hC dX11_first_48 1 rfl ?_
          refine g_ishl hC dX11_first_50 ?_
          refine g_iand hC dX11_first_51 ?_
          refine g_if_eq (tgt := 57) hC dX11_first_52 (by decide) h (fun c52 h => ?_) (fun c52 h => ?_)
          · refine g_iload_n hC dX11_first_57 rfl 3 rfl ?_
            refine g_iconst (v := 1) hC dX11_first_58 (by decide) ?_
            refine g_iload hC dX11_first_59 1 rfl ?_
            refine g_ishl hC dX11_first_61 ?_
            refine g_ior hC dX11_first_62 ?_
            refine g_istore_n (lv' := [(3, .int (x3 ||| ((1 : Int32) <<< ((x2 - x2 / 10 * 10) &&& 31)))), (2, .int (x2 / 10)), (5, .int (x2 - x2 / 10 * 10)), (0, .ref (E.2.2.1 t)), (4, .int x4)]) hC dX11_first_63 rfl (by decide) rfl ?_
            refine g_aload_n hC dX11_first_64 rfl 3 rfl ?_
            refine g_getR (cj := 14) (k := 10) hC cr11 ui_11 ht1 ht2 (by decide) fl_X11_84 rfl rfl dX11_first_65 h hf (fun a2 ea2 ka2 na2 h => ?_)
            refine g_iload hC dX11_first_68 4 rfl ?_
            refine g_iload hC dX11_first_70 2 rfl ?_
            refine g_iast hC ka2 na2 dX11_first_72 h hf (fun h => ?_)
            refine g_iinc (v := x4 + (-1)) (lv' := [(4, .int (x4 + (-1))), (3, .int (x3 ||| ((1 : Int32) <<< ((x2 - x2 / 10 * 10) &&& 31)))), (2, .int (x2 / 10)), (5, .int (x2 - x2 / 10 * 10)), (0, .ref (E.2.2.1 t))]) hC dX11_first_73 4 rfl rfl (by decide) rfl ?_
            refine g_goto (tgt := 16) hC dX11_first_76 (by decide) ?_
            exact g_sub [4, 2, 1, 0] rfl (ih (x2 / 10) (x3 ||| ((1 : Int32) <<< ((x2 - x2 / 10 * 10) &&& 31))) (x4 + (-1)) (sI σ a2 x4.toNatClampNeg (x2 - x2 / 10 * 10)) h)
          · exact g_sub [] rfl (k_X11_first_55 hC hO hR hf σ h)
set_option maxHeartbeats 4000000 in
set_option maxRecDepth 100000 in
theorem k_X11_first_0 {E : ET} {F : FT} {fo : Option (Int32 × HS)} (hC : Cx E F 6 cX11_first RX11 GT) (hO : Ro F rm_X11_first) (hR : RI E F .int fo) (hf : fo ≠ none) (t : Nat) (ht1 : kd t = 11) (ht2 : AL E t) (x1 : Int32) (σ : HS) (h : f_X11_first t x1 σ = fo) : G E F 0 [(0, .ref (E.2.2.1 t)), (1, .int x1)] [] σ := by
    refine g_aload_n hC dX11_first_0 rfl 0 rfl ?_
    obtain ⟨q1, hq1, h⟩ := bd_of h hf
    refine g_cVV (As := []) hC hO (c_X11_freshen _ hC.2.2.2.2.2.2.1 t ht1 ht2 σ (nn_of hq1)) gc_X11_144 (xk_X11_freshen _ (Nat.le_of_ble_eq_true rfl) (Nat.le_of_ble_eq_true rfl)) cr11 ht1 ht2 rfl (Nat.le_of_ble_eq_true rfl) dX11_first_1 hq1 ?_
    refine g_iload_n hC dX11_first_4 rfl 1 rfl ?_
    refine g_istore_n (lv' := [(2, .int x1), (0, .ref (E.2.2.1 t)), (1, .int x1)]) hC dX11_first_5 rfl (by decide) rfl ?_
    refine g_iconst (v := 0) hC dX11_first_6 (by decide) ?_
    refine g_istore_n (lv' := [(3, .int 0), (2, .int x1), (0, .ref (E.2.2.1 t)), (1, .int x1)]) hC dX11_first_7 rfl (by decide) rfl ?_
    refine g_aload_n hC dX11_first_8 rfl 2 rfl ?_
    refine g_getI (k := 16) hC cr11 ui_11 ht1 ht2 (by decide) fl_X11_134 rfl rfl dX11_first_9 ?_
    refine g_iconst (v := 1) hC dX11_first_12 (by decide) ?_
    refine g_isub hC dX11_first_13 ?_
    refine g_istore (lv' := [(4, .int ((q1.1 t 16) - 1)), (3, .int 0), (2, .int x1), (0, .ref (E.2.2.1 t)), (1, .int x1)]) hC dX11_first_14 (by decide) rfl ?_
    exact g_sub [3, 2, 1, 0] rfl (k_X11_first_16 hC hO hR hf t ht1 ht2 FU x1 0 ((q1.1 t 16) - 1) q1 h)
theorem xk_X11_first (R : Room) (h1 : 6 + 1 ≤ R.frames) (h2 : 267 ≤ R.locals) : xw R yX11_first w_X11_first GT cX11_first 6 (some .int) rm_X11_first 1 := ⟨rfl, rfl, rfl, h1, h2, ⟨by decide, by decide⟩, by decide +kernel⟩
theorem c_X11_first (E : ET) (hE : EO E) (t : Nat) (ht1 : kd t = 11) (ht2 : AL E t) (x1 : Int32) (σ : HS) (hn : f_X11_first t x1 σ ≠ none) : CoI E yX11_first w_X11_first rm_X11_first [.ref (E.2.2.1 t), .int x1] σ (f_X11_first t x1 σ) := CoI.of (lv := [(0, .ref (E.2.2.1 t)), (1, .int x1)]) hE (plainFor_of_name (by decide)) rfl (Nat.le_of_ble_eq_true rfl) rfl (fun F hC hO hR => k_X11_first_0 hC hO hR hn t ht1 ht2 x1 σ rfl)
def rm_X11_many : Room := { frames := 6, cells := 0, slots := 0, locals := 230 }
theorem wc_X4_notOutdone : Cond.code yX4_notOutdone cX4_notOutdone 5 (some .int) ∈ GT := gtr_57 _ (List.mem_of_getElem? (i := 15) rfl)
theorem gc_X11_333 : GoodIn GT (wsV RX11 333 RX4 yX4_notOutdone w_X4_notOutdone) := gi_V (gtr_57 _ (List.mem_of_getElem? (i := 12) rfl)) (gtr_57 _ (List.mem_of_getElem? (i := 13) rfl)) (gtr_57 _ (List.mem_of_getElem? (i := 14) rfl)) (gtr_2 _ (List.mem_of_getElem? (i := 8) rfl)) wc_X4_notOutdone
set_option maxHeartbeats 4000000 in
set_option maxRecDepth 100000 in
theorem k_X11_many_25 {E : ET} {F : FT} {fo : Option (Int32 × HS)} (hC : Cx E F 2 cX11_many RX11 GT) (hO : Ro F rm_X11_many) (hR : RI E F .int fo) (hf : fo ≠ none) (σ : HS) (h : f_X11_many_25 σ = fo) : G E F 25 [] [] σ := by
    refine g_iconst (v := (-1)) hC dX11_many_25 (by decide) ?_
    exact g_iret hC hR dX11_many_26 rfl h
set_option maxHeartbeats 4000000 in
set_option maxRecDepth 100000 in
theorem k_X11_many_0 {E : ET} {F : FT} {fo : Option (Int32 × HS)} (hC : Cx E F 2 cX11_many RX11 GT) (hO : Ro F rm_X11_many) (hR : RI E F .int fo) (hf : fo ≠ none) (t : Nat) (ht1 : kd t = 11) (ht2 : AL E t) (x1 : Int32) (σ : HS) (h : f_X11_many t x1 σ = fo) : G E F 0 [(0, .ref (E.2.2.1 t)), (1, .int x1)] [] σ := by
    refine g_aload_n hC dX11_many_0 rfl 0 rfl ?_
    obtain ⟨q1, hq1, h⟩ := bd_of h hf
    refine g_cVV (As := []) hC hO (c_X11_freshen _ hC.2.2.2.2.2.2.1 t ht1 ht2 σ (nn_of hq1)) gc_X11_144 (xk_X11_freshen _ (Nat.le_of_ble_eq_true rfl) (Nat.le_of_ble_eq_true rfl)) cr11 ht1 ht2 rfl (Nat.le_of_ble_eq_true rfl) dX11_many_1 hq1 ?_
    refine g_iload_n hC dX11_many_4 rfl 1 rfl ?_
    refine g_iconst (v := 1) hC dX11_many_5 (by decide) ?_
    refine g_icmp_lt (tgt := 25) hC dX11_many_6 (by decide) h (fun c6 h => ?_) (fun c6 h => ?_)
    · exact g_sub [] rfl (k_X11_many_25 hC hO hR hf q1 h)
    · refine g_iload_n hC dX11_many_9 rfl 1 rfl ?_
      refine g_bipush (v := 100) hC dX11_many_10 (by decide) ?_
      refine g_icmp_gt (tgt := 25) hC dX11_many_12 (by decide) h (fun c12 h => ?_) (fun c12 h => ?_)
      · exact g_sub [] rfl (k_X11_many_25 hC hO hR hf q1 h)
      · refine g_aload_n hC dX11_many_15 rfl 0 rfl ?_
        refine g_getR (cj := 10) (k := 3) hC cr11 ui_11 ht1 ht2 (by decide) fl_X11_35 rfl rfl dX11_many_16 h hf (fun a2 ea2 ka2 na2 h => ?_)
        obtain ⟨q3, hq3, h⟩ := bd_of h hf
        refine g_cVI (As := []) hC hO (c_X10_theyCan _ hC.2.2.2.2.2.2.1 a2 ka2 na2 q1 (nn_of hq3)) gc_X11_211 (xk_X10_theyCan _ (Nat.le_of_ble_eq_true rfl) (Nat.le_of_ble_eq_true rfl)) cr10 ka2 na2 rfl (Nat.le_of_ble_eq_true rfl) dX11_many_19 hq3 ?_
        refine g_if_ne (tgt := 27) hC dX11_many_22 (by decide) h (fun c22 h => ?_) (fun c22 h => ?_)
        · refine g_aload_n hC dX11_many_27 rfl 0 rfl ?_
          refine g_getR (cj := 4) (k := 4) hC cr11 ui_11 ht1 ht2 (by decide) fl_X11_44 rfl rfl dX11_many_28 h hf (fun a4 ea4 ka4 na4 h => ?_)
          refine g_iload_n hC dX11_many_31 rfl 1 rfl ?_
          obtain ⟨q5, hq5, h⟩ := bd_of h hf
          refine g_cVI (As := [.int x1]) hC hO (c_X4_notOutdone _ hC.2.2.2.2.2.2.1 a4 ka4 na4 x1 q3.2 (nn_of hq5)) gc_X11_333 (xk_X4_notOutdone _ (Nat.le_of_ble_eq_true rfl) (Nat.le_of_ble_eq_true rfl)) cr4 ka4 na4 rfl (Nat.le_of_ble_eq_true rfl) dX11_many_32 hq5 ?_
          exact g_iret hC hR dX11_many_35 rfl h
        · exact g_sub [] rfl (k_X11_many_25 hC hO hR hf q3.2 h)
theorem xk_X11_many (R : Room) (h1 : 6 + 1 ≤ R.frames) (h2 : 263 ≤ R.locals) : xw R yX11_many w_X11_many GT cX11_many 2 (some .int) rm_X11_many 1 := ⟨rfl, rfl, rfl, h1, h2, ⟨by decide, by decide⟩, by decide +kernel⟩
theorem c_X11_many (E : ET) (hE : EO E) (t : Nat) (ht1 : kd t = 11) (ht2 : AL E t) (x1 : Int32) (σ : HS) (hn : f_X11_many t x1 σ ≠ none) : CoI E yX11_many w_X11_many rm_X11_many [.ref (E.2.2.1 t), .int x1] σ (f_X11_many t x1 σ) := CoI.of (lv := [(0, .ref (E.2.2.1 t)), (1, .int x1)]) hE (plainFor_of_name (by decide)) rfl (Nat.le_of_ble_eq_true rfl) rfl (fun F hC hO hR => k_X11_many_0 hC hO hR hn t ht1 ht2 x1 σ rfl)
def rm_X11_count : Room := { frames := 6, cells := 0, slots := 0, locals := 230 }
set_option maxHeartbeats 4000000 in
set_option maxRecDepth 100000 in
theorem k_X11_count_0 {E : ET} {F : FT} {fo : Option (Int32 × HS)} (hC : Cx E F 2 cX11_count RX11 GT) (hO : Ro F rm_X11_count) (hR : RI E F .int fo) (hf : fo ≠ none) (t : Nat) (ht1 : kd t = 11) (ht2 : AL E t) (x1 : Int32) (σ : HS) (h : f_X11_count t x1 σ = fo) : G E F 0 [(0, .ref (E.2.2.1 t)), (1, .int x1)] [] σ := by
    refine g_aload_n hC dX11_count_0 rfl 0 rfl ?_
    obtain ⟨q1, hq1, h⟩ := bd_of h hf
    refine g_cVV (As := []) hC hO (c_X11_freshen _ hC.2.2.2.2.2.2.1 t ht1 ht2 σ (nn_of hq1)) gc_X11_144 (xk_X11_freshen _ (Nat.le_of_ble_eq_true rfl) (Nat.le_of_ble_eq_true rfl)) cr11 ht1 ht2 rfl (Nat.le_of_ble_eq_true rfl) dX11_count_1 hq1 ?_
    refine g_iload_n hC dX11_count_4 rfl 1 rfl ?_
    by_cases cs0 : x1 = 0
    · have h := ife_p cs0 h
      refine g_tin (tgt := 52) hC dX11_count_5 (by rw [cs0]; decide) (by rw [cs0]; decide) (by rw [cs0]; rfl) (by decide) ?_
      refine g_aload_n hC dX11_count_52 rfl 0 rfl ?_
      refine g_getI (k := 16) hC cr11 ui_11 ht1 ht2 (by decide) fl_X11_134 rfl rfl dX11_count_53 ?_
      exact g_iret hC hR dX11_count_56 rfl h
    have h := ife_n cs0 h
    by_cases cs1 : x1 = 1
    · have h := ife_p cs1 h
      refine g_tin (tgt := 57) hC dX11_count_5 (by rw [cs1]; decide) (by rw [cs1]; decide) (by rw [cs1]; rfl) (by decide) ?_
      refine g_aload_n hC dX11_count_57 rfl 0 rfl ?_
      refine g_getR (cj := 9) (k := 2) hC cr11 ui_11 ht1 ht2 (by decide) fl_X11_28 rfl rfl dX11_count_58 h hf (fun a2 ea2 ka2 na2 h => ?_)
      refine g_getI (k := 3) hC cr9 ui_9 ka2 na2 (by decide) fl_X11_123 rfl rfl dX11_count_61 ?_
      obtain ⟨q3, hq3, h⟩ := bd_of h hf
      refine g_cSI (As := [.int (q1.1 a2 3)]) hC hO (c_J6_bitCount_0f7a4 _ hC.2.2.2.2.2.2.1 (q1.1 a2 3) q1 (nn_of hq3)) gc_X11_264 (xk_J6_bitCount_0f7a4 _ (Nat.le_of_ble_eq_true rfl) (Nat.le_of_ble_eq_true rfl)) rfl (Nat.le_of_ble_eq_true rfl) dX11_count_64 hq3 ?_
      exact g_iret hC hR dX11_count_67 rfl h
    have h := ife_n cs1 h
    by_cases cs2 : x1 = 2
    · have h := ife_p cs2 h
      refine g_tin (tgt := 68) hC dX11_count_5 (by rw [cs2]; decide) (by rw [cs2]; decide) (by rw [cs2]; rfl) (by decide) ?_
      refine g_aload_n hC dX11_count_68 rfl 0 rfl ?_
      refine g_getR (cj := 9) (k := 2) hC cr11 ui_11 ht1 ht2 (by decide) fl_X11_28 rfl rfl dX11_count_69 h hf (fun a4 ea4 ka4 na4 h => ?_)
      refine g_getI (k := 4) hC cr9 ui_9 ka4 na4 (by decide) fl_X11_261 rfl rfl dX11_count_72 ?_
      obtain ⟨q5, hq5, h⟩ := bd_of h hf
      refine g_cSI (As := [.int (q1.1 a4 4)]) hC hO (c_J6_bitCount_0f7a4 _ hC.2.2.2.2.2.2.1 (q1.1 a4 4) q1 (nn_of hq5)) gc_X11_264 (xk_J6_bitCount_0f7a4 _ (Nat.le_of_ble_eq_true rfl) (Nat.le_of_ble_eq_true rfl)) rfl (Nat.le_of_ble_eq_true rfl) dX11_count_75 hq5 ?_
      exact g_iret hC hR dX11_count_78 rfl h
    have h := ife_n cs2 h
    by_cases cs3 : x1 = 3
    · have h := ife_p cs3 h
      refine g_tin (tgt := 79) hC dX11_count_5 (by rw [cs3]; decide) (by rw [cs3]; decide) (by rw [cs3]; rfl) (by decide) ?_
      refine g_aload_n hC dX11_count_79 rfl 0 rfl ?_
      refine g_getR (cj := 0) (k := 14) hC cr11 ui_11 ht1 ht2 (by decide) fl_X11_96 rfl rfl dX11_count_80 h hf (fun a6 ea6 ka6 na6 h => ?_)
      refine g_getI (k := 9) hC cr0 ui_0 ka6 na6 (by decide) fl_X11_302 rfl rfl dX11_count_83 ?_
      exact g_iret hC hR dX11_count_86 rfl h
    have h := ife_n cs3 h
    by_cases cs4 : x1 = 4
    · have h := ife_p cs4 h
      refine g_tin (tgt := 87) hC dX11_count_5 (by rw [cs4]; decide) (by rw [cs4]; decide) (by rw [cs4]; rfl) (by decide) ?_
      refine g_aload_n hC dX11_count_87 rfl 0 rfl ?_
      refine g_getR (cj := 10) (k := 3) hC cr11 ui_11 ht1 ht2 (by decide) fl_X11_35 rfl rfl dX11_count_88 h hf (fun a7 ea7 ka7 na7 h => ?_)
      refine g_getI (k := 4) hC cr10 ui_10 ka7 na7 (by decide) fl_X11_190 rfl rfl dX11_count_91 ?_
      obtain ⟨q8, hq8, h⟩ := bd_of h hf
      refine g_cSI (As := [.int (q1.1 a7 4)]) hC hO (c_J6_bitCount_0f7a4 _ hC.2.2.2.2.2.2.1 (q1.1 a7 4) q1 (nn_of hq8)) gc_X11_264 (xk_J6_bitCount_0f7a4 _ (Nat.le_of_ble_eq_true rfl) (Nat.le_of_ble_eq_true rfl)) rfl (Nat.le_of_ble_eq_true rfl) dX11_count_94 hq8 ?_
      exact g_iret hC hR dX11_count_97 rfl h
    have h := ife_n cs4 h
    by_cases cs5 : x1 = 5
    · have h := ife_p cs5 h
      refine g_tin (tgt := 98) hC dX11_count_5 (by rw [cs5]; decide) (by rw [cs5]; decide) (by rw [cs5]; rfl) (by decide) ?_
      refine g_aload_n hC dX11_count_98 rfl 0 rfl ?_
      refine g_getR (cj := 8) (k := 0) hC cr11 ui_11 ht1 ht2 (by decide) fl_X11_10 rfl rfl dX11_count_99 h hf (fun a9 ea9 ka9 na9 h => ?_)
      refine g_getI (k := 1) hC cr8 ui_8 ka9 na9 (by decide) fl_X11_131 rfl rfl dX11_count_102 ?_
      exact g_iret hC hR dX11_count_105 rfl h
    have h := ife_n cs5 h
    by_cases cs6 : x1 = 6
    · have h := ife_p cs6 h
      refine g_tin (tgt := 106) hC dX11_count_5 (by rw [cs6]; decide) (by rw [cs6]; decide) (by rw [cs6]; rfl) (by decide) ?_
      refine g_aload_n hC dX11_count_106 rfl 0 rfl ?_
      refine g_getR (cj := 10) (k := 3) hC cr11 ui_11 ht1 ht2 (by decide) fl_X11_35 rfl rfl dX11_count_107 h hf (fun a10 ea10 ka10 na10 h => ?_)
      refine g_getR (cj := 1) (k := 2) hC cr10 ui_10 ka10 na10 (by decide) fl_X11_196 rfl rfl dX11_count_110 h hf (fun a11 ea11 ka11 na11 h => ?_)
      refine g_getI (k := 5) hC cr1 ui_1 ka11 na11 (by decide) fl_X11_200 rfl rfl dX11_count_113 ?_
      exact g_iret hC hR dX11_count_116 rfl h
    have h := ife_n cs6 h
    by_cases cs7 : x1 = 7
    · have h := ife_p cs7 h
      refine g_tin (tgt := 117) hC dX11_count_5 (by rw [cs7]; decide) (by rw [cs7]; decide) (by rw [cs7]; rfl) (by decide) ?_
      refine g_aload_n hC dX11_count_117 rfl 0 rfl ?_
      refine g_getI (k := 13) hC cr11 ui_11 ht1 ht2 (by decide) fl_X11_320 rfl rfl dX11_count_118 ?_
      exact g_iret hC hR dX11_count_121 rfl h
    have h := ife_n cs7 h
    refine g_tout (tgt := 122) hC dX11_count_5 (sw_out 0 7 (by decide) (by decide) (fun k h1 h2 => by rcases (show k = 0 ∨ k = 1 ∨ k = 2 ∨ k = 3 ∨ k = 4 ∨ k = 5 ∨ k = 6 ∨ k = 7 by omega) with rfl | rfl | rfl | rfl | rfl | rfl | rfl | rfl <;> assumption)) (by decide) ?_
    refine g_iconst (v := (-1)) hC dX11_count_122 (by decide) ?_
    exact g_iret hC hR dX11_count_123 rfl h
theorem xk_X11_count (R : Room) (h1 : 6 + 1 ≤ R.frames) (h2 : 263 ≤ R.locals) : xw R yX11_count w_X11_count GT cX11_count 2 (some .int) rm_X11_count 1 := ⟨rfl, rfl, rfl, h1, h2, ⟨by decide, by decide⟩, by decide +kernel⟩
theorem c_X11_count (E : ET) (hE : EO E) (t : Nat) (ht1 : kd t = 11) (ht2 : AL E t) (x1 : Int32) (σ : HS) (hn : f_X11_count t x1 σ ≠ none) : CoI E yX11_count w_X11_count rm_X11_count [.ref (E.2.2.1 t), .int x1] σ (f_X11_count t x1 σ) := CoI.of (lv := [(0, .ref (E.2.2.1 t)), (1, .int x1)]) hE (plainFor_of_name (by decide)) rfl (Nat.le_of_ble_eq_true rfl) rfl (fun F hC hO hR => k_X11_count_0 hC hO hR hn t ht1 ht2 x1 σ rfl)
