def w_X6_readSaying : List Cond := Cond.code yX6_readSaying cX6_readSaying 3 none :: GT
def w_X6_readStatement : List Cond := Cond.code yX6_readStatement cX6_readStatement 2 none :: GT
def w_X6_read : List Cond := Cond.code yX6_read cX6_read 4 (some .int) :: GT
def w_X11_choice : List Cond := Cond.code yX11_choice cX11_choice 3 (some .int) :: GT
def rm_X6_readSaying : Room := { frames := 5, cells := 0, slots := 0, locals := 167 }
theorem wc_X6_readBound : Cond.code yX6_readBound cX6_readBound 6 none ∈ GT := gtr_19 _ (List.mem_of_getElem? (i := 2) rfl)
theorem gc_X6_108 : GoodIn GT (wsV RX6 108 RX6 yX6_readBound w_X6_readBound) := gi_V (gtr_18 _ (List.mem_of_getElem? (i := 23) rfl)) (gtr_19 _ (List.mem_of_getElem? (i := 0) rfl)) (gtr_19 _ (List.mem_of_getElem? (i := 1) rfl)) (gtr_1 _ (List.mem_of_getElem? (i := 20) rfl)) wc_X6_readBound
theorem gc_X6_41 : GoodIn GT (wsV RX6 41 RX8 yX8_says w_X8_says) := gi_V (gtr_14 _ (List.mem_of_getElem? (i := 19) rfl)) (gtr_14 _ (List.mem_of_getElem? (i := 20) rfl)) (gtr_14 _ (List.mem_of_getElem? (i := 21) rfl)) (gtr_1 _ (List.mem_of_getElem? (i := 16) rfl)) wc_X8_says
theorem wc_X6_readStep : Cond.code yX6_readStep cX6_readStep 7 none ∈ GT := gtr_18 _ (List.mem_of_getElem? (i := 22) rfl)
theorem gc_X6_103 : GoodIn GT (wsV RX6 103 RX6 yX6_readStep w_X6_readStep) := gi_V (gtr_18 _ (List.mem_of_getElem? (i := 19) rfl)) (gtr_18 _ (List.mem_of_getElem? (i := 20) rfl)) (gtr_18 _ (List.mem_of_getElem? (i := 21) rfl)) (gtr_1 _ (List.mem_of_getElem? (i := 20) rfl)) wc_X6_readStep
theorem wc_X6_readPair : Cond.code yX6_readPair cX6_readPair 8 none ∈ GT := gtr_18 _ (List.mem_of_getElem? (i := 14) rfl)
theorem gc_X6_94 : GoodIn GT (wsV RX6 94 RX6 yX6_readPair w_X6_readPair) := gi_V (gtr_18 _ (List.mem_of_getElem? (i := 11) rfl)) (gtr_18 _ (List.mem_of_getElem? (i := 12) rfl)) (gtr_18 _ (List.mem_of_getElem? (i := 13) rfl)) (gtr_1 _ (List.mem_of_getElem? (i := 20) rfl)) wc_X6_readPair
set_option maxHeartbeats 4000000 in
set_option maxRecDepth 100000 in
theorem k_X6_readSaying_156 {E : ET} {F : FT} {fo : Option HS} (hC : Cx E F 3 cX6_readSaying RX6 GT) (hO : Ro F rm_X6_readSaying) (hR : RV E F fo) (hf : fo ≠ none) {K : KT} (hX : KS K F.1.2.2.2.2.2.1 F.1.2.2.2.1) (σ : HS) (h : f_X6_readSaying_156 σ = fo) : G E F 156 [] [] σ := by
    exact g_vret hC hR dX6_readSaying_156 h
set_option maxHeartbeats 4000000 in
set_option maxRecDepth 100000 in
theorem k_X6_readSaying_0 {E : ET} {F : FT} {fo : Option HS} (hC : Cx E F 3 cX6_readSaying RX6 GT) (hO : Ro F rm_X6_readSaying) (hR : RV E F fo) (hf : fo ≠ none) {K : KT} (hX : KS K F.1.2.2.2.2.2.1 F.1.2.2.2.1) (t : Nat) (ht1 : kd t = 6) (ht2 : AL E t) (x1 : Nat) (hx1a : kd x1 = 0) (hx1b : AL E x1) (x2 : Int32) (σ : HS) (h : f_X6_readSaying t x1 x2 σ = fo) : G E F 0 [(0, .ref (E.2.2.1 t)), (1, .ref (E.2.2.1 x1)), (2, .int x2)] [] σ := by
    refine g_aload_n hC dX6_readSaying_0 rfl 0 rfl ?_
    refine g_getR (cj := 8) (k := 0) hC cr6 ui_6 ht1 ht2 (by decide) fl_X6_18 rfl rfl dX6_readSaying_1 h hf (fun a1 ea1 ka1 na1 h => ?_)
    obtain ⟨q2, hq2, h⟩ := bd_of h hf
    refine g_cVV (As := []) hC hO (c_X8_step _ hC.2.2.2.2.2.2.1 a1 ka1 na1 σ (nn_of hq2)) gc_X6_79 (xk_X8_step _ (Nat.le_of_ble_eq_true rfl) (Nat.le_of_ble_eq_true rfl)) cr8 ka1 na1 rfl (Nat.le_of_ble_eq_true rfl) dX6_readSaying_4 hq2 ?_
    refine g_aload_n hC dX6_readSaying_7 rfl 0 rfl ?_
    refine g_getR (cj := 8) (k := 0) hC cr6 ui_6 ht1 ht2 (by decide) fl_X6_18 rfl rfl dX6_readSaying_8 h hf (fun a3 ea3 ka3 na3 h => ?_)
    refine g_ldcS (i := 3) hC hX (by decide) dX6_readSaying_11 ?_
    obtain ⟨q4, hq4, h⟩ := bd_of h hf
    refine g_xVI (As := [.ref (K.1 3)]) hC hO hX (c_X8_says _ hC.2.2.2.2.2.2.1 K 3 (by decide) a3 ka3 na3 q2 (nn_of hq4)) gc_X6_41 (xk_X8_says _ (Nat.le_of_ble_eq_true rfl) (Nat.le_of_ble_eq_true rfl)) (rb_al hC cr8 ka3 na3) rfl (Nat.le_of_ble_eq_true rfl) dX6_readSaying_13 hq4 ?_
    refine g_if_eq (tgt := 34) hC dX6_readSaying_16 (by decide) h (fun c16 h => ?_) (fun c16 h => ?_)
    · refine g_aload_n hC dX6_readSaying_34 rfl 0 rfl ?_
      refine g_getR (cj := 8) (k := 0) hC cr6 ui_6 ht1 ht2 (by decide) fl_X6_18 rfl rfl dX6_readSaying_35 h hf (fun a5 ea5 ka5 na5 h => ?_)
      refine g_ldcS (i := 4) hC hX (by decide) dX6_readSaying_38 ?_
      obtain ⟨q6, hq6, h⟩ := bd_of h hf
      refine g_xVI (As := [.ref (K.1 4)]) hC hO hX (c_X8_says _ hC.2.2.2.2.2.2.1 K 4 (by decide) a5 ka5 na5 q4.2 (nn_of hq6)) gc_X6_41 (xk_X8_says _ (Nat.le_of_ble_eq_true rfl) (Nat.le_of_ble_eq_true rfl)) (rb_al hC cr8 ka5 na5) rfl (Nat.le_of_ble_eq_true rfl) dX6_readSaying_40 hq6 ?_
      refine g_if_eq (tgt := 61) hC dX6_readSaying_43 (by decide) h (fun c43 h => ?_) (fun c43 h => ?_)
      · refine g_aload_n hC dX6_readSaying_61 rfl 0 rfl ?_
        refine g_getR (cj := 8) (k := 0) hC cr6 ui_6 ht1 ht2 (by decide) fl_X6_18 rfl rfl dX6_readSaying_62 h hf (fun a7 ea7 ka7 na7 h => ?_)
        refine g_ldcS (i := 5) hC hX (by decide) dX6_readSaying_65 ?_
        obtain ⟨q8, hq8, h⟩ := bd_of h hf
        refine g_xVI (As := [.ref (K.1 5)]) hC hO hX (c_X8_says _ hC.2.2.2.2.2.2.1 K 5 (by decide) a7 ka7 na7 q6.2 (nn_of hq8)) gc_X6_41 (xk_X8_says _ (Nat.le_of_ble_eq_true rfl) (Nat.le_of_ble_eq_true rfl)) (rb_al hC cr8 ka7 na7) rfl (Nat.le_of_ble_eq_true rfl) dX6_readSaying_67 hq8 ?_
        refine g_if_eq (tgt := 86) hC dX6_readSaying_70 (by decide) h (fun c70 h => ?_) (fun c70 h => ?_)
        · refine g_aload_n hC dX6_readSaying_86 rfl 0 rfl ?_
          refine g_getR (cj := 8) (k := 0) hC cr6 ui_6 ht1 ht2 (by decide) fl_X6_18 rfl rfl dX6_readSaying_87 h hf (fun a9 ea9 ka9 na9 h => ?_)
          refine g_ldcS (i := 6) hC hX (by decide) dX6_readSaying_90 ?_
          obtain ⟨q10, hq10, h⟩ := bd_of h hf
          refine g_xVI (As := [.ref (K.1 6)]) hC hO hX (c_X8_says _ hC.2.2.2.2.2.2.1 K 6 (by decide) a9 ka9 na9 q8.2 (nn_of hq10)) gc_X6_41 (xk_X8_says _ (Nat.le_of_ble_eq_true rfl) (Nat.le_of_ble_eq_true rfl)) (rb_al hC cr8 ka9 na9) rfl (Nat.le_of_ble_eq_true rfl) dX6_readSaying_92 hq10 ?_
          refine g_if_eq (tgt := 107) hC dX6_readSaying_95 (by decide) h (fun c95 h => ?_) (fun c95 h => ?_)
          · refine g_aload_n hC dX6_readSaying_107 rfl 0 rfl ?_
            refine g_getR (cj := 8) (k := 0) hC cr6 ui_6 ht1 ht2 (by decide) fl_X6_18 rfl rfl dX6_readSaying_108 h hf (fun a11 ea11 ka11 na11 h => ?_)
            refine g_ldcS (i := 7) hC hX (by decide) dX6_readSaying_111 ?_
            obtain ⟨q12, hq12, h⟩ := bd_of h hf
            refine g_xVI (As := [.ref (K.1 7)]) hC hO hX (c_X8_says _ hC.2.2.2.2.2.2.1 K 7 (by decide) a11 ka11 na11 q10.2 (nn_of hq12)) gc_X6_41 (xk_X8_says _ (Nat.le_of_ble_eq_true rfl) (Nat.le_of_ble_eq_true rfl)) (rb_al hC cr8 ka11 na11) rfl (Nat.le_of_ble_eq_true rfl) dX6_readSaying_113 hq12 ?_
            refine g_if_eq (tgt := 129) hC dX6_readSaying_116 (by decide) h (fun c116 h => ?_) (fun c116 h => ?_)
            · refine g_aload_n hC dX6_readSaying_129 rfl 0 rfl ?_
              refine g_getR (cj := 8) (k := 0) hC cr6 ui_6 ht1 ht2 (by decide) fl_X6_18 rfl rfl dX6_readSaying_130 h hf (fun a13 ea13 ka13 na13 h => ?_)
              refine g_ldcS (i := 8) hC hX (by decide) dX6_readSaying_133 ?_
              obtain ⟨q14, hq14, h⟩ := bd_of h hf
              refine g_xVI (As := [.ref (K.1 8)]) hC hO hX (c_X8_says _ hC.2.2.2.2.2.2.1 K 8 (by decide) a13 ka13 na13 q12.2 (nn_of hq14)) gc_X6_41 (xk_X8_says _ (Nat.le_of_ble_eq_true rfl) (Nat.le_of_ble_eq_true rfl)) (rb_al hC cr8 ka13 na13) rfl (Nat.le_of_ble_eq_true rfl) dX6_readSaying_135 hq14 ?_
              refine g_if_eq (tgt := 151) hC dX6_readSaying_138 (by decide) h (fun c138 h => ?_) (fun c138 h => ?_)
              · refine g_aload_n hC dX6_readSaying_151 rfl 0 rfl ?_
                refine g_iconst (v := 1) hC dX6_readSaying_152 (by decide) ?_
                obtain ⟨q15, hq15, h⟩ := bd_of h hf
                refine g_cVV (As := [.int 1]) hC hO (c_X6_wrong _ hC.2.2.2.2.2.2.1 t ht1 ht2 1 q14.2 (nn_of hq15)) gc_X6_65 (xk_X6_wrong _ (Nat.le_of_ble_eq_true rfl) (Nat.le_of_ble_eq_true rfl)) cr6 ht1 ht2 rfl (Nat.le_of_ble_eq_true rfl) dX6_readSaying_153 hq15 ?_
                exact g_sub [] rfl (k_X6_readSaying_156 hC hO hR hf hX q15 h)
              · refine g_aload_n hC dX6_readSaying_141 rfl 0 rfl ?_
                refine g_aload_n hC dX6_readSaying_142 rfl 1 rfl ?_
                refine g_iload_n hC dX6_readSaying_143 rfl 2 rfl ?_
                refine g_iconst (v := 2) hC dX6_readSaying_144 (by decide) ?_
                obtain ⟨q16, hq16, h⟩ := bd_of h hf
                refine g_cVV (As := [.ref (E.2.2.1 x1), .int x2, .int 2]) hC hO (c_X6_readBound _ hC.2.2.2.2.2.2.1 t ht1 ht2 x1 hx1a hx1b x2 2 q14.2 (nn_of hq16)) gc_X6_108 (xk_X6_readBound _ (Nat.le_of_ble_eq_true rfl) (Nat.le_of_ble_eq_true rfl)) cr6 ht1 ht2 rfl (Nat.le_of_ble_eq_true rfl) dX6_readSaying_145 hq16 ?_
                refine g_goto (tgt := 156) hC dX6_readSaying_148 (by decide) ?_
                exact g_sub [] rfl (k_X6_readSaying_156 hC hO hR hf hX q16 h)
            · refine g_aload_n hC dX6_readSaying_119 rfl 0 rfl ?_
              refine g_aload_n hC dX6_readSaying_120 rfl 1 rfl ?_
              refine g_iload_n hC dX6_readSaying_121 rfl 2 rfl ?_
              refine g_iconst (v := 1) hC dX6_readSaying_122 (by decide) ?_
              obtain ⟨q17, hq17, h⟩ := bd_of h hf
              refine g_cVV (As := [.ref (E.2.2.1 x1), .int x2, .int 1]) hC hO (c_X6_readBound _ hC.2.2.2.2.2.2.1 t ht1 ht2 x1 hx1a hx1b x2 1 q12.2 (nn_of hq17)) gc_X6_108 (xk_X6_readBound _ (Nat.le_of_ble_eq_true rfl) (Nat.le_of_ble_eq_true rfl)) cr6 ht1 ht2 rfl (Nat.le_of_ble_eq_true rfl) dX6_readSaying_123 hq17 ?_
              refine g_goto (tgt := 156) hC dX6_readSaying_126 (by decide) ?_
              exact g_sub [] rfl (k_X6_readSaying_156 hC hO hR hf hX q17 h)
          · refine g_aload_n hC dX6_readSaying_98 rfl 0 rfl ?_
            refine g_aload_n hC dX6_readSaying_99 rfl 1 rfl ?_
            refine g_iload_n hC dX6_readSaying_100 rfl 2 rfl ?_
            obtain ⟨q18, hq18, h⟩ := bd_of h hf
            refine g_cVV (As := [.ref (E.2.2.1 x1), .int x2]) hC hO (c_X6_readStep _ hC.2.2.2.2.2.2.1 t ht1 ht2 x1 hx1a hx1b x2 q10.2 (nn_of hq18)) gc_X6_103 (xk_X6_readStep _ (Nat.le_of_ble_eq_true rfl) (Nat.le_of_ble_eq_true rfl)) cr6 ht1 ht2 rfl (Nat.le_of_ble_eq_true rfl) dX6_readSaying_101 hq18 ?_
            refine g_goto (tgt := 156) hC dX6_readSaying_104 (by decide) ?_
            exact g_sub [] rfl (k_X6_readSaying_156 hC hO hR hf hX q18 h)
        · refine g_aload_n hC dX6_readSaying_73 rfl 0 rfl ?_
          refine g_aload_n hC dX6_readSaying_74 rfl 1 rfl ?_
          refine g_iload_n hC dX6_readSaying_75 rfl 2 rfl ?_
          refine g_iconst (v := 3) hC dX6_readSaying_76 (by decide) ?_
          refine g_bipush (v := 8) hC dX6_readSaying_77 (by decide) ?_
          refine g_iconst (v := 1) hC dX6_readSaying_79 (by decide) ?_
          obtain ⟨q19, hq19, h⟩ := bd_of h hf
          refine g_cVV (As := [.ref (E.2.2.1 x1), .int x2, .int 3, .int 8, .int 1]) hC hO (c_X6_readPair _ hC.2.2.2.2.2.2.1 t ht1 ht2 x1 hx1a hx1b x2 3 8 1 q8.2 (nn_of hq19)) gc_X6_94 (xk_X6_readPair _ (Nat.le_of_ble_eq_true rfl) (Nat.le_of_ble_eq_true rfl)) cr6 ht1 ht2 rfl (Nat.le_of_ble_eq_true rfl) dX6_readSaying_80 hq19 ?_
          refine g_goto (tgt := 156) hC dX6_readSaying_83 (by decide) ?_
          exact g_sub [] rfl (k_X6_readSaying_156 hC hO hR hf hX q19 h)
      · refine g_aload_n hC dX6_readSaying_46 rfl 0 rfl ?_
        refine g_aload_n hC dX6_readSaying_47 rfl 1 rfl ?_
        refine g_iload_n hC dX6_readSaying_48 rfl 2 rfl ?_
        refine g_iconst (v := 0) hC dX6_readSaying_49 (by decide) ?_
        refine g_aload_n hC dX6_readSaying_50 rfl 0 rfl ?_
        refine g_getI (k := 1) hC cr6 ui_6 ht1 ht2 (by decide) fl_X6_9 rfl rfl dX6_readSaying_51 ?_
        refine g_iconst (v := 2) hC dX6_readSaying_54 (by decide) ?_
        obtain ⟨q20, hq20, h⟩ := bd_of h hf
        refine g_cVV (As := [.ref (E.2.2.1 x1), .int x2, .int 0, .int (q6.2.1 t 1), .int 2]) hC hO (c_X6_readPair _ hC.2.2.2.2.2.2.1 t ht1 ht2 x1 hx1a hx1b x2 0 (q6.2.1 t 1) 2 q6.2 (nn_of hq20)) gc_X6_94 (xk_X6_readPair _ (Nat.le_of_ble_eq_true rfl) (Nat.le_of_ble_eq_true rfl)) cr6 ht1 ht2 rfl (Nat.le_of_ble_eq_true rfl) dX6_readSaying_55 hq20 ?_
        refine g_goto (tgt := 156) hC dX6_readSaying_58 (by decide) ?_
        exact g_sub [] rfl (k_X6_readSaying_156 hC hO hR hf hX q20 h)
    · refine g_aload_n hC dX6_readSaying_19 rfl 0 rfl ?_
      refine g_aload_n hC dX6_readSaying_20 rfl 1 rfl ?_
      refine g_iload_n hC dX6_readSaying_21 rfl 2 rfl ?_
      refine g_iconst (v := 0) hC dX6_readSaying_22 (by decide) ?_
      refine g_aload_n hC dX6_readSaying_23 rfl 0 rfl ?_
      refine g_getI (k := 1) hC cr6 ui_6 ht1 ht2 (by decide) fl_X6_9 rfl rfl dX6_readSaying_24 ?_
      refine g_iconst (v := 1) hC dX6_readSaying_27 (by decide) ?_
      obtain ⟨q21, hq21, h⟩ := bd_of h hf
      refine g_cVV (As := [.ref (E.2.2.1 x1), .int x2, .int 0, .int (q4.2.1 t 1), .int 1]) hC hO (c_X6_readPair _ hC.2.2.2.2.2.2.1 t ht1 ht2 x1 hx1a hx1b x2 0 (q4.2.1 t 1) 1 q4.2 (nn_of hq21)) gc_X6_94 (xk_X6_readPair _ (Nat.le_of_ble_eq_true rfl) (Nat.le_of_ble_eq_true rfl)) cr6 ht1 ht2 rfl (Nat.le_of_ble_eq_true rfl) dX6_readSaying_28 hq21 ?_
      refine g_goto (tgt := 156) hC dX6_readSaying_31 (by decide) ?_
      exact g_sub [] rfl (k_X6_readSaying_156 hC hO hR hf hX q21 h)
theorem xk_X6_readSaying (R : Room) (h1 : 5 + 1 ≤ R.frames) (h2 : 201 ≤ R.locals) : xw R yX6_readSaying w_X6_readSaying GT cX6_readSaying 3 none rm_X6_readSaying 2 := ⟨rfl, rfl, rfl, h1, h2, ⟨by decide, by decide⟩, by decide +kernel⟩
theorem c_X6_readSaying (E : ET) (hE : EO E) (K : KT) (t : Nat) (ht1 : kd t = 6) (ht2 : AL E t) (x1 : Nat) (hx1a : kd x1 = 0) (hx1b : AL E x1) (x2 : Int32) (σ : HS) (hn : f_X6_readSaying t x1 x2 σ ≠ none) : CsV E K yX6_readSaying w_X6_readSaying rm_X6_readSaying [.ref (E.2.2.1 t), .ref (E.2.2.1 x1), .int x2] σ (f_X6_readSaying t x1 x2 σ) := CsV.of (lv := [(0, .ref (E.2.2.1 t)), (1, .ref (E.2.2.1 x1)), (2, .int x2)]) hE (plainFor_of_name (by decide)) rfl (Nat.le_of_ble_eq_true rfl) rfl (fun F hC hO hR hX => k_X6_readSaying_0 hC hO hR hn hX t ht1 ht2 x1 hx1a hx1b x2 σ rfl)
def rm_X6_readStatement : Room := { frames := 6, cells := 0, slots := 0, locals := 201 }
theorem wc_X8_person : Cond.code yX8_person cX8_person 2 (some .int) ∈ GT := gtr_18 _ (List.mem_of_getElem? (i := 6) rfl)
theorem gc_X6_61 : GoodIn GT (wsV RX6 61 RX8 yX8_person w_X8_person) := gi_V (gtr_18 _ (List.mem_of_getElem? (i := 3) rfl)) (gtr_18 _ (List.mem_of_getElem? (i := 4) rfl)) (gtr_18 _ (List.mem_of_getElem? (i := 5) rfl)) (gtr_1 _ (List.mem_of_getElem? (i := 16) rfl)) wc_X8_person
theorem fl_X6_69 : Cond.fieldLink RX6 69 "EveryMeasure$Choice" (TX0 9).2.1 (TX0 9).2.2.1 ∈ GT := gtr_14 _ (List.mem_of_getElem? (i := 18) rfl)
theorem wc_X6_readSaying : Cond.code yX6_readSaying cX6_readSaying 3 none ∈ GT := gtr_18 _ (List.mem_of_getElem? (i := 10) rfl)
theorem gc_X6_72 : GoodIn GT (wsV RX6 72 RX6 yX6_readSaying w_X6_readSaying) := gi_V (gtr_18 _ (List.mem_of_getElem? (i := 7) rfl)) (gtr_18 _ (List.mem_of_getElem? (i := 8) rfl)) (gtr_18 _ (List.mem_of_getElem? (i := 9) rfl)) (gtr_1 _ (List.mem_of_getElem? (i := 20) rfl)) wc_X6_readSaying
theorem wc_X6_takeSemicolon : Cond.code yX6_takeSemicolon cX6_takeSemicolon 1 none ∈ GT := gtr_19 _ (List.mem_of_getElem? (i := 6) rfl)
theorem gc_X6_76 : GoodIn GT (wsV RX6 76 RX6 yX6_takeSemicolon w_X6_takeSemicolon) := gi_V (gtr_19 _ (List.mem_of_getElem? (i := 3) rfl)) (gtr_19 _ (List.mem_of_getElem? (i := 4) rfl)) (gtr_19 _ (List.mem_of_getElem? (i := 5) rfl)) (gtr_1 _ (List.mem_of_getElem? (i := 20) rfl)) wc_X6_takeSemicolon
theorem fl_X6_59 : Cond.fieldLink RX6 59 "EveryMeasure$Choice" (TX0 2).2.1 (TX0 2).2.2.1 ∈ GT := gtr_14 _ (List.mem_of_getElem? (i := 17) rfl)
theorem wc_X6_readLimit : Cond.code yX6_readLimit cX6_readLimit 4 none ∈ GT := gtr_18 _ (List.mem_of_getElem? (i := 2) rfl)
theorem gc_X6_53 : GoodIn GT (wsV RX6 53 RX6 yX6_readLimit w_X6_readLimit) := gi_V (gtr_17 _ (List.mem_of_getElem? (i := 23) rfl)) (gtr_18 _ (List.mem_of_getElem? (i := 0) rfl)) (gtr_18 _ (List.mem_of_getElem? (i := 1) rfl)) (gtr_1 _ (List.mem_of_getElem? (i := 20) rfl)) wc_X6_readLimit
theorem fl_X6_50 : Cond.fieldLink RX6 50 "EveryMeasure$Choice" (TX0 1).2.1 (TX0 1).2.2.1 ∈ GT := gtr_14 _ (List.mem_of_getElem? (i := 16) rfl)
theorem wc_X6_readLess : Cond.code yX6_readLess cX6_readLess 3 none ∈ GT := gtr_17 _ (List.mem_of_getElem? (i := 3) rfl)
theorem gc_X6_45 : GoodIn GT (wsV RX6 45 RX6 yX6_readLess w_X6_readLess) := gi_V (gtr_17 _ (List.mem_of_getElem? (i := 0) rfl)) (gtr_17 _ (List.mem_of_getElem? (i := 1) rfl)) (gtr_17 _ (List.mem_of_getElem? (i := 2) rfl)) (gtr_1 _ (List.mem_of_getElem? (i := 20) rfl)) wc_X6_readLess
set_option maxHeartbeats 4000000 in
set_option maxRecDepth 100000 in
theorem k_X6_readStatement_114 {E : ET} {F : FT} {fo : Option HS} (hC : Cx E F 2 cX6_readStatement RX6 GT) (hO : Ro F rm_X6_readStatement) (hR : RV E F fo) (hf : fo ≠ none) {K : KT} (hX : KS K F.1.2.2.2.2.2.1 F.1.2.2.2.1) (t : Nat) (ht1 : kd t = 6) (ht2 : AL E t) (σ : HS) (h : f_X6_readStatement_114 t σ = fo) : G E F 114 [(0, .ref (E.2.2.1 t))] [] σ := by
    refine g_aload_n hC dX6_readStatement_114 rfl 0 rfl ?_
    obtain ⟨q1, hq1, h⟩ := bd_of h hf
    refine g_cVV (As := []) hC hO (c_X6_takeSemicolon _ hC.2.2.2.2.2.2.1 t ht1 ht2 σ (nn_of hq1)) gc_X6_76 (xk_X6_takeSemicolon _ (Nat.le_of_ble_eq_true rfl) (Nat.le_of_ble_eq_true rfl)) cr6 ht1 ht2 rfl (Nat.le_of_ble_eq_true rfl) dX6_readStatement_115 hq1 ?_
    exact g_vret hC hR dX6_readStatement_118 h
set_option maxHeartbeats 4000000 in
set_option maxRecDepth 100000 in
theorem k_X6_readStatement_0 {E : ET} {F : FT} {fo : Option HS} (hC : Cx E F 2 cX6_readStatement RX6 GT) (hO : Ro F rm_X6_readStatement) (hR : RV E F fo) (hf : fo ≠ none) {K : KT} (hX : KS K F.1.2.2.2.2.2.1 F.1.2.2.2.1) (t : Nat) (ht1 : kd t = 6) (ht2 : AL E t) (x1 : Nat) (hx1a : kd x1 = 0) (hx1b : AL E x1) (σ : HS) (h : f_X6_readStatement t x1 σ = fo) : G E F 0 [(0, .ref (E.2.2.1 t)), (1, .ref (E.2.2.1 x1))] [] σ := by
    refine g_aload_n hC dX6_readStatement_0 rfl 0 rfl ?_
    refine g_getR (cj := 8) (k := 0) hC cr6 ui_6 ht1 ht2 (by decide) fl_X6_18 rfl rfl dX6_readStatement_1 h hf (fun a1 ea1 ka1 na1 h => ?_)
    refine g_ldcS (i := 0) hC hX (by decide) dX6_readStatement_4 ?_
    obtain ⟨q2, hq2, h⟩ := bd_of h hf
    refine g_xVI (As := [.ref (K.1 0)]) hC hO hX (c_X8_says _ hC.2.2.2.2.2.2.1 K 0 (by decide) a1 ka1 na1 σ (nn_of hq2)) gc_X6_41 (xk_X8_says _ (Nat.le_of_ble_eq_true rfl) (Nat.le_of_ble_eq_true rfl)) (rb_al hC cr8 ka1 na1) rfl (Nat.le_of_ble_eq_true rfl) dX6_readStatement_6 hq2 ?_
    refine g_if_eq (tgt := 20) hC dX6_readStatement_9 (by decide) h (fun c9 h => ?_) (fun c9 h => ?_)
    · refine g_aload_n hC dX6_readStatement_20 rfl 0 rfl ?_
      refine g_getR (cj := 8) (k := 0) hC cr6 ui_6 ht1 ht2 (by decide) fl_X6_18 rfl rfl dX6_readStatement_21 h hf (fun a3 ea3 ka3 na3 h => ?_)
      refine g_ldcS (i := 1) hC hX (by decide) dX6_readStatement_24 ?_
      obtain ⟨q4, hq4, h⟩ := bd_of h hf
      refine g_xVI (As := [.ref (K.1 1)]) hC hO hX (c_X8_says _ hC.2.2.2.2.2.2.1 K 1 (by decide) a3 ka3 na3 q2.2 (nn_of hq4)) gc_X6_41 (xk_X8_says _ (Nat.le_of_ble_eq_true rfl) (Nat.le_of_ble_eq_true rfl)) (rb_al hC cr8 ka3 na3) rfl (Nat.le_of_ble_eq_true rfl) dX6_readStatement_26 hq4 ?_
      refine g_if_eq (tgt := 43) hC dX6_readStatement_29 (by decide) h (fun c29 h => ?_) (fun c29 h => ?_)
      · refine g_aload_n hC dX6_readStatement_43 rfl 0 rfl ?_
        refine g_getR (cj := 8) (k := 0) hC cr6 ui_6 ht1 ht2 (by decide) fl_X6_18 rfl rfl dX6_readStatement_44 h hf (fun a5 ea5 ka5 na5 h => ?_)
        refine g_ldcS (i := 2) hC hX (by decide) dX6_readStatement_47 ?_
        obtain ⟨q6, hq6, h⟩ := bd_of h hf
        refine g_xVI (As := [.ref (K.1 2)]) hC hO hX (c_X8_says _ hC.2.2.2.2.2.2.1 K 2 (by decide) a5 ka5 na5 q4.2 (nn_of hq6)) gc_X6_41 (xk_X8_says _ (Nat.le_of_ble_eq_true rfl) (Nat.le_of_ble_eq_true rfl)) (rb_al hC cr8 ka5 na5) rfl (Nat.le_of_ble_eq_true rfl) dX6_readStatement_49 hq6 ?_
        refine g_if_eq (tgt := 66) hC dX6_readStatement_52 (by decide) h (fun c52 h => ?_) (fun c52 h => ?_)
        · refine g_aload_n hC dX6_readStatement_66 rfl 0 rfl ?_
          refine g_getR (cj := 8) (k := 0) hC cr6 ui_6 ht1 ht2 (by decide) fl_X6_18 rfl rfl dX6_readStatement_67 h hf (fun a7 ea7 ka7 na7 h => ?_)
          obtain ⟨q8, hq8, h⟩ := bd_of h hf
          refine g_cVI (As := []) hC hO (c_X8_person _ hC.2.2.2.2.2.2.1 a7 ka7 na7 q6.2 (nn_of hq8)) gc_X6_61 (xk_X8_person _ (Nat.le_of_ble_eq_true rfl) (Nat.le_of_ble_eq_true rfl)) cr8 ka7 na7 rfl (Nat.le_of_ble_eq_true rfl) dX6_readStatement_70 hq8 ?_
          refine g_iconst (v := (-1)) hC dX6_readStatement_73 (by decide) ?_
          refine g_icmp_ne (tgt := 85) hC dX6_readStatement_74 (by decide) h (fun c74 h => ?_) (fun c74 h => ?_)
          · refine g_aload_n hC dX6_readStatement_85 rfl 1 rfl ?_
            refine g_getI (k := 9) hC cr0 ui_0 hx1a hx1b (by decide) fl_X6_69 rfl rfl dX6_readStatement_86 ?_
            refine g_bipush (v := 12) hC dX6_readStatement_89 (by decide) ?_
            refine g_icmp_lt (tgt := 102) hC dX6_readStatement_91 (by decide) h (fun c91 h => ?_) (fun c91 h => ?_)
            · refine g_aload_n hC dX6_readStatement_102 rfl 0 rfl ?_
              refine g_aload_n hC dX6_readStatement_103 rfl 1 rfl ?_
              refine g_aload_n hC dX6_readStatement_104 rfl 0 rfl ?_
              refine g_getR (cj := 8) (k := 0) hC cr6 ui_6 ht1 ht2 (by decide) fl_X6_18 rfl rfl dX6_readStatement_105 h hf (fun a9 ea9 ka9 na9 h => ?_)
              obtain ⟨q10, hq10, h⟩ := bd_of h hf
              refine g_cVI (As := []) hC hO (c_X8_person _ hC.2.2.2.2.2.2.1 a9 ka9 na9 q8.2 (nn_of hq10)) gc_X6_61 (xk_X8_person _ (Nat.le_of_ble_eq_true rfl) (Nat.le_of_ble_eq_true rfl)) cr8 ka9 na9 rfl (Nat.le_of_ble_eq_true rfl) dX6_readStatement_108 hq10 ?_
              obtain ⟨q11, hq11, h⟩ := bd_of h hf
              refine g_xVV (As := [.ref (E.2.2.1 x1), .int q10.1]) hC hO hX (c_X6_readSaying _ hC.2.2.2.2.2.2.1 K t ht1 ht2 x1 hx1a hx1b q10.1 q10.2 (nn_of hq11)) gc_X6_72 (xk_X6_readSaying _ (Nat.le_of_ble_eq_true rfl) (Nat.le_of_ble_eq_true rfl)) (rb_al hC cr6 ht1 ht2) rfl (Nat.le_of_ble_eq_true rfl) dX6_readStatement_111 hq11 ?_
              exact g_sub [0] rfl (k_X6_readStatement_114 hC hO hR hf hX t ht1 ht2 q11 h)
            · refine g_aload_n hC dX6_readStatement_94 rfl 0 rfl ?_
              refine g_iconst (v := 5) hC dX6_readStatement_95 (by decide) ?_
              obtain ⟨q12, hq12, h⟩ := bd_of h hf
              refine g_cVV (As := [.int 5]) hC hO (c_X6_wrong _ hC.2.2.2.2.2.2.1 t ht1 ht2 5 q8.2 (nn_of hq12)) gc_X6_65 (xk_X6_wrong _ (Nat.le_of_ble_eq_true rfl) (Nat.le_of_ble_eq_true rfl)) cr6 ht1 ht2 rfl (Nat.le_of_ble_eq_true rfl) dX6_readStatement_96 hq12 ?_
              refine g_goto (tgt := 114) hC dX6_readStatement_99 (by decide) ?_
              exact g_sub [0] rfl (k_X6_readStatement_114 hC hO hR hf hX t ht1 ht2 q12 h)
          · refine g_aload_n hC dX6_readStatement_77 rfl 0 rfl ?_
            refine g_iconst (v := 1) hC dX6_readStatement_78 (by decide) ?_
            obtain ⟨q13, hq13, h⟩ := bd_of h hf
            refine g_cVV (As := [.int 1]) hC hO (c_X6_wrong _ hC.2.2.2.2.2.2.1 t ht1 ht2 1 q8.2 (nn_of hq13)) gc_X6_65 (xk_X6_wrong _ (Nat.le_of_ble_eq_true rfl) (Nat.le_of_ble_eq_true rfl)) cr6 ht1 ht2 rfl (Nat.le_of_ble_eq_true rfl) dX6_readStatement_79 hq13 ?_
            refine g_goto (tgt := 114) hC dX6_readStatement_82 (by decide) ?_
            exact g_sub [0] rfl (k_X6_readStatement_114 hC hO hR hf hX t ht1 ht2 q13 h)
        · refine g_aload_n hC dX6_readStatement_55 rfl 0 rfl ?_
          refine g_aload_n hC dX6_readStatement_56 rfl 1 rfl ?_
          refine g_getR (cj := 14) (k := 2) hC cr0 ui_0 hx1a hx1b (by decide) fl_X6_59 rfl rfl dX6_readStatement_57 h hf (fun a14 ea14 ka14 na14 h => ?_)
          obtain ⟨q15, hq15, h⟩ := bd_of h hf
          refine g_cVV (As := [.ref (E.2.2.1 a14)]) hC hO (c_X6_readLimit _ hC.2.2.2.2.2.2.1 t ht1 ht2 a14 ka14 na14 q6.2 (nn_of hq15)) gc_X6_53 (xk_X6_readLimit _ (Nat.le_of_ble_eq_true rfl) (Nat.le_of_ble_eq_true rfl)) cr6 ht1 ht2 rfl (Nat.le_of_ble_eq_true rfl) dX6_readStatement_60 hq15 ?_
          refine g_goto (tgt := 114) hC dX6_readStatement_63 (by decide) ?_
          exact g_sub [0] rfl (k_X6_readStatement_114 hC hO hR hf hX t ht1 ht2 q15 h)
      · refine g_aload_n hC dX6_readStatement_32 rfl 0 rfl ?_
        refine g_aload_n hC dX6_readStatement_33 rfl 1 rfl ?_
        refine g_getR (cj := 14) (k := 1) hC cr0 ui_0 hx1a hx1b (by decide) fl_X6_50 rfl rfl dX6_readStatement_34 h hf (fun a16 ea16 ka16 na16 h => ?_)
        obtain ⟨q17, hq17, h⟩ := bd_of h hf
        refine g_cVV (As := [.ref (E.2.2.1 a16)]) hC hO (c_X6_readLimit _ hC.2.2.2.2.2.2.1 t ht1 ht2 a16 ka16 na16 q4.2 (nn_of hq17)) gc_X6_53 (xk_X6_readLimit _ (Nat.le_of_ble_eq_true rfl) (Nat.le_of_ble_eq_true rfl)) cr6 ht1 ht2 rfl (Nat.le_of_ble_eq_true rfl) dX6_readStatement_37 hq17 ?_
        refine g_goto (tgt := 114) hC dX6_readStatement_40 (by decide) ?_
        exact g_sub [0] rfl (k_X6_readStatement_114 hC hO hR hf hX t ht1 ht2 q17 h)
    · refine g_aload_n hC dX6_readStatement_12 rfl 0 rfl ?_
      refine g_aload_n hC dX6_readStatement_13 rfl 1 rfl ?_
      obtain ⟨q18, hq18, h⟩ := bd_of h hf
      refine g_cVV (As := [.ref (E.2.2.1 x1)]) hC hO (c_X6_readLess _ hC.2.2.2.2.2.2.1 t ht1 ht2 x1 hx1a hx1b q2.2 (nn_of hq18)) gc_X6_45 (xk_X6_readLess _ (Nat.le_of_ble_eq_true rfl) (Nat.le_of_ble_eq_true rfl)) cr6 ht1 ht2 rfl (Nat.le_of_ble_eq_true rfl) dX6_readStatement_14 hq18 ?_
      refine g_goto (tgt := 114) hC dX6_readStatement_17 (by decide) ?_
      exact g_sub [0] rfl (k_X6_readStatement_114 hC hO hR hf hX t ht1 ht2 q18 h)
theorem xk_X6_readStatement (R : Room) (h1 : 6 + 1 ≤ R.frames) (h2 : 234 ≤ R.locals) : xw R yX6_readStatement w_X6_readStatement GT cX6_readStatement 2 none rm_X6_readStatement 1 := ⟨rfl, rfl, rfl, h1, h2, ⟨by decide, by decide⟩, by decide +kernel⟩
theorem c_X6_readStatement (E : ET) (hE : EO E) (K : KT) (t : Nat) (ht1 : kd t = 6) (ht2 : AL E t) (x1 : Nat) (hx1a : kd x1 = 0) (hx1b : AL E x1) (σ : HS) (hn : f_X6_readStatement t x1 σ ≠ none) : CsV E K yX6_readStatement w_X6_readStatement rm_X6_readStatement [.ref (E.2.2.1 t), .ref (E.2.2.1 x1)] σ (f_X6_readStatement t x1 σ) := CsV.of (lv := [(0, .ref (E.2.2.1 t)), (1, .ref (E.2.2.1 x1))]) hE (plainFor_of_name (by decide)) rfl (Nat.le_of_ble_eq_true rfl) rfl (fun F hC hO hR hX => k_X6_readStatement_0 hC hO hR hn hX t ht1 ht2 x1 hx1a hx1b σ rfl)
def rm_X6_read : Room := { frames := 7, cells := 0, slots := 0, locals := 234 }
theorem gc_X6_22 : GoodIn GT (wsV RX6 22 RX0 yX0_clear w_X0_clear) := gi_V (gtr_13 _ (List.mem_of_getElem? (i := 20) rfl)) (gtr_8 _ (List.mem_of_getElem? (i := 9) rfl)) (gtr_8 _ (List.mem_of_getElem? (i := 10) rfl)) (gtr_3 _ (List.mem_of_getElem? (i := 9) rfl)) wc_X0_clear
theorem wc_X8_rewind : Cond.code yX8_rewind cX8_rewind 1 none ∈ GT := gtr_14 _ (List.mem_of_getElem? (i := 0) rfl)
theorem gc_X6_27 : GoodIn GT (wsV RX6 27 RX8 yX8_rewind w_X8_rewind) := gi_V (gtr_13 _ (List.mem_of_getElem? (i := 21) rfl)) (gtr_13 _ (List.mem_of_getElem? (i := 22) rfl)) (gtr_13 _ (List.mem_of_getElem? (i := 23) rfl)) (gtr_1 _ (List.mem_of_getElem? (i := 16) rfl)) wc_X8_rewind
theorem wc_X6_readStatement : Cond.code yX6_readStatement cX6_readStatement 2 none ∈ GT := gtr_14 _ (List.mem_of_getElem? (i := 15) rfl)
theorem gc_X6_35 : GoodIn GT (wsV RX6 35 RX6 yX6_readStatement w_X6_readStatement) := gi_V (gtr_14 _ (List.mem_of_getElem? (i := 12) rfl)) (gtr_14 _ (List.mem_of_getElem? (i := 13) rfl)) (gtr_14 _ (List.mem_of_getElem? (i := 14) rfl)) (gtr_1 _ (List.mem_of_getElem? (i := 20) rfl)) wc_X6_readStatement
set_option maxHeartbeats 4000000 in
set_option maxRecDepth 100000 in
theorem k_X6_read_58 {E : ET} {F : FT} {fo : Option (Int32 × HS)} (hC : Cx E F 4 cX6_read RX6 GT) (hO : Ro F rm_X6_read) (hR : RI E F .int fo) (hf : fo ≠ none) {K : KT} (hX : KS K F.1.2.2.2.2.2.1 F.1.2.2.2.1) (t : Nat) (ht1 : kd t = 6) (ht2 : AL E t) (σ : HS) (h : f_X6_read_58 t σ = fo) : G E F 58 [(0, .ref (E.2.2.1 t))] [] σ := by
    refine g_aload_n hC dX6_read_58 rfl 0 rfl ?_
    refine g_getI (k := 2) hC cr6 ui_6 ht1 ht2 (by decide) fl_X6_15 rfl rfl dX6_read_59 ?_
    exact g_iret hC hR dX6_read_62 rfl h
set_option maxHeartbeats 4000000 in
set_option maxRecDepth 100000 in
theorem k_X6_read_23 {E : ET} {F : FT} {fo : Option (Int32 × HS)} (hC : Cx E F 4 cX6_read RX6 GT) (hO : Ro F rm_X6_read) (hR : RI E F .int fo) (hf : fo ≠ none) {K : KT} (hX : KS K F.1.2.2.2.2.2.1 F.1.2.2.2.1) (t : Nat) (ht1 : kd t = 6) (ht2 : AL E t) (x1 : Nat) (hx1a : kd x1 = 0) (hx1b : AL E x1) : ∀ (n : Nat) (x3 : Int32) (σ : HS), f_X6_read_23 t x1 n x3 σ = fo → G E F 23 [(0, .ref (E.2.2.1 t)), (1, .ref (E.2.2.1 x1)), (3, .int x3)] [] σ := by
  intro n
  induction n with
  | zero =>
    intro x3 σ h
    exact absurd (h.symm.trans rfl) hf
  | succ n ih =>
    intro x3 σ h
    refine g_iload_n hC dX6_read_23 rfl 2 rfl ?_
    refine g_sipush (v := 1000) hC dX6_read_24 (by decide) ?_
    refine g_icmp_ge (tgt := 58) hC dX6_read_27 (by decide) h (fun c27 h => ?_) (fun c27 h => ?_)
    · exact g_sub [0] rfl (k_X6_read_58 hC hO hR hf hX t ht1 ht2 σ h)
    · refine g_aload_n hC dX6_read_30 rfl 0 rfl ?_
      refine g_getI (k := 2) hC cr6 ui_6 ht1 ht2 (by decide) fl_X6_15 rfl rfl dX6_read_31 ?_
      refine g_if_ne (tgt := 58) hC dX6_read_34 (by decide) h (fun c34 h => ?_) (fun c34 h => ?_)
      · exact g_sub [0] rfl (k_X6_read_58 hC hO hR hf hX t ht1 ht2 σ h)
      · refine g_aload_n hC dX6_read_37 rfl 0 rfl ?_
        refine g_getR (cj := 8) (k := 0) hC cr6 ui_6 ht1 ht2 (by decide) fl_X6_18 rfl rfl dX6_read_38 h hf (fun a1 ea1 ka1 na1 h => ?_)
        refine g_getI (k := 2) hC cr8 ui_8 ka1 na1 (by decide) fl_X6_32 rfl rfl dX6_read_41 ?_
        refine g_if_eq (tgt := 58) hC dX6_read_44 (by decide) h (fun c44 h => ?_) (fun c44 h => ?_)
        · exact g_sub [0] rfl (k_X6_read_58 hC hO hR hf hX t ht1 ht2 σ h)
        · refine g_aload_n hC dX6_read_47 rfl 0 rfl ?_
          refine g_aload_n hC dX6_read_48 rfl 1 rfl ?_
          obtain ⟨q2, hq2, h⟩ := bd_of h hf
          refine g_xVV (As := [.ref (E.2.2.1 x1)]) hC hO hX (c_X6_readStatement _ hC.2.2.2.2.2.2.1 K t ht1 ht2 x1 hx1a hx1b σ (nn_of hq2)) gc_X6_35 (xk_X6_readStatement _ (Nat.le_of_ble_eq_true rfl) (Nat.le_of_ble_eq_true rfl)) (rb_al hC cr6 ht1 ht2) rfl (Nat.le_of_ble_eq_true rfl) dX6_read_49 hq2 ?_
          refine g_iinc (v := x3 + 1) (lv' := [(3, .int (x3 + 1)), (0, .ref (E.2.2.1 t)), (1, .ref (E.2.2.1 x1))]) hC dX6_read_52 2 rfl rfl (by decide) rfl ?_
          refine g_goto (tgt := 23) hC dX6_read_55 (by decide) ?_
          exact g_sub [1, 2, 0] rfl (ih (x3 + 1) q2 h)
set_option maxHeartbeats 4000000 in
set_option maxRecDepth 100000 in
theorem k_X6_read_0 {E : ET} {F : FT} {fo : Option (Int32 × HS)} (hC : Cx E F 4 cX6_read RX6 GT) (hO : Ro F rm_X6_read) (hR : RI E F .int fo) (hf : fo ≠ none) {K : KT} (hX : KS K F.1.2.2.2.2.2.1 F.1.2.2.2.1) (t : Nat) (ht1 : kd t = 6) (ht2 : AL E t) (x1 : Nat) (hx1a : kd x1 = 0) (hx1b : AL E x1) (x2 : Int32) (σ : HS) (h : f_X6_read t x1 x2 σ = fo) : G E F 0 [(0, .ref (E.2.2.1 t)), (1, .ref (E.2.2.1 x1)), (2, .int x2)] [] σ := by
    refine g_aload_n hC dX6_read_0 rfl 0 rfl ?_
    refine g_iload_n hC dX6_read_1 rfl 2 rfl ?_
    refine g_putI (k := 1) hC cr6 ui_6 tyX6_ok nmX6 ht1 ht2 (by decide) fl_X6_9 rfl rfl rfl rfl dX6_read_2 ?_
    refine g_aload_n hC dX6_read_5 rfl 0 rfl ?_
    refine g_iconst (v := 0) hC dX6_read_6 (by decide) ?_
    refine g_putI (k := 2) hC cr6 ui_6 tyX6_ok nmX6 ht1 ht2 (by decide) fl_X6_15 rfl rfl rfl rfl dX6_read_7 ?_
    refine g_aload_n hC dX6_read_10 rfl 1 rfl ?_
    obtain ⟨q1, hq1, h⟩ := bd_of h hf
    refine g_cVV (As := []) hC hO (c_X0_clear _ hC.2.2.2.2.2.2.1 x1 hx1a hx1b (sI (sI σ t 1 x2) t 2 0) (nn_of hq1)) gc_X6_22 (xk_X0_clear _ (Nat.le_of_ble_eq_true rfl) (Nat.le_of_ble_eq_true rfl)) cr0 hx1a hx1b rfl (Nat.le_of_ble_eq_true rfl) dX6_read_11 hq1 ?_
    refine g_aload_n hC dX6_read_14 rfl 0 rfl ?_
    refine g_getR (cj := 8) (k := 0) hC cr6 ui_6 ht1 ht2 (by decide) fl_X6_18 rfl rfl dX6_read_15 h hf (fun a2 ea2 ka2 na2 h => ?_)
    obtain ⟨q3, hq3, h⟩ := bd_of h hf
    refine g_cVV (As := []) hC hO (c_X8_rewind _ hC.2.2.2.2.2.2.1 a2 ka2 na2 q1 (nn_of hq3)) gc_X6_27 (xk_X8_rewind _ (Nat.le_of_ble_eq_true rfl) (Nat.le_of_ble_eq_true rfl)) cr8 ka2 na2 rfl (Nat.le_of_ble_eq_true rfl) dX6_read_18 hq3 ?_
    refine g_iconst (v := 0) hC dX6_read_21 (by decide) ?_
    refine g_istore_n (lv' := [(3, .int 0), (0, .ref (E.2.2.1 t)), (1, .ref (E.2.2.1 x1)), (2, .int x2)]) hC dX6_read_22 rfl (by decide) rfl ?_
    exact g_sub [1, 2, 0] rfl (k_X6_read_23 hC hO hR hf hX t ht1 ht2 x1 hx1a hx1b FU 0 q3 h)
theorem xk_X6_read (R : Room) (h1 : 7 + 1 ≤ R.frames) (h2 : 269 ≤ R.locals) : xw R yX6_read w_X6_read GT cX6_read 4 (some .int) rm_X6_read 2 := ⟨rfl, rfl, rfl, h1, h2, ⟨by decide, by decide⟩, by decide +kernel⟩
theorem c_X6_read (E : ET) (hE : EO E) (K : KT) (t : Nat) (ht1 : kd t = 6) (ht2 : AL E t) (x1 : Nat) (hx1a : kd x1 = 0) (hx1b : AL E x1) (x2 : Int32) (σ : HS) (hn : f_X6_read t x1 x2 σ ≠ none) : CsI E K yX6_read w_X6_read rm_X6_read [.ref (E.2.2.1 t), .ref (E.2.2.1 x1), .int x2] σ (f_X6_read t x1 x2 σ) := CsI.of (lv := [(0, .ref (E.2.2.1 t)), (1, .ref (E.2.2.1 x1)), (2, .int x2)]) hE (plainFor_of_name (by decide)) rfl (Nat.le_of_ble_eq_true rfl) rfl (fun F hC hO hR hX => k_X6_read_0 hC hO hR hn hX t ht1 ht2 x1 hx1a hx1b x2 σ rfl)
def rm_X11_choice : Room := { frames := 8, cells := 0, slots := 0, locals := 269 }
theorem wc_X6_read : Cond.code yX6_read cX6_read 4 (some .int) ∈ GT := gtr_13 _ (List.mem_of_getElem? (i := 18) rfl)
theorem gc_X11_137 : GoodIn GT (wsV RX11 137 RX6 yX6_read w_X6_read) := gi_V (gtr_13 _ (List.mem_of_getElem? (i := 15) rfl)) (gtr_13 _ (List.mem_of_getElem? (i := 16) rfl)) (gtr_13 _ (List.mem_of_getElem? (i := 17) rfl)) (gtr_1 _ (List.mem_of_getElem? (i := 20) rfl)) wc_X6_read
set_option maxHeartbeats 4000000 in
set_option maxRecDepth 100000 in
theorem k_X11_choice_51 {E : ET} {F : FT} {fo : Option (Int32 × HS)} (hC : Cx E F 3 cX11_choice RX11 GT) (hO : Ro F rm_X11_choice) (hR : RI E F .int fo) (hf : fo ≠ none) {K : KT} (hX : KS K F.1.2.2.2.2.2.1 F.1.2.2.2.1) (x1 : Int32) (σ : HS) (h : f_X11_choice_51 x1 σ = fo) : G E F 51 [(1, .int x1)] [] σ := by
    refine g_iload_n hC dX11_choice_51 rfl 0 rfl ?_
    exact g_iret hC hR dX11_choice_52 rfl h
set_option maxHeartbeats 4000000 in
set_option maxRecDepth 100000 in
theorem k_X11_choice_0 {E : ET} {F : FT} {fo : Option (Int32 × HS)} (hC : Cx E F 3 cX11_choice RX11 GT) (hO : Ro F rm_X11_choice) (hR : RI E F .int fo) (hf : fo ≠ none) {K : KT} (hX : KS K F.1.2.2.2.2.2.1 F.1.2.2.2.1) (t : Nat) (ht1 : kd t = 11) (ht2 : AL E t) (σ : HS) (h : f_X11_choice t σ = fo) : G E F 0 [(0, .ref (E.2.2.1 t))] [] σ := by
    refine g_aload_n hC dX11_choice_0 rfl 0 rfl ?_
    refine g_getR (cj := 6) (k := 1) hC cr11 ui_11 ht1 ht2 (by decide) fl_X11_21 rfl rfl dX11_choice_1 h hf (fun a1 ea1 ka1 na1 h => ?_)
    refine g_aload_n hC dX11_choice_4 rfl 0 rfl ?_
    refine g_getR (cj := 0) (k := 15) hC cr11 ui_11 ht1 ht2 (by decide) fl_X11_100 rfl rfl dX11_choice_5 h hf (fun a2 ea2 ka2 na2 h => ?_)
    refine g_aload_n hC dX11_choice_8 rfl 0 rfl ?_
    refine g_getI (k := 16) hC cr11 ui_11 ht1 ht2 (by decide) fl_X11_134 rfl rfl dX11_choice_9 ?_
    obtain ⟨q3, hq3, h⟩ := bd_of h hf
    refine g_xVI (As := [.ref (E.2.2.1 a2), .int (σ.1 t 16)]) hC hO hX (c_X6_read _ hC.2.2.2.2.2.2.1 K a1 ka1 na1 a2 ka2 na2 (σ.1 t 16) σ (nn_of hq3)) gc_X11_137 (xk_X6_read _ (Nat.le_of_ble_eq_true rfl) (Nat.le_of_ble_eq_true rfl)) (rb_al hC cr6 ka1 na1) rfl (Nat.le_of_ble_eq_true rfl) dX11_choice_12 hq3 ?_
    refine g_istore_n (lv' := [(1, .int q3.1), (0, .ref (E.2.2.1 t))]) hC dX11_choice_15 rfl (by decide) rfl ?_
    refine g_aload_n hC dX11_choice_16 rfl 1 rfl ?_
    refine g_getR (cj := 8) (k := 0) hC cr11 ui_11 ht1 ht2 (by decide) fl_X11_10 rfl rfl dX11_choice_17 h hf (fun a4 ea4 ka4 na4 h => ?_)
    refine g_iconst (v := 0) hC dX11_choice_20 (by decide) ?_
    refine g_putI (k := 1) hC cr8 ui_8 tyX8_ok nmX8 ka4 na4 (by decide) fl_X11_131 rfl rfl rfl rfl dX11_choice_21 ?_
    refine g_iload_n hC dX11_choice_24 rfl 0 rfl ?_
    refine g_if_ne (tgt := 51) hC dX11_choice_25 (by decide) h (fun c25 h => ?_) (fun c25 h => ?_)
    · exact g_sub [0] rfl (k_X11_choice_51 hC hO hR hf hX q3.1 (sI q3.2 a4 1 0) h)
    · refine g_aload_n hC dX11_choice_28 rfl 1 rfl ?_
      refine g_getR (cj := 0) (k := 14) hC cr11 ui_11 ht1 ht2 (by decide) fl_X11_96 rfl rfl dX11_choice_29 h hf (fun a5 ea5 ka5 na5 h => ?_)
      refine g_astore_n (lv' := [(2, .ref (E.2.2.1 a5)), (1, .int q3.1), (0, .ref (E.2.2.1 t))]) hC dX11_choice_32 rfl (by decide) rfl ?_
      refine g_aload_n hC dX11_choice_33 rfl 2 rfl ?_
      refine g_aload_n hC dX11_choice_34 rfl 2 rfl ?_
      refine g_getR (cj := 0) (k := 15) hC cr11 ui_11 ht1 ht2 (by decide) fl_X11_100 rfl rfl dX11_choice_35 h hf (fun a6 ea6 ka6 na6 h => ?_)
      refine g_putR (k := 14) hC cr11 ui_11 tyX11_ok nmX11 ht1 ht2 na6 (by decide) fl_X11_96 rfl rfl rfl rfl dX11_choice_38 ?_
      refine g_aload_n hC dX11_choice_41 rfl 2 rfl ?_
      refine g_aload_n hC dX11_choice_42 rfl 0 rfl ?_
      refine g_putR (k := 15) hC cr11 ui_11 tyX11_ok nmX11 ht1 ht2 na5 (by decide) fl_X11_100 rfl rfl rfl rfl dX11_choice_43 ?_
      refine g_aload_n hC dX11_choice_46 rfl 2 rfl ?_
      refine g_iconst (v := 1) hC dX11_choice_47 (by decide) ?_
      refine g_putZ (k := 18) hC cr11 ui_11 tyX11_ok nmX11 ht1 ht2 (by decide) fl_X11_115 rfl rfl rfl rfl dX11_choice_48 (by decide) ?_
      exact g_sub [1] rfl (k_X11_choice_51 hC hO hR hf hX q3.1 (sI (sR (sR (sI q3.2 a4 1 0) t 14 (some a6)) t 15 (some a5)) t 18 1) h)
theorem xk_X11_choice (R : Room) (h1 : 8 + 1 ≤ R.frames) (h2 : 303 ≤ R.locals) : xw R yX11_choice w_X11_choice GT cX11_choice 3 (some .int) rm_X11_choice 0 := ⟨rfl, rfl, rfl, h1, h2, ⟨by decide, by decide⟩, by decide +kernel⟩
theorem c_X11_choice (E : ET) (hE : EO E) (K : KT) (t : Nat) (ht1 : kd t = 11) (ht2 : AL E t) (σ : HS) (hn : f_X11_choice t σ ≠ none) : CsI E K yX11_choice w_X11_choice rm_X11_choice [.ref (E.2.2.1 t)] σ (f_X11_choice t σ) := CsI.of (lv := [(0, .ref (E.2.2.1 t))]) hE (plainFor_of_name (by decide)) rfl (Nat.le_of_ble_eq_true rfl) rfl (fun F hC hO hR hX => k_X11_choice_0 hC hO hR hn hX t ht1 ht2 σ rfl)
