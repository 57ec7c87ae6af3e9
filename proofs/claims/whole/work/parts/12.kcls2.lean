def rm_X4_brokenPlace : Room := { frames := 3, cells := 0, slots := 0, locals := 126 }
set_option maxHeartbeats 4000000 in
set_option maxRecDepth 100000 in
theorem k_X4_brokenPlace_24 {E : ET} {F : FT} {fo : Option (Int32 × HS)} (hC : Cx E F 5 cX4_brokenPlace RX4 GT) (hO : Ro F rm_X4_brokenPlace) (hR : RI E F .int fo) (hf : fo ≠ none) (t : Nat) (ht1 : kd t = 4) (ht2 : AL E t) (x1 : Nat) (hx1a : kd x1 = 14) (hx1b : AL E x1) (x2 : Int32) (x3 : Nat) (hx3a : kd x3 = 17) (hx3b : AL E x3) : ∀ (n : Nat) (x4 : Int32) (σ : HS), f_X4_brokenPlace_24 t x1 x2 x3 n x4 σ = fo → G E F 24 [(0, .ref (E.2.2.1 t)), (1, .ref (E.2.2.1 x1)), (2, .int x2), (3, .ref (E.2.2.1 x3)), (4, .int x4)] [] σ := by
  intro n
  induction n with
  | zero =>
    intro x4 σ h
    exact absurd (h.symm.trans rfl) hf
  | succ n ih =>
    intro x4 σ h
    refine g_iload hC dX4_brokenPlace_24 4 rfl ?_
    refine g_iload_n hC dX4_brokenPlace_26 rfl 2 rfl ?_
    refine g_icmp_ge (tgt := 87) hC dX4_brokenPlace_27 (by decide) h (fun c27 h => ?_) (fun c27 h => ?_)
    · refine g_iconst (v := (-1)) hC dX4_brokenPlace_87 (by decide) ?_
      exact g_iret hC hR dX4_brokenPlace_88 rfl h
    · refine g_aload_n hC dX4_brokenPlace_30 rfl 0 rfl ?_
      refine g_getR (cj := 9) (k := 0) hC cr4 ui_4 ht1 ht2 (by decide) fl_X4_36 rfl rfl dX4_brokenPlace_31 h hf (fun a1 ea1 ka1 na1 h => ?_)
      refine g_aload_n hC dX4_brokenPlace_34 rfl 1 rfl ?_
      refine g_iload hC dX4_brokenPlace_35 4 rfl ?_
      refine g_iconst (v := 1) hC dX4_brokenPlace_37 (by decide) ?_
      refine g_isub hC dX4_brokenPlace_38 ?_
      refine g_iald hC hx1a hx1b dX4_brokenPlace_39 h hf (fun h => ?_)
      refine g_aload_n hC dX4_brokenPlace_40 rfl 1 rfl ?_
      refine g_iload hC dX4_brokenPlace_41 4 rfl ?_
      refine g_iald hC hx1a hx1b dX4_brokenPlace_43 h hf (fun h => ?_)
      refine g_aload_n hC dX4_brokenPlace_44 rfl 0 rfl ?_
      refine g_getR (cj := 14) (k := 3) hC cr4 ui_4 ht1 ht2 (by decide) fl_X4_16 rfl rfl dX4_brokenPlace_45 h hf (fun a2 ea2 ka2 na2 h => ?_)
      obtain ⟨q3, hq3, h⟩ := bd_of h hf
      refine g_cVV (As := [.int (σ.1 x1 (x4 - 1).toNatClampNeg), .int (σ.1 x1 x4.toNatClampNeg), .ref (E.2.2.1 a2)]) hC hO (c_X9_fillLead _ hC.2.2.2.2.2.2.1 a1 ka1 na1 (σ.1 x1 (x4 - 1).toNatClampNeg) (σ.1 x1 x4.toNatClampNeg) a2 ka2 na2 σ (nn_of hq3)) gc_X4_56 (xk_X9_fillLead _ (Nat.le_of_ble_eq_true rfl) (Nat.le_of_ble_eq_true rfl)) cr9 ka1 na1 rfl (Nat.le_of_ble_eq_true rfl) dX4_brokenPlace_48 hq3 ?_
      refine g_aload_n hC dX4_brokenPlace_51 rfl 3 rfl ?_
      refine g_iload hC dX4_brokenPlace_52 4 rfl ?_
      refine g_aaldC (cj := 1) hC hx3a hx3b dX4_brokenPlace_54 h hf (fun a4 ea4 ka4 na4 h => ?_)
      refine g_aload_n hC dX4_brokenPlace_55 rfl 3 rfl ?_
      refine g_iload hC dX4_brokenPlace_56 4 rfl ?_
      refine g_iconst (v := 1) hC dX4_brokenPlace_58 (by decide) ?_
      refine g_isub hC dX4_brokenPlace_59 ?_
      refine g_aaldC (cj := 1) hC hx3a hx3b dX4_brokenPlace_60 h hf (fun a5 ea5 ka5 na5 h => ?_)
      refine g_aload_n hC dX4_brokenPlace_61 rfl 0 rfl ?_
      refine g_getR (cj := 14) (k := 3) hC cr4 ui_4 ht1 ht2 (by decide) fl_X4_16 rfl rfl dX4_brokenPlace_62 h hf (fun a6 ea6 ka6 na6 h => ?_)
      obtain ⟨q7, hq7, h⟩ := bd_of h hf
      refine g_cVV (As := [.ref (E.2.2.1 a5), .ref (E.2.2.1 a6)]) hC hO (c_X1_becomeCut _ hC.2.2.2.2.2.2.1 a4 ka4 na4 a5 ka5 na5 a6 ka6 na6 q3 (nn_of hq7)) gc_X4_131 (xk_X1_becomeCut _ (Nat.le_of_ble_eq_true rfl) (Nat.le_of_ble_eq_true rfl)) cr1 ka4 na4 rfl (Nat.le_of_ble_eq_true rfl) dX4_brokenPlace_65 hq7 ?_
      refine g_aload_n hC dX4_brokenPlace_68 rfl 3 rfl ?_
      refine g_iload hC dX4_brokenPlace_69 4 rfl ?_
      refine g_aaldC (cj := 1) hC hx3a hx3b dX4_brokenPlace_71 h hf (fun a8 ea8 ka8 na8 h => ?_)
      refine g_getI (k := 5) hC cr1 ui_1 ka8 na8 (by decide) fl_X4_50 rfl rfl dX4_brokenPlace_72 ?_
      refine g_if_ne (tgt := 81) hC dX4_brokenPlace_75 (by decide) h (fun c75 h => ?_) (fun c75 h => ?_)
      · refine g_iinc (v := x4 + 1) (lv' := [(4, .int (x4 + 1)), (0, .ref (E.2.2.1 t)), (1, .ref (E.2.2.1 x1)), (2, .int x2), (3, .ref (E.2.2.1 x3))]) hC dX4_brokenPlace_81 4 rfl rfl (by decide) rfl ?_
        refine g_goto (tgt := 24) hC dX4_brokenPlace_84 (by decide) ?_
        exact g_sub [1, 2, 3, 4, 0] rfl (ih (x4 + 1) q7 h)
      · refine g_iload hC dX4_brokenPlace_78 4 rfl ?_
        exact g_iret hC hR dX4_brokenPlace_80 rfl h
set_option maxHeartbeats 4000000 in
set_option maxRecDepth 100000 in
theorem k_X4_brokenPlace_0 {E : ET} {F : FT} {fo : Option (Int32 × HS)} (hC : Cx E F 5 cX4_brokenPlace RX4 GT) (hO : Ro F rm_X4_brokenPlace) (hR : RI E F .int fo) (hf : fo ≠ none) (t : Nat) (ht1 : kd t = 4) (ht2 : AL E t) (x1 : Nat) (hx1a : kd x1 = 14) (hx1b : AL E x1) (x2 : Int32) (σ : HS) (h : f_X4_brokenPlace t x1 x2 σ = fo) : G E F 0 [(0, .ref (E.2.2.1 t)), (1, .ref (E.2.2.1 x1)), (2, .int x2)] [] σ := by
    refine g_aload_n hC dX4_brokenPlace_0 rfl 0 rfl ?_
    refine g_getR (cj := 10) (k := 1) hC cr4 ui_4 ht1 ht2 (by decide) fl_X4_40 rfl rfl dX4_brokenPlace_1 h hf (fun a1 ea1 ka1 na1 h => ?_)
    refine g_getR (cj := 17) (k := 3) hC cr10 ui_10 ka1 na1 (by decide) fl_X4_124 rfl rfl dX4_brokenPlace_4 h hf (fun a2 ea2 ka2 na2 h => ?_)
    refine g_astore_n (lv' := [(3, .ref (E.2.2.1 a2)), (0, .ref (E.2.2.1 t)), (1, .ref (E.2.2.1 x1)), (2, .int x2)]) hC dX4_brokenPlace_7 rfl (by decide) rfl ?_
    refine g_aload_n hC dX4_brokenPlace_8 rfl 0 rfl ?_
    refine g_iconst (v := 0) hC dX4_brokenPlace_9 (by decide) ?_
    refine g_aaldC (cj := 1) hC ka2 na2 dX4_brokenPlace_10 h hf (fun a3 ea3 ka3 na3 h => ?_)
    refine g_aload_n hC dX4_brokenPlace_11 rfl 1 rfl ?_
    refine g_getR (cj := 10) (k := 1) hC cr4 ui_4 ht1 ht2 (by decide) fl_X4_40 rfl rfl dX4_brokenPlace_12 h hf (fun a4 ea4 ka4 na4 h => ?_)
    refine g_getR (cj := 1) (k := 2) hC cr10 ui_10 ka4 na4 (by decide) fl_X4_64 rfl rfl dX4_brokenPlace_15 h hf (fun a5 ea5 ka5 na5 h => ?_)
    obtain ⟨q6, hq6, h⟩ := bd_of h hf
    refine g_cVV (As := [.ref (E.2.2.1 a5)]) hC hO (c_X1_become _ hC.2.2.2.2.2.2.1 a3 ka3 na3 a5 ka5 na5 σ (nn_of hq6)) gc_X4_128 (xk_X1_become _ (Nat.le_of_ble_eq_true rfl) (Nat.le_of_ble_eq_true rfl)) cr1 ka3 na3 rfl (Nat.le_of_ble_eq_true rfl) dX4_brokenPlace_18 hq6 ?_
    refine g_iconst (v := 1) hC dX4_brokenPlace_21 (by decide) ?_
    refine g_istore (lv' := [(4, .int 1), (3, .ref (E.2.2.1 a2)), (0, .ref (E.2.2.1 t)), (1, .ref (E.2.2.1 x1)), (2, .int x2)]) hC dX4_brokenPlace_22 (by decide) rfl ?_
    exact g_sub [2, 3, 4, 1, 0] rfl (k_X4_brokenPlace_24 hC hO hR hf t ht1 ht2 x1 hx1a hx1b x2 a2 ka2 na2 FU 1 q6 h)
theorem xk_X4_brokenPlace (R : Room) (h1 : 3 + 1 ≤ R.frames) (h2 : 162 ≤ R.locals) : xw R yX4_brokenPlace w_X4_brokenPlace GT cX4_brokenPlace 5 (some .int) rm_X4_brokenPlace 2 := ⟨rfl, rfl, rfl, h1, h2, ⟨by decide, by decide⟩, by decide +kernel⟩
theorem c_X4_brokenPlace (E : ET) (hE : EO E) (t : Nat) (ht1 : kd t = 4) (ht2 : AL E t) (x1 : Nat) (hx1a : kd x1 = 14) (hx1b : AL E x1) (x2 : Int32) (σ : HS) (hn : f_X4_brokenPlace t x1 x2 σ ≠ none) : CoI E yX4_brokenPlace w_X4_brokenPlace rm_X4_brokenPlace [.ref (E.2.2.1 t), .ref (E.2.2.1 x1), .int x2] σ (f_X4_brokenPlace t x1 x2 σ) := CoI.of (lv := [(0, .ref (E.2.2.1 t)), (1, .ref (E.2.2.1 x1)), (2, .int x2)]) hE (plainFor_of_name (by decide)) rfl (Nat.le_of_ble_eq_true rfl) rfl (fun F hC hO hR => k_X4_brokenPlace_0 hC hO hR hn t ht1 ht2 x1 hx1a hx1b x2 σ rfl)
def rm_X4_outdoes : Room := { frames := 2, cells := 0, slots := 0, locals := 71 }
theorem wc_X1_keeps : Cond.code yX1_keeps cX1_keeps 3 (some .boolean) ∈ GT := gtr_35 _ (List.mem_of_getElem? (i := 21) rfl)
theorem gc_X4_195 : GoodIn GT (wsV RX4 195 RX1 yX1_keeps w_X1_keeps) := gi_V (gtr_57 _ (List.mem_of_getElem? (i := 20) rfl)) (gtr_35 _ (List.mem_of_getElem? (i := 19) rfl)) (gtr_35 _ (List.mem_of_getElem? (i := 20) rfl)) (gtr_4 _ (List.mem_of_getElem? (i := 21) rfl)) wc_X1_keeps
set_option maxHeartbeats 4000000 in
set_option maxRecDepth 100000 in
theorem k_X4_outdoes_60 {E : ET} {F : FT} {fo : Option (Int32 × HS)} (hC : Cx E F 6 cX4_outdoes RX4 GT) (hO : Ro F rm_X4_outdoes) (hR : RI E F .boolean fo) (hf : fo ≠ none) (t : Nat) (ht1 : kd t = 4) (ht2 : AL E t) (x1 : Int32) (x2 : Int32) (x3 : Int32) (x4 : Int32) (s0 : Int32) (s1 : Int32) (s2 : Nat) (hs2a : kd s2 = 14) (hs2b : AL E s2) (r3 : Int32 → HS → Option (Int32 × HS)) (h3 : ∀ (x4 : Int32) (σ : HS), r3 x4 σ = fo → G E F 3 [(0, .ref (E.2.2.1 t)), (1, .int x1), (2, .int x2), (3, .int x3), (4, .int x4)] [] σ) (σ : HS) (h : f_X4_outdoes_60 r3 t x1 x2 x3 x4 s0 s1 s2 σ = fo) : G E F 60 [(0, .ref (E.2.2.1 t)), (1, .int x1), (2, .int x2), (3, .int x3), (4, .int x4)] [.int s0, .int s1, .ref (E.2.2.1 s2)] σ := by
    refine g_iload_n hC dX4_outdoes_60 rfl 3 rfl ?_
    refine g_isub hC dX4_outdoes_61 ?_
    refine g_iast hC hs2a hs2b dX4_outdoes_62 h hf (fun h => ?_)
    refine g_iinc (v := x4 + 1) (lv' := [(4, .int (x4 + 1)), (0, .ref (E.2.2.1 t)), (1, .int x1), (2, .int x2), (3, .int x3)]) hC dX4_outdoes_63 4 rfl rfl (by decide) rfl ?_
    refine g_goto (tgt := 3) hC dX4_outdoes_66 (by decide) ?_
    exact g_sub [1, 2, 3, 4, 0] rfl (h3 (x4 + 1) (sI σ s2 s1.toNatClampNeg (s0 - x3)) h)
set_option maxHeartbeats 4000000 in
set_option maxRecDepth 100000 in
theorem k_X4_outdoes_41 {E : ET} {F : FT} {fo : Option (Int32 × HS)} (hC : Cx E F 6 cX4_outdoes RX4 GT) (hO : Ro F rm_X4_outdoes) (hR : RI E F .boolean fo) (hf : fo ≠ none) (t : Nat) (ht1 : kd t = 4) (ht2 : AL E t) (x1 : Int32) (x2 : Int32) (x3 : Int32) (x4 : Int32) (s0 : Int32) (r3 : Int32 → HS → Option (Int32 × HS)) (h3 : ∀ (x4 : Int32) (σ : HS), r3 x4 σ = fo → G E F 3 [(0, .ref (E.2.2.1 t)), (1, .int x1), (2, .int x2), (3, .int x3), (4, .int x4)] [] σ) (σ : HS) (h : f_X4_outdoes_41 r3 t x1 x2 x3 x4 s0 σ = fo) : G E F 41 [(0, .ref (E.2.2.1 t)), (1, .int x1), (2, .int x2), (3, .int x3), (4, .int x4)] [.int s0] σ := by
    refine g_istore (lv' := [(5, .int s0), (0, .ref (E.2.2.1 t)), (1, .int x1), (2, .int x2), (3, .int x3), (4, .int x4)]) hC dX4_outdoes_41 (by decide) rfl ?_
    refine g_aload_n hC dX4_outdoes_43 rfl 1 rfl ?_
    refine g_getR (cj := 14) (k := 3) hC cr4 ui_4 ht1 ht2 (by decide) fl_X4_16 rfl rfl dX4_outdoes_44 h hf (fun a1 ea1 ka1 na1 h => ?_)
    refine g_iload hC dX4_outdoes_47 5 rfl ?_
    refine g_iload hC dX4_outdoes_49 0 rfl ?_
    refine g_if_eq (tgt := 59) hC dX4_outdoes_51 (by decide) h (fun c51 h => ?_) (fun c51 h => ?_)
    · refine g_iconst (v := 0) hC dX4_outdoes_59 (by decide) ?_
      exact g_sub [1, 2, 3, 4, 5] rfl (k_X4_outdoes_60 hC hO hR hf t ht1 ht2 x1 x2 x3 x4 0 x4 a1 ka1 na1 r3 h3 σ h)
    · refine g_bipush (v := 100) hC dX4_outdoes_54 (by decide) ?_
      refine g_goto (tgt := 60) hC dX4_outdoes_56 (by decide) ?_
      exact g_sub [1, 2, 3, 4, 5] rfl (k_X4_outdoes_60 hC hO hR hf t ht1 ht2 x1 x2 x3 x4 100 x4 a1 ka1 na1 r3 h3 σ h)
set_option maxHeartbeats 4000000 in
set_option maxRecDepth 100000 in
theorem k_X4_outdoes_3 {E : ET} {F : FT} {fo : Option (Int32 × HS)} (hC : Cx E F 6 cX4_outdoes RX4 GT) (hO : Ro F rm_X4_outdoes) (hR : RI E F .boolean fo) (hf : fo ≠ none) (t : Nat) (ht1 : kd t = 4) (ht2 : AL E t) (x1 : Int32) (x2 : Int32) (x3 : Int32) : ∀ (n : Nat) (x4 : Int32) (σ : HS), f_X4_outdoes_3 t x1 x2 x3 n x4 σ = fo → G E F 3 [(0, .ref (E.2.2.1 t)), (1, .int x1), (2, .int x2), (3, .int x3), (4, .int x4)] [] σ := by
  intro n
  induction n with
  | zero =>
    intro x4 σ h
    exact absurd (h.symm.trans rfl) hf
  | succ n ih =>
    intro x4 σ h
    refine g_iload hC dX4_outdoes_3 4 rfl ?_
    refine g_iconst (v := 4) hC dX4_outdoes_5 (by decide) ?_
    refine g_icmp_ge (tgt := 69) hC dX4_outdoes_6 (by decide) h (fun c6 h => ?_) (fun c6 h => ?_)
    · refine g_aload_n hC dX4_outdoes_69 rfl 0 rfl ?_
      refine g_getR (cj := 10) (k := 1) hC cr4 ui_4 ht1 ht2 (by decide) fl_X4_40 rfl rfl dX4_outdoes_70 h hf (fun a1 ea1 ka1 na1 h => ?_)
      refine g_getR (cj := 1) (k := 2) hC cr10 ui_10 ka1 na1 (by decide) fl_X4_64 rfl rfl dX4_outdoes_73 h hf (fun a2 ea2 ka2 na2 h => ?_)
      refine g_aload_n hC dX4_outdoes_76 rfl 0 rfl ?_
      refine g_getR (cj := 14) (k := 3) hC cr4 ui_4 ht1 ht2 (by decide) fl_X4_16 rfl rfl dX4_outdoes_77 h hf (fun a3 ea3 ka3 na3 h => ?_)
      obtain ⟨q4, hq4, h⟩ := bd_of h hf
      refine g_cVI (As := [.ref (E.2.2.1 a3)]) hC hO (c_X1_keeps _ hC.2.2.2.2.2.2.1 a2 ka2 na2 a3 ka3 na3 σ (nn_of hq4)) gc_X4_195 (xk_X1_keeps _ (Nat.le_of_ble_eq_true rfl) (Nat.le_of_ble_eq_true rfl)) cr1 ka2 na2 rfl (Nat.le_of_ble_eq_true rfl) dX4_outdoes_80 hq4 ?_
      obtain ⟨hz, h⟩ := zr_of h hf
      exact g_iret hC hR dX4_outdoes_83 hz h
    · refine g_aload_n hC dX4_outdoes_9 rfl 0 rfl ?_
      refine g_getR (cj := 9) (k := 0) hC cr4 ui_4 ht1 ht2 (by decide) fl_X4_36 rfl rfl dX4_outdoes_10 h hf (fun a5 ea5 ka5 na5 h => ?_)
      refine g_getR (cj := 18) (k := 1) hC cr9 ui_9 ka5 na5 (by decide) fl_X4_99 rfl rfl dX4_outdoes_13 h hf (fun a6 ea6 ka6 na6 h => ?_)
      refine g_iload_n hC dX4_outdoes_16 rfl 1 rfl ?_
      refine g_aaldI (cj := 14) hC ka6 na6 dX4_outdoes_17 h hf (fun a7 ea7 ka7 na7 h => ?_)
      refine g_iload hC dX4_outdoes_18 4 rfl ?_
      refine g_iald hC ka7 na7 dX4_outdoes_20 h hf (fun h => ?_)
      refine g_aload_n hC dX4_outdoes_21 rfl 0 rfl ?_
      refine g_getR (cj := 9) (k := 0) hC cr4 ui_4 ht1 ht2 (by decide) fl_X4_36 rfl rfl dX4_outdoes_22 h hf (fun a8 ea8 ka8 na8 h => ?_)
      refine g_getR (cj := 18) (k := 1) hC cr9 ui_9 ka8 na8 (by decide) fl_X4_99 rfl rfl dX4_outdoes_25 h hf (fun a9 ea9 ka9 na9 h => ?_)
      refine g_iload_n hC dX4_outdoes_28 rfl 2 rfl ?_
      refine g_aaldI (cj := 14) hC ka9 na9 dX4_outdoes_29 h hf (fun a10 ea10 ka10 na10 h => ?_)
      refine g_iload hC dX4_outdoes_30 4 rfl ?_
      refine g_iald hC ka10 na10 dX4_outdoes_32 h hf (fun h => ?_)
      refine g_icmp_lt (tgt := 40) hC dX4_outdoes_33 (by decide) h (fun c33 h => ?_) (fun c33 h => ?_)
      · refine g_iconst (v := 0) hC dX4_outdoes_40 (by decide) ?_
        exact g_sub [0, 1, 2, 3, 4] rfl (k_X4_outdoes_41 hC hO hR hf t ht1 ht2 x1 x2 x3 x4 0 (f_X4_outdoes_3 t x1 x2 x3 n) ih σ h)
      · refine g_iconst (v := 1) hC dX4_outdoes_36 (by decide) ?_
        refine g_goto (tgt := 41) hC dX4_outdoes_37 (by decide) ?_
        exact g_sub [0, 1, 2, 3, 4] rfl (k_X4_outdoes_41 hC hO hR hf t ht1 ht2 x1 x2 x3 x4 1 (f_X4_outdoes_3 t x1 x2 x3 n) ih σ h)
set_option maxHeartbeats 4000000 in
set_option maxRecDepth 100000 in
theorem k_X4_outdoes_0 {E : ET} {F : FT} {fo : Option (Int32 × HS)} (hC : Cx E F 6 cX4_outdoes RX4 GT) (hO : Ro F rm_X4_outdoes) (hR : RI E F .boolean fo) (hf : fo ≠ none) (t : Nat) (ht1 : kd t = 4) (ht2 : AL E t) (x1 : Int32) (x2 : Int32) (x3 : Int32) (σ : HS) (h : f_X4_outdoes t x1 x2 x3 σ = fo) : G E F 0 [(0, .ref (E.2.2.1 t)), (1, .int x1), (2, .int x2), (3, .int x3)] [] σ := by
    refine g_iconst (v := 0) hC dX4_outdoes_0 (by decide) ?_
    refine g_istore (lv' := [(4, .int 0), (0, .ref (E.2.2.1 t)), (1, .int x1), (2, .int x2), (3, .int x3)]) hC dX4_outdoes_1 (by decide) rfl ?_
    exact g_sub [1, 2, 3, 4, 0] rfl (k_X4_outdoes_3 hC hO hR hf t ht1 ht2 x1 x2 x3 FU 0 σ h)
theorem xk_X4_outdoes (R : Room) (h1 : 2 + 1 ≤ R.frames) (h2 : 108 ≤ R.locals) : xw R yX4_outdoes w_X4_outdoes GT cX4_outdoes 6 (some .boolean) rm_X4_outdoes 3 := ⟨rfl, rfl, rfl, h1, h2, ⟨by decide, by decide⟩, by decide +kernel⟩
theorem c_X4_outdoes (E : ET) (hE : EO E) (t : Nat) (ht1 : kd t = 4) (ht2 : AL E t) (x1 : Int32) (x2 : Int32) (x3 : Int32) (σ : HS) (hn : f_X4_outdoes t x1 x2 x3 σ ≠ none) : CoI E yX4_outdoes w_X4_outdoes rm_X4_outdoes [.ref (E.2.2.1 t), .int x1, .int x2, .int x3] σ (f_X4_outdoes t x1 x2 x3 σ) := CoI.of (lv := [(0, .ref (E.2.2.1 t)), (1, .int x1), (2, .int x2), (3, .int x3)]) hE (plainFor_of_name (by decide)) rfl (Nat.le_of_ble_eq_true rfl) rfl (fun F hC hO hR => k_X4_outdoes_0 hC hO hR hn t ht1 ht2 x1 x2 x3 σ rfl)
def rm_X4_notOutdone : Room := { frames := 3, cells := 0, slots := 0, locals := 108 }
theorem fl_X4_33 : Cond.fieldLink RX4 33 "EveryMeasure$Judge" (TX4 8).2.1 (TX4 8).2.2.1 ∈ GT := gtr_5 _ (List.mem_of_getElem? (i := 22) rfl)
theorem wc_X4_outdoes : Cond.code yX4_outdoes cX4_outdoes 6 (some .boolean) ∈ GT := gtr_57 _ (List.mem_of_getElem? (i := 19) rfl)
theorem gc_X4_191 : GoodIn GT (wsV RX4 191 RX4 yX4_outdoes w_X4_outdoes) := gi_V (gtr_57 _ (List.mem_of_getElem? (i := 16) rfl)) (gtr_57 _ (List.mem_of_getElem? (i := 17) rfl)) (gtr_57 _ (List.mem_of_getElem? (i := 18) rfl)) (gtr_2 _ (List.mem_of_getElem? (i := 8) rfl)) wc_X4_outdoes
set_option maxHeartbeats 4000000 in
set_option maxRecDepth 100000 in
theorem k_X4_notOutdone_146 {E : ET} {F : FT} {fo : Option (Int32 × HS)} (hC : Cx E F 5 cX4_notOutdone RX4 GT) (hO : Ro F rm_X4_notOutdone) (hR : RI E F .int fo) (hf : fo ≠ none) (t : Nat) (ht1 : kd t = 4) (ht2 : AL E t) (x2 : Int32) (x3 : Int32) (x4 : Int32) (r94 : Int32 → Int32 → HS → Option (Int32 × HS)) (h94 : ∀ (x2 : Int32) (x3 : Int32) (σ : HS), r94 x2 x3 σ = fo → G E F 94 [(0, .ref (E.2.2.1 t)), (2, .int x2), (3, .int x3)] [] σ) (r103 : Int32 → Int32 → HS → Option (Int32 × HS)) (h103 : ∀ (x2 : Int32) (x4 : Int32) (σ : HS), r103 x2 x4 σ = fo → G E F 103 [(0, .ref (E.2.2.1 t)), (2, .int x2), (3, .int x3), (4, .int x4)] [] σ) (σ : HS) (h : f_X4_notOutdone_146 r94 r103 t x2 x3 x4 σ = fo) : G E F 146 [(0, .ref (E.2.2.1 t)), (2, .int x2), (3, .int x3), (4, .int x4)] [] σ := by
    refine g_iinc (v := x4 + 1) (lv' := [(4, .int (x4 + 1)), (0, .ref (E.2.2.1 t)), (2, .int x2), (3, .int x3)]) hC dX4_notOutdone_146 3 rfl rfl (by decide) rfl ?_
    refine g_goto (tgt := 103) hC dX4_notOutdone_149 (by decide) ?_
    exact g_sub [1, 2, 3, 0] rfl (h103 x2 (x4 + 1) σ h)
set_option maxHeartbeats 4000000 in
set_option maxRecDepth 100000 in
theorem k_X4_notOutdone_103 {E : ET} {F : FT} {fo : Option (Int32 × HS)} (hC : Cx E F 5 cX4_notOutdone RX4 GT) (hO : Ro F rm_X4_notOutdone) (hR : RI E F .int fo) (hf : fo ≠ none) (t : Nat) (ht1 : kd t = 4) (ht2 : AL E t) (x3 : Int32) (r94 : Int32 → Int32 → HS → Option (Int32 × HS)) (h94 : ∀ (x2 : Int32) (x3 : Int32) (σ : HS), r94 x2 x3 σ = fo → G E F 94 [(0, .ref (E.2.2.1 t)), (2, .int x2), (3, .int x3)] [] σ) : ∀ (n : Nat) (x2 : Int32) (x4 : Int32) (σ : HS), f_X4_notOutdone_103 t x3 r94 n x2 x4 σ = fo → G E F 103 [(0, .ref (E.2.2.1 t)), (2, .int x2), (3, .int x3), (4, .int x4)] [] σ := by
  intro n
  induction n with
  | zero =>
    intro x2 x4 σ h
    exact absurd (h.symm.trans rfl) hf
  | succ n ih =>
    intro x2 x4 σ h
    refine g_iload hC dX4_notOutdone_103 3 rfl ?_
    refine g_bipush (v := 8) hC dX4_notOutdone_105 (by decide) ?_
    refine g_icmp_ge (tgt := 152) hC dX4_notOutdone_107 (by decide) h (fun c107 h => ?_) (fun c107 h => ?_)
    · refine g_iinc (v := x3 + 1) (lv' := [(3, .int (x3 + 1)), (0, .ref (E.2.2.1 t)), (2, .int x2), (4, .int x4)]) hC dX4_notOutdone_152 2 rfl rfl (by decide) rfl ?_
      refine g_goto (tgt := 94) hC dX4_notOutdone_155 (by decide) ?_
      exact g_sub [1, 2, 0] rfl (h94 x2 (x3 + 1) σ h)
    · refine g_aload_n hC dX4_notOutdone_110 rfl 0 rfl ?_
      refine g_getR (cj := 14) (k := 8) hC cr4 ui_4 ht1 ht2 (by decide) fl_X4_33 rfl rfl dX4_notOutdone_111 h hf (fun a1 ea1 ka1 na1 h => ?_)
      refine g_iload_n hC dX4_notOutdone_114 rfl 2 rfl ?_
      refine g_iald hC ka1 na1 dX4_notOutdone_115 h hf (fun h => ?_)
      refine g_iconst (v := 1) hC dX4_notOutdone_116 (by decide) ?_
      refine g_iload hC dX4_notOutdone_117 3 rfl ?_
      refine g_ishl hC dX4_notOutdone_119 ?_
      refine g_iand hC dX4_notOutdone_120 ?_
      refine g_if_eq (tgt := 146) hC dX4_notOutdone_121 (by decide) h (fun c121 h => ?_) (fun c121 h => ?_)
      · exact g_sub [0, 1, 2, 3] rfl (k_X4_notOutdone_146 hC hO hR hf t ht1 ht2 x2 x3 x4 r94 h94 (f_X4_notOutdone_103 t x3 r94 n) ih σ h)
      · refine g_aload_n hC dX4_notOutdone_124 rfl 0 rfl ?_
        refine g_getR (cj := 14) (k := 8) hC cr4 ui_4 ht1 ht2 (by decide) fl_X4_33 rfl rfl dX4_notOutdone_125 h hf (fun a2 ea2 ka2 na2 h => ?_)
        refine g_iload hC dX4_notOutdone_128 3 rfl ?_
        refine g_iald hC ka2 na2 dX4_notOutdone_130 h hf (fun h => ?_)
        refine g_iconst (v := 1) hC dX4_notOutdone_131 (by decide) ?_
        refine g_iload_n hC dX4_notOutdone_132 rfl 2 rfl ?_
        refine g_ishl hC dX4_notOutdone_133 ?_
        refine g_iand hC dX4_notOutdone_134 ?_
        refine g_if_ne (tgt := 146) hC dX4_notOutdone_135 (by decide) h (fun c135 h => ?_) (fun c135 h => ?_)
        · exact g_sub [0, 1, 2, 3] rfl (k_X4_notOutdone_146 hC hO hR hf t ht1 ht2 x2 x3 x4 r94 h94 (f_X4_notOutdone_103 t x3 r94 n) ih σ h)
        · refine g_iload_n hC dX4_notOutdone_138 rfl 1 rfl ?_
          refine g_iconst (v := 1) hC dX4_notOutdone_139 (by decide) ?_
          refine g_iload_n hC dX4_notOutdone_140 rfl 2 rfl ?_
          refine g_ishl hC dX4_notOutdone_141 ?_
          refine g_iconst (v := (-1)) hC dX4_notOutdone_142 (by decide) ?_
          refine g_ixor hC dX4_notOutdone_143 ?_
          refine g_iand hC dX4_notOutdone_144 ?_
          refine g_istore_n (lv' := [(2, .int (x2 &&& (((1 : Int32) <<< (x3 &&& 31)) ^^^ (-1)))), (0, .ref (E.2.2.1 t)), (3, .int x3), (4, .int x4)]) hC dX4_notOutdone_145 rfl (by decide) rfl ?_
          exact g_sub [1, 0, 2, 3] rfl (k_X4_notOutdone_146 hC hO hR hf t ht1 ht2 (x2 &&& (((1 : Int32) <<< (x3 &&& 31)) ^^^ (-1))) x3 x4 r94 h94 (f_X4_notOutdone_103 t x3 r94 n) ih σ h)
set_option maxHeartbeats 4000000 in
set_option maxRecDepth 100000 in
theorem k_X4_notOutdone_94 {E : ET} {F : FT} {fo : Option (Int32 × HS)} (hC : Cx E F 5 cX4_notOutdone RX4 GT) (hO : Ro F rm_X4_notOutdone) (hR : RI E F .int fo) (hf : fo ≠ none) (t : Nat) (ht1 : kd t = 4) (ht2 : AL E t) : ∀ (n : Nat) (x2 : Int32) (x3 : Int32) (σ : HS), f_X4_notOutdone_94 t n x2 x3 σ = fo → G E F 94 [(0, .ref (E.2.2.1 t)), (2, .int x2), (3, .int x3)] [] σ := by
  intro n
  induction n with
  | zero =>
    intro x2 x3 σ h
    exact absurd (h.symm.trans rfl) hf
  | succ n ih =>
    intro x2 x3 σ h
    refine g_iload_n hC dX4_notOutdone_94 rfl 2 rfl ?_
    refine g_bipush (v := 8) hC dX4_notOutdone_95 (by decide) ?_
    refine g_icmp_ge (tgt := 158) hC dX4_notOutdone_97 (by decide) h (fun c97 h => ?_) (fun c97 h => ?_)
    · refine g_iload_n hC dX4_notOutdone_158 rfl 1 rfl ?_
      exact g_iret hC hR dX4_notOutdone_159 rfl h
    · refine g_iconst (v := 0) hC dX4_notOutdone_100 (by decide) ?_
      refine g_istore (lv' := [(4, .int 0), (0, .ref (E.2.2.1 t)), (2, .int x2), (3, .int x3)]) hC dX4_notOutdone_101 (by decide) rfl ?_
      exact g_sub [1, 2, 3, 0] rfl (k_X4_notOutdone_103 hC hO hR hf t ht1 ht2 x3 (f_X4_notOutdone_94 t n) ih FU x2 0 σ h)
set_option maxHeartbeats 4000000 in
set_option maxRecDepth 100000 in
theorem k_X4_notOutdone_72 {E : ET} {F : FT} {fo : Option (Int32 × HS)} (hC : Cx E F 5 cX4_notOutdone RX4 GT) (hO : Ro F rm_X4_notOutdone) (hR : RI E F .int fo) (hf : fo ≠ none) (t : Nat) (ht1 : kd t = 4) (ht2 : AL E t) (x1 : Int32) (x2 : Int32) (x3 : Int32) (r2 : Int32 → HS → Option (Int32 × HS)) (h2 : ∀ (x2 : Int32) (σ : HS), r2 x2 σ = fo → G E F 2 [(0, .ref (E.2.2.1 t)), (1, .int x1), (2, .int x2)] [] σ) (r17 : Int32 → HS → Option (Int32 × HS)) (h17 : ∀ (x3 : Int32) (σ : HS), r17 x3 σ = fo → G E F 17 [(0, .ref (E.2.2.1 t)), (1, .int x1), (2, .int x2), (3, .int x3)] [] σ) (σ : HS) (h : f_X4_notOutdone_72 r2 r17 t x1 x2 x3 σ = fo) : G E F 72 [(0, .ref (E.2.2.1 t)), (1, .int x1), (2, .int x2), (3, .int x3)] [] σ := by
    refine g_iinc (v := x3 + 1) (lv' := [(3, .int (x3 + 1)), (0, .ref (E.2.2.1 t)), (1, .int x1), (2, .int x2)]) hC dX4_notOutdone_72 3 rfl rfl (by decide) rfl ?_
    refine g_goto (tgt := 17) hC dX4_notOutdone_75 (by decide) ?_
    exact g_sub [1, 2, 3, 0] rfl (h17 (x3 + 1) σ h)
set_option maxHeartbeats 4000000 in
set_option maxRecDepth 100000 in
theorem k_X4_notOutdone_17 {E : ET} {F : FT} {fo : Option (Int32 × HS)} (hC : Cx E F 5 cX4_notOutdone RX4 GT) (hO : Ro F rm_X4_notOutdone) (hR : RI E F .int fo) (hf : fo ≠ none) (t : Nat) (ht1 : kd t = 4) (ht2 : AL E t) (x1 : Int32) (x2 : Int32) (r2 : Int32 → HS → Option (Int32 × HS)) (h2 : ∀ (x2 : Int32) (σ : HS), r2 x2 σ = fo → G E F 2 [(0, .ref (E.2.2.1 t)), (1, .int x1), (2, .int x2)] [] σ) : ∀ (n : Nat) (x3 : Int32) (σ : HS), f_X4_notOutdone_17 t x1 x2 r2 n x3 σ = fo → G E F 17 [(0, .ref (E.2.2.1 t)), (1, .int x1), (2, .int x2), (3, .int x3)] [] σ := by
  intro n
  induction n with
  | zero =>
    intro x3 σ h
    exact absurd (h.symm.trans rfl) hf
  | succ n ih =>
    intro x3 σ h
    refine g_iload_n hC dX4_notOutdone_17 rfl 3 rfl ?_
    refine g_bipush (v := 8) hC dX4_notOutdone_18 (by decide) ?_
    refine g_icmp_ge (tgt := 78) hC dX4_notOutdone_20 (by decide) h (fun c20 h => ?_) (fun c20 h => ?_)
    · refine g_iinc (v := x2 + 1) (lv' := [(2, .int (x2 + 1)), (0, .ref (E.2.2.1 t)), (1, .int x1), (3, .int x3)]) hC dX4_notOutdone_78 2 rfl rfl (by decide) rfl ?_
      refine g_goto (tgt := 2) hC dX4_notOutdone_81 (by decide) ?_
      exact g_sub [1, 2, 0] rfl (h2 (x2 + 1) σ h)
    · refine g_iload_n hC dX4_notOutdone_23 rfl 3 rfl ?_
      refine g_iload_n hC dX4_notOutdone_24 rfl 2 rfl ?_
      refine g_icmp_eq (tgt := 72) hC dX4_notOutdone_25 (by decide) h (fun c25 h => ?_) (fun c25 h => ?_)
      · exact g_sub [0, 1, 2, 3] rfl (k_X4_notOutdone_72 hC hO hR hf t ht1 ht2 x1 x2 x3 r2 h2 (f_X4_notOutdone_17 t x1 x2 r2 n) ih σ h)
      · refine g_aload_n hC dX4_notOutdone_28 rfl 0 rfl ?_
        refine g_getR (cj := 9) (k := 0) hC cr4 ui_4 ht1 ht2 (by decide) fl_X4_36 rfl rfl dX4_notOutdone_29 h hf (fun a1 ea1 ka1 na1 h => ?_)
        refine g_iload_n hC dX4_notOutdone_32 rfl 3 rfl ?_
        obtain ⟨q2, hq2, h⟩ := bd_of h hf
        refine g_cVI (As := [.int x3]) hC hO (c_X9_isIn _ hC.2.2.2.2.2.2.1 a1 ka1 na1 x3 σ (nn_of hq2)) gc_X4_44 (xk_X9_isIn _ (Nat.le_of_ble_eq_true rfl) (Nat.le_of_ble_eq_true rfl)) cr9 ka1 na1 rfl (Nat.le_of_ble_eq_true rfl) dX4_notOutdone_33 hq2 ?_
        refine g_if_eq (tgt := 72) hC dX4_notOutdone_36 (by decide) h (fun c36 h => ?_) (fun c36 h => ?_)
        · exact g_sub [0, 1, 2, 3] rfl (k_X4_notOutdone_72 hC hO hR hf t ht1 ht2 x1 x2 x3 r2 h2 (f_X4_notOutdone_17 t x1 x2 r2 n) ih q2.2 h)
        · refine g_aload_n hC dX4_notOutdone_39 rfl 0 rfl ?_
          refine g_getR (cj := 9) (k := 0) hC cr4 ui_4 ht1 ht2 (by decide) fl_X4_36 rfl rfl dX4_notOutdone_40 h hf (fun a3 ea3 ka3 na3 h => ?_)
          refine g_iload_n hC dX4_notOutdone_43 rfl 2 rfl ?_
          obtain ⟨q4, hq4, h⟩ := bd_of h hf
          refine g_cVI (As := [.int x2]) hC hO (c_X9_isIn _ hC.2.2.2.2.2.2.1 a3 ka3 na3 x2 q2.2 (nn_of hq4)) gc_X4_44 (xk_X9_isIn _ (Nat.le_of_ble_eq_true rfl) (Nat.le_of_ble_eq_true rfl)) cr9 ka3 na3 rfl (Nat.le_of_ble_eq_true rfl) dX4_notOutdone_44 hq4 ?_
          refine g_if_eq (tgt := 72) hC dX4_notOutdone_47 (by decide) h (fun c47 h => ?_) (fun c47 h => ?_)
          · exact g_sub [0, 1, 2, 3] rfl (k_X4_notOutdone_72 hC hO hR hf t ht1 ht2 x1 x2 x3 r2 h2 (f_X4_notOutdone_17 t x1 x2 r2 n) ih q4.2 h)
          · refine g_aload_n hC dX4_notOutdone_50 rfl 0 rfl ?_
            refine g_iload_n hC dX4_notOutdone_51 rfl 3 rfl ?_
            refine g_iload_n hC dX4_notOutdone_52 rfl 2 rfl ?_
            refine g_iload_n hC dX4_notOutdone_53 rfl 1 rfl ?_
            obtain ⟨q5, hq5, h⟩ := bd_of h hf
            refine g_cVI (As := [.int x3, .int x2, .int x1]) hC hO (c_X4_outdoes _ hC.2.2.2.2.2.2.1 t ht1 ht2 x3 x2 x1 q4.2 (nn_of hq5)) gc_X4_191 (xk_X4_outdoes _ (Nat.le_of_ble_eq_true rfl) (Nat.le_of_ble_eq_true rfl)) cr4 ht1 ht2 rfl (Nat.le_of_ble_eq_true rfl) dX4_notOutdone_54 hq5 ?_
            refine g_if_eq (tgt := 72) hC dX4_notOutdone_57 (by decide) h (fun c57 h => ?_) (fun c57 h => ?_)
            · exact g_sub [0, 1, 2, 3] rfl (k_X4_notOutdone_72 hC hO hR hf t ht1 ht2 x1 x2 x3 r2 h2 (f_X4_notOutdone_17 t x1 x2 r2 n) ih q5.2 h)
            · refine g_aload_n hC dX4_notOutdone_60 rfl 0 rfl ?_
              refine g_getR (cj := 14) (k := 8) hC cr4 ui_4 ht1 ht2 (by decide) fl_X4_33 rfl rfl dX4_notOutdone_61 h hf (fun a6 ea6 ka6 na6 h => ?_)
              refine g_iload_n hC dX4_notOutdone_64 rfl 2 rfl ?_
              refine g_dup2_11 hC dX4_notOutdone_65 rfl rfl ?_
              refine g_iald hC ka6 na6 dX4_notOutdone_66 h hf (fun h => ?_)
              refine g_iconst (v := 1) hC dX4_notOutdone_67 (by decide) ?_
              refine g_iload_n hC dX4_notOutdone_68 rfl 3 rfl ?_
              refine g_ishl hC dX4_notOutdone_69 ?_
              refine g_ior hC dX4_notOutdone_70 ?_
              refine g_iast hC ka6 na6 dX4_notOutdone_71 h hf (fun h => ?_)
              exact g_sub [0, 1, 2, 3] rfl (k_X4_notOutdone_72 hC hO hR hf t ht1 ht2 x1 x2 x3 r2 h2 (f_X4_notOutdone_17 t x1 x2 r2 n) ih (sI q5.2 a6 x2.toNatClampNeg ((q5.2.1 a6 x2.toNatClampNeg) ||| ((1 : Int32) <<< (x3 &&& 31)))) h)
set_option maxHeartbeats 4000000 in
set_option maxRecDepth 100000 in
theorem k_X4_notOutdone_2 {E : ET} {F : FT} {fo : Option (Int32 × HS)} (hC : Cx E F 5 cX4_notOutdone RX4 GT) (hO : Ro F rm_X4_notOutdone) (hR : RI E F .int fo) (hf : fo ≠ none) (t : Nat) (ht1 : kd t = 4) (ht2 : AL E t) (x1 : Int32) : ∀ (n : Nat) (x2 : Int32) (σ : HS), f_X4_notOutdone_2 t x1 n x2 σ = fo → G E F 2 [(0, .ref (E.2.2.1 t)), (1, .int x1), (2, .int x2)] [] σ := by
  intro n
  induction n with
  | zero =>
    intro x2 σ h
    exact absurd (h.symm.trans rfl) hf
  | succ n ih =>
    intro x2 σ h
    refine g_iload_n hC dX4_notOutdone_2 rfl 2 rfl ?_
    refine g_bipush (v := 8) hC dX4_notOutdone_3 (by decide) ?_
    refine g_icmp_ge (tgt := 84) hC dX4_notOutdone_5 (by decide) h (fun c5 h => ?_) (fun c5 h => ?_)
    · refine g_aload_n hC dX4_notOutdone_84 rfl 0 rfl ?_
      refine g_getR (cj := 9) (k := 0) hC cr4 ui_4 ht1 ht2 (by decide) fl_X4_36 rfl rfl dX4_notOutdone_85 h hf (fun a1 ea1 ka1 na1 h => ?_)
      refine g_getI (k := 4) hC cr9 ui_9 ka1 na1 (by decide) fl_X4_106 rfl rfl dX4_notOutdone_88 ?_
      refine g_istore_n (lv' := [(2, .int (σ.1 a1 4)), (0, .ref (E.2.2.1 t)), (1, .int x1)]) hC dX4_notOutdone_91 rfl (by decide) rfl ?_
      refine g_iconst (v := 0) hC dX4_notOutdone_92 (by decide) ?_
      refine g_istore_n (lv' := [(3, .int 0), (2, .int (σ.1 a1 4)), (0, .ref (E.2.2.1 t)), (1, .int x1)]) hC dX4_notOutdone_93 rfl (by decide) rfl ?_
      exact g_sub [2, 1, 0] rfl (k_X4_notOutdone_94 hC hO hR hf t ht1 ht2 FU (σ.1 a1 4) 0 σ h)
    · refine g_aload_n hC dX4_notOutdone_8 rfl 0 rfl ?_
      refine g_getR (cj := 14) (k := 8) hC cr4 ui_4 ht1 ht2 (by decide) fl_X4_33 rfl rfl dX4_notOutdone_9 h hf (fun a2 ea2 ka2 na2 h => ?_)
      refine g_iload_n hC dX4_notOutdone_12 rfl 2 rfl ?_
      refine g_iconst (v := 0) hC dX4_notOutdone_13 (by decide) ?_
      refine g_iast hC ka2 na2 dX4_notOutdone_14 h hf (fun h => ?_)
      refine g_iconst (v := 0) hC dX4_notOutdone_15 (by decide) ?_
      refine g_istore_n (lv' := [(3, .int 0), (0, .ref (E.2.2.1 t)), (1, .int x1), (2, .int x2)]) hC dX4_notOutdone_16 rfl (by decide) rfl ?_
      exact g_sub [1, 2, 3, 0] rfl (k_X4_notOutdone_17 hC hO hR hf t ht1 ht2 x1 x2 (f_X4_notOutdone_2 t x1 n) ih FU 0 (sI σ a2 x2.toNatClampNeg 0) h)
set_option maxHeartbeats 4000000 in
set_option maxRecDepth 100000 in
theorem k_X4_notOutdone_0 {E : ET} {F : FT} {fo : Option (Int32 × HS)} (hC : Cx E F 5 cX4_notOutdone RX4 GT) (hO : Ro F rm_X4_notOutdone) (hR : RI E F .int fo) (hf : fo ≠ none) (t : Nat) (ht1 : kd t = 4) (ht2 : AL E t) (x1 : Int32) (σ : HS) (h : f_X4_notOutdone t x1 σ = fo) : G E F 0 [(0, .ref (E.2.2.1 t)), (1, .int x1)] [] σ := by
    refine g_iconst (v := 0) hC dX4_notOutdone_0 (by decide) ?_
    refine g_istore_n (lv' := [(2, .int 0), (0, .ref (E.2.2.1 t)), (1, .int x1)]) hC dX4_notOutdone_1 rfl (by decide) rfl ?_
    exact g_sub [1, 2, 0] rfl (k_X4_notOutdone_2 hC hO hR hf t ht1 ht2 x1 FU 0 σ h)
theorem xk_X4_notOutdone (R : Room) (h1 : 3 + 1 ≤ R.frames) (h2 : 144 ≤ R.locals) : xw R yX4_notOutdone w_X4_notOutdone GT cX4_notOutdone 5 (some .int) rm_X4_notOutdone 1 := ⟨rfl, rfl, rfl, h1, h2, ⟨by decide, by decide⟩, by decide +kernel⟩
theorem c_X4_notOutdone (E : ET) (hE : EO E) (t : Nat) (ht1 : kd t = 4) (ht2 : AL E t) (x1 : Int32) (σ : HS) (hn : f_X4_notOutdone t x1 σ ≠ none) : CoI E yX4_notOutdone w_X4_notOutdone rm_X4_notOutdone [.ref (E.2.2.1 t), .int x1] σ (f_X4_notOutdone t x1 σ) := CoI.of (lv := [(0, .ref (E.2.2.1 t)), (1, .int x1)]) hE (plainFor_of_name (by decide)) rfl (Nat.le_of_ble_eq_true rfl) rfl (fun F hC hO hR => k_X4_notOutdone_0 hC hO hR hn t ht1 ht2 x1 σ rfl)
def rm_X5_among : Room := { frames := 0, cells := 0, slots := 0, locals := 0 }
theorem fl_X5_26 : Cond.fieldLink RX5 26 "EveryMeasure$Picker" (TX5 1).2.1 (TX5 1).2.2.1 ∈ GT := gtr_6 _ (List.mem_of_getElem? (i := 9) rfl)
theorem fl_X5_9 : Cond.fieldLink RX5 9 "EveryMeasure$Picker" (TX5 2).2.1 (TX5 2).2.2.1 ∈ GT := gtr_6 _ (List.mem_of_getElem? (i := 5) rfl)
set_option maxHeartbeats 4000000 in
set_option maxRecDepth 100000 in
theorem k_X5_among_0 {E : ET} {F : FT} {fo : Option HS} (hC : Cx E F 3 cX5_among RX5 GT) (hO : Ro F rm_X5_among) (hR : RV E F fo) (hf : fo ≠ none) (t : Nat) (ht1 : kd t = 5) (ht2 : AL E t) (x1 : Nat) (hx1a : kd x1 = 18) (hx1b : AL E x1) (x2 : Int32) (σ : HS) (h : f_X5_among t x1 x2 σ = fo) : G E F 0 [(0, .ref (E.2.2.1 t)), (1, .ref (E.2.2.1 x1)), (2, .int x2)] [] σ := by
    refine g_aload_n hC dX5_among_0 rfl 0 rfl ?_
    refine g_aload_n hC dX5_among_1 rfl 1 rfl ?_
    refine g_putR (k := 1) hC cr5 ui_5 tyX5_ok nmX5 ht1 ht2 hx1b (by decide) fl_X5_26 rfl rfl rfl rfl dX5_among_2 ?_
    refine g_aload_n hC dX5_among_5 rfl 0 rfl ?_
    refine g_iload_n hC dX5_among_6 rfl 2 rfl ?_
    refine g_putI (k := 2) hC cr5 ui_5 tyX5_ok nmX5 ht1 ht2 (by decide) fl_X5_9 rfl rfl rfl rfl dX5_among_7 ?_
    exact g_vret hC hR dX5_among_10 h
theorem xk_X5_among (R : Room) (h1 : 0 + 1 ≤ R.frames) (h2 : 34 ≤ R.locals) : xw R yX5_among w_X5_among GT cX5_among 3 none rm_X5_among 2 := ⟨rfl, rfl, rfl, h1, h2, ⟨by decide, by decide⟩, by decide +kernel⟩
theorem c_X5_among (E : ET) (hE : EO E) (t : Nat) (ht1 : kd t = 5) (ht2 : AL E t) (x1 : Nat) (hx1a : kd x1 = 18) (hx1b : AL E x1) (x2 : Int32) (σ : HS) (hn : f_X5_among t x1 x2 σ ≠ none) : CoV E yX5_among w_X5_among rm_X5_among [.ref (E.2.2.1 t), .ref (E.2.2.1 x1), .int x2] σ (f_X5_among t x1 x2 σ) := CoV.of (lv := [(0, .ref (E.2.2.1 t)), (1, .ref (E.2.2.1 x1)), (2, .int x2)]) hE (plainFor_of_name (by decide)) rfl (Nat.le_of_ble_eq_true rfl) rfl (fun F hC hO hR => k_X5_among_0 hC hO hR hn t ht1 ht2 x1 hx1a hx1b x2 σ rfl)
def rm_X5_pick (i : Nat) : Room := { frames := 3 + i, cells := 0, slots := 0, locals := 126 + i * 38 }
theorem xk_X5_pickBehind (i : Nat) (R : Room) (h1 : (rm_X5_pick i).frames + 1 ≤ R.frames) (h2 : 36 + (rm_X5_pick i).locals ≤ R.locals) : xw R yX5_pickBehind w_X5_pickBehind GT cX5_pickBehind 5 (some .int) (rm_X5_pick i) 4 := ⟨rfl, rfl, rfl, h1, h2, ⟨by decide, by decide⟩, by decide +kernel⟩
theorem xk_X5_pick (i : Nat) (R : Room) (h1 : (rm_X5_pick i).frames + 1 ≤ R.frames) (h2 : 38 + (rm_X5_pick i).locals ≤ R.locals) : xw R yX5_pick w_X5_pick GT cX5_pick 7 (some .int) (rm_X5_pick i) 4 := ⟨rfl, rfl, rfl, h1, h2, ⟨by decide, by decide⟩, by decide +kernel⟩
theorem fl_X5_21 : Cond.fieldLink RX5 21 "EveryMeasure$Picker" (TX5 0).2.1 (TX5 0).2.2.1 ∈ GT := gtr_6 _ (List.mem_of_getElem? (i := 7) rfl)
theorem gc_X5_48 : GoodIn GT (wsV RX5 48 RX1 yX1_becomeCut w_X1_becomeCut) := gi_V (gtr_36 _ (List.mem_of_getElem? (i := 6) rfl)) (gtr_25 _ (List.mem_of_getElem? (i := 0) rfl)) (gtr_25 _ (List.mem_of_getElem? (i := 1) rfl)) (gtr_4 _ (List.mem_of_getElem? (i := 21) rfl)) wc_X1_becomeCut
theorem wc_X5_pick : Cond.code yX5_pick cX5_pick 7 (some .int) ∈ GT := gtr_35 _ (List.mem_of_getElem? (i := 17) rfl)
theorem gc_X5_33 : GoodIn GT (wsV RX5 33 RX5 yX5_pick w_X5_pick) := gi_V (gtr_35 _ (List.mem_of_getElem? (i := 14) rfl)) (gtr_35 _ (List.mem_of_getElem? (i := 15) rfl)) (gtr_35 _ (List.mem_of_getElem? (i := 16) rfl)) (gtr_2 _ (List.mem_of_getElem? (i := 12) rfl)) wc_X5_pick
theorem gc_X5_44 : GoodIn GT (wsV RX5 44 RX1 yX1_impliesWith w_X1_impliesWith) := gi_V (gtr_36 _ (List.mem_of_getElem? (i := 2) rfl)) (gtr_36 _ (List.mem_of_getElem? (i := 3) rfl)) (gtr_36 _ (List.mem_of_getElem? (i := 4) rfl)) (gtr_4 _ (List.mem_of_getElem? (i := 21) rfl)) wc_X1_impliesWith
set_option maxHeartbeats 4000000 in
set_option maxRecDepth 100000 in
theorem k_X5_pickBehind_30 {E : ET} {F : FT} {fo : Option (Int32 × HS)} {d : Nat} (hC : Cx E F 5 cX5_pickBehind RX5 GT) (hO : Ro F (rm_X5_pick (2 * d + 1))) (hR : RI E F .int fo) (hf : fo ≠ none) (rc : Nat → Int32 → Int32 → Int32 → Nat → HS → Option (Int32 × HS)) (hrc : ∀ (t : Nat) (_ : kd t = 5) (_ : AL E t) (x1 : Int32) (x2 : Int32) (x3 : Int32) (x4 : Nat) (_ : kd x4 = 14) (_ : AL E x4) (σ : HS), rc t x1 x2 x3 x4 σ ≠ none → CoI E yX5_pick w_X5_pick (rm_X5_pick (2 * d)) [.ref (E.2.2.1 t), .int x1, .int x2, .int x3, .ref (E.2.2.1 x4)] σ (rc t x1 x2 x3 x4 σ)) (s0 : Int32) (σ : HS) (h : f_X5_pickBehind_30 rc s0 σ = fo) : G E F 30 [] [.int s0] σ := by
    exact g_iret hC hR dX5_pickBehind_30 rfl h
set_option maxHeartbeats 4000000 in
set_option maxRecDepth 100000 in
theorem k_X5_pickBehind_0 {E : ET} {F : FT} {fo : Option (Int32 × HS)} {d : Nat} (hC : Cx E F 5 cX5_pickBehind RX5 GT) (hO : Ro F (rm_X5_pick (2 * d + 1))) (hR : RI E F .int fo) (hf : fo ≠ none) (rc : Nat → Int32 → Int32 → Int32 → Nat → HS → Option (Int32 × HS)) (hrc : ∀ (t : Nat) (_ : kd t = 5) (_ : AL E t) (x1 : Int32) (x2 : Int32) (x3 : Int32) (x4 : Nat) (_ : kd x4 = 14) (_ : AL E x4) (σ : HS), rc t x1 x2 x3 x4 σ ≠ none → CoI E yX5_pick w_X5_pick (rm_X5_pick (2 * d)) [.ref (E.2.2.1 t), .int x1, .int x2, .int x3, .ref (E.2.2.1 x4)] σ (rc t x1 x2 x3 x4 σ)) (t : Nat) (ht1 : kd t = 5) (ht2 : AL E t) (x1 : Int32) (x2 : Int32) (x3 : Int32) (x4 : Nat) (hx4a : kd x4 = 14) (hx4b : AL E x4) (σ : HS) (h : f_X5_pickBehind rc t x1 x2 x3 x4 σ = fo) : G E F 0 [(0, .ref (E.2.2.1 t)), (1, .int x1), (2, .int x2), (3, .int x3), (4, .ref (E.2.2.1 x4))] [] σ := by
    refine g_iload_n hC dX5_pickBehind_0 rfl 3 rfl ?_
    refine g_iconst (v := 1) hC dX5_pickBehind_1 (by decide) ?_
    refine g_icmp_ne (tgt := 31) hC dX5_pickBehind_2 (by decide) h (fun c2 h => ?_) (fun c2 h => ?_)
    · refine g_iload_n hC dX5_pickBehind_31 rfl 1 rfl ?_
      refine g_iconst (v := 1) hC dX5_pickBehind_32 (by decide) ?_
      refine g_iadd hC dX5_pickBehind_33 ?_
      refine g_aload_n hC dX5_pickBehind_34 rfl 0 rfl ?_
      refine g_getR (cj := 17) (k := 0) hC cr5 ui_5 ht1 ht2 (by decide) fl_X5_21 rfl rfl dX5_pickBehind_35 h hf (fun a1 ea1 ka1 na1 h => ?_)
      refine g_alen (v := Int32.ofNat (ln a1)) hC ka1 (by decide) na1 rfl dX5_pickBehind_38 ?_
      refine g_icmp_lt (tgt := 44) hC dX5_pickBehind_39 (by decide) h (fun c39 h => ?_) (fun c39 h => ?_)
      · refine g_aload_n hC dX5_pickBehind_44 rfl 0 rfl ?_
        refine g_getR (cj := 17) (k := 0) hC cr5 ui_5 ht1 ht2 (by decide) fl_X5_21 rfl rfl dX5_pickBehind_45 h hf (fun a2 ea2 ka2 na2 h => ?_)
        refine g_iload_n hC dX5_pickBehind_48 rfl 1 rfl ?_
        refine g_iconst (v := 1) hC dX5_pickBehind_49 (by decide) ?_
        refine g_iadd hC dX5_pickBehind_50 ?_
        refine g_aaldC (cj := 1) hC ka2 na2 dX5_pickBehind_51 h hf (fun a3 ea3 ka3 na3 h => ?_)
        refine g_aload_n hC dX5_pickBehind_52 rfl 0 rfl ?_
        refine g_getR (cj := 17) (k := 0) hC cr5 ui_5 ht1 ht2 (by decide) fl_X5_21 rfl rfl dX5_pickBehind_53 h hf (fun a4 ea4 ka4 na4 h => ?_)
        refine g_iload_n hC dX5_pickBehind_56 rfl 1 rfl ?_
        refine g_aaldC (cj := 1) hC ka4 na4 dX5_pickBehind_57 h hf (fun a5 ea5 ka5 na5 h => ?_)
        refine g_aload_n hC dX5_pickBehind_58 rfl 0 rfl ?_
        refine g_getR (cj := 18) (k := 1) hC cr5 ui_5 ht1 ht2 (by decide) fl_X5_26 rfl rfl dX5_pickBehind_59 h hf (fun a6 ea6 ka6 na6 h => ?_)
        refine g_iload_n hC dX5_pickBehind_62 rfl 2 rfl ?_
        refine g_aaldI (cj := 14) hC ka6 na6 dX5_pickBehind_63 h hf (fun a7 ea7 ka7 na7 h => ?_)
        obtain ⟨q8, hq8, h⟩ := bd_of h hf
        refine g_cVV (As := [.ref (E.2.2.1 a5), .ref (E.2.2.1 a7)]) hC hO (c_X1_becomeCut _ hC.2.2.2.2.2.2.1 a3 ka3 na3 a5 ka5 na5 a7 ka7 na7 σ (nn_of hq8)) gc_X5_48 (xk_X1_becomeCut _ (by simp only [rm_X5_pick]; omega) (by simp only [rm_X5_pick]; omega)) cr1 ka3 na3 rfl (Nat.le_of_ble_eq_true rfl) dX5_pickBehind_64 hq8 ?_
        refine g_aload_n hC dX5_pickBehind_67 rfl 0 rfl ?_
        refine g_iload_n hC dX5_pickBehind_68 rfl 1 rfl ?_
        refine g_iconst (v := 1) hC dX5_pickBehind_69 (by decide) ?_
        refine g_iadd hC dX5_pickBehind_70 ?_
        refine g_iload_n hC dX5_pickBehind_71 rfl 2 rfl ?_
        refine g_iconst (v := 1) hC dX5_pickBehind_72 (by decide) ?_
        refine g_iadd hC dX5_pickBehind_73 ?_
        refine g_iload_n hC dX5_pickBehind_74 rfl 3 rfl ?_
        refine g_iconst (v := 1) hC dX5_pickBehind_75 (by decide) ?_
        refine g_isub hC dX5_pickBehind_76 ?_
        refine g_aload hC dX5_pickBehind_77 4 rfl ?_
        obtain ⟨q9, hq9, h⟩ := bd_of h hf
        refine g_cVI (As := [.int (x1 + 1), .int (x2 + 1), .int (x3 - 1), .ref (E.2.2.1 x4)]) hC hO (hrc t ht1 ht2 (x1 + 1) (x2 + 1) (x3 - 1) x4 hx4a hx4b q8 (nn_of hq9)) gc_X5_33 (xk_X5_pick (2 * d) _ (by simp only [rm_X5_pick]; omega) (by simp only [rm_X5_pick]; omega)) cr5 ht1 ht2 rfl (Nat.le_of_ble_eq_true rfl) dX5_pickBehind_79 hq9 ?_
        exact g_iret hC hR dX5_pickBehind_82 rfl h
      · refine g_iconst (v := (-1)) hC dX5_pickBehind_42 (by decide) ?_
        exact g_iret hC hR dX5_pickBehind_43 rfl h
    · refine g_aload_n hC dX5_pickBehind_5 rfl 0 rfl ?_
      refine g_getR (cj := 17) (k := 0) hC cr5 ui_5 ht1 ht2 (by decide) fl_X5_21 rfl rfl dX5_pickBehind_6 h hf (fun a10 ea10 ka10 na10 h => ?_)
      refine g_iload_n hC dX5_pickBehind_9 rfl 1 rfl ?_
      refine g_aaldC (cj := 1) hC ka10 na10 dX5_pickBehind_10 h hf (fun a11 ea11 ka11 na11 h => ?_)
      refine g_aload_n hC dX5_pickBehind_11 rfl 0 rfl ?_
      refine g_getR (cj := 18) (k := 1) hC cr5 ui_5 ht1 ht2 (by decide) fl_X5_26 rfl rfl dX5_pickBehind_12 h hf (fun a12 ea12 ka12 na12 h => ?_)
      refine g_iload_n hC dX5_pickBehind_15 rfl 2 rfl ?_
      refine g_aaldI (cj := 14) hC ka12 na12 dX5_pickBehind_16 h hf (fun a13 ea13 ka13 na13 h => ?_)
      refine g_aload hC dX5_pickBehind_17 4 rfl ?_
      obtain ⟨q14, hq14, h⟩ := bd_of h hf
      refine g_cVI (As := [.ref (E.2.2.1 a13), .ref (E.2.2.1 x4)]) hC hO (c_X1_impliesWith _ hC.2.2.2.2.2.2.1 a11 ka11 na11 a13 ka13 na13 x4 hx4a hx4b σ (nn_of hq14)) gc_X5_44 (xk_X1_impliesWith _ (by simp only [rm_X5_pick]; omega) (by simp only [rm_X5_pick]; omega)) cr1 ka11 na11 rfl (Nat.le_of_ble_eq_true rfl) dX5_pickBehind_19 hq14 ?_
      refine g_if_eq (tgt := 29) hC dX5_pickBehind_22 (by decide) h (fun c22 h => ?_) (fun c22 h => ?_)
      · refine g_iconst (v := (-1)) hC dX5_pickBehind_29 (by decide) ?_
        exact g_sub [] rfl (k_X5_pickBehind_30 hC hO hR hf rc hrc (-1) q14.2 h)
      · refine g_iconst (v := 0) hC dX5_pickBehind_25 (by decide) ?_
        refine g_goto (tgt := 30) hC dX5_pickBehind_26 (by decide) ?_
        exact g_sub [] rfl (k_X5_pickBehind_30 hC hO hR hf rc hrc 0 q14.2 h)
theorem c_X5_pickBehind (E : ET) (hE : EO E) (d : Nat) (rc : Nat → Int32 → Int32 → Int32 → Nat → HS → Option (Int32 × HS)) (hrc : ∀ (t : Nat) (_ : kd t = 5) (_ : AL E t) (x1 : Int32) (x2 : Int32) (x3 : Int32) (x4 : Nat) (_ : kd x4 = 14) (_ : AL E x4) (σ : HS), rc t x1 x2 x3 x4 σ ≠ none → CoI E yX5_pick w_X5_pick (rm_X5_pick (2 * d)) [.ref (E.2.2.1 t), .int x1, .int x2, .int x3, .ref (E.2.2.1 x4)] σ (rc t x1 x2 x3 x4 σ)) (t : Nat) (ht1 : kd t = 5) (ht2 : AL E t) (x1 : Int32) (x2 : Int32) (x3 : Int32) (x4 : Nat) (hx4a : kd x4 = 14) (hx4b : AL E x4) (σ : HS) (hn : f_X5_pickBehind rc t x1 x2 x3 x4 σ ≠ none) : CoI E yX5_pickBehind w_X5_pickBehind (rm_X5_pick (2 * d + 1)) [.ref (E.2.2.1 t), .int x1, .int x2, .int x3, .ref (E.2.2.1 x4)] σ (f_X5_pickBehind rc t x1 x2 x3 x4 σ) := CoI.of (lv := [(0, .ref (E.2.2.1 t)), (1, .int x1), (2, .int x2), (3, .int x3), (4, .ref (E.2.2.1 x4))]) hE (plainFor_of_name (by decide)) rfl (Nat.le_of_ble_eq_true rfl) rfl (fun F hC hO hR => k_X5_pickBehind_0 hC hO hR hn rc hrc t ht1 ht2 x1 x2 x3 x4 hx4a hx4b σ rfl)
theorem wc_X5_pickBehind : Cond.code yX5_pickBehind cX5_pickBehind 5 (some .int) ∈ GT := gtr_36 _ (List.mem_of_getElem? (i := 1) rfl)
theorem gc_X5_41 : GoodIn GT (wsV RX5 41 RX5 yX5_pickBehind w_X5_pickBehind) := gi_V (gtr_35 _ (List.mem_of_getElem? (i := 22) rfl)) (gtr_35 _ (List.mem_of_getElem? (i := 23) rfl)) (gtr_36 _ (List.mem_of_getElem? (i := 0) rfl)) (gtr_2 _ (List.mem_of_getElem? (i := 12) rfl)) wc_X5_pickBehind
theorem gc_X5_37 : GoodIn GT (wsV RX5 37 RX1 yX1_keeps w_X1_keeps) := gi_V (gtr_35 _ (List.mem_of_getElem? (i := 18) rfl)) (gtr_35 _ (List.mem_of_getElem? (i := 19) rfl)) (gtr_35 _ (List.mem_of_getElem? (i := 20) rfl)) (gtr_4 _ (List.mem_of_getElem? (i := 21) rfl)) wc_X1_keeps
set_option maxHeartbeats 4000000 in
set_option maxRecDepth 100000 in
theorem k_X5_pick_75 {E : ET} {F : FT} {fo : Option (Int32 × HS)} {d : Nat} (hC : Cx E F 7 cX5_pick RX5 GT) (hO : Ro F (rm_X5_pick (2 * d + 2))) (hR : RI E F .int fo) (hf : fo ≠ none) (rc : Nat → Int32 → Int32 → Int32 → Nat → HS → Option (Int32 × HS)) (hrc : ∀ (t : Nat) (_ : kd t = 5) (_ : AL E t) (x1 : Int32) (x2 : Int32) (x3 : Int32) (x4 : Nat) (_ : kd x4 = 14) (_ : AL E x4) (σ : HS), rc t x1 x2 x3 x4 σ ≠ none → CoI E yX5_pick w_X5_pick (rm_X5_pick (2 * d)) [.ref (E.2.2.1 t), .int x1, .int x2, .int x3, .ref (E.2.2.1 x4)] σ (rc t x1 x2 x3 x4 σ)) (t : Nat) (ht1 : kd t = 5) (ht2 : AL E t) (x1 : Int32) (x3 : Int32) (x4 : Nat) (hx4a : kd x4 = 14) (hx4b : AL E x4) (x5 : Int32) (r27 : Int32 → HS → Option (Int32 × HS)) (h27 : ∀ (x5 : Int32) (σ : HS), r27 x5 σ = fo → G E F 27 [(0, .ref (E.2.2.1 t)), (1, .int x1), (3, .int x3), (4, .ref (E.2.2.1 x4)), (5, .int x5)] [] σ) (σ : HS) (h : f_X5_pick_75 rc r27 t x1 x3 x4 x5 σ = fo) : G E F 75 [(0, .ref (E.2.2.1 t)), (1, .int x1), (3, .int x3), (4, .ref (E.2.2.1 x4)), (5, .int x5)] [] σ := by
    refine g_iinc (v := x5 + 1) (lv' := [(5, .int (x5 + 1)), (0, .ref (E.2.2.1 t)), (1, .int x1), (3, .int x3), (4, .ref (E.2.2.1 x4))]) hC dX5_pick_75 4 rfl rfl (by decide) rfl ?_
    refine g_goto (tgt := 27) hC dX5_pick_78 (by decide) ?_
    exact g_sub [1, 2, 3, 4, 0] rfl (h27 (x5 + 1) σ h)
set_option maxHeartbeats 4000000 in
set_option maxRecDepth 100000 in
theorem k_X5_pick_27 {E : ET} {F : FT} {fo : Option (Int32 × HS)} {d : Nat} (hC : Cx E F 7 cX5_pick RX5 GT) (hO : Ro F (rm_X5_pick (2 * d + 2))) (hR : RI E F .int fo) (hf : fo ≠ none) (rc : Nat → Int32 → Int32 → Int32 → Nat → HS → Option (Int32 × HS)) (hrc : ∀ (t : Nat) (_ : kd t = 5) (_ : AL E t) (x1 : Int32) (x2 : Int32) (x3 : Int32) (x4 : Nat) (_ : kd x4 = 14) (_ : AL E x4) (σ : HS), rc t x1 x2 x3 x4 σ ≠ none → CoI E yX5_pick w_X5_pick (rm_X5_pick (2 * d)) [.ref (E.2.2.1 t), .int x1, .int x2, .int x3, .ref (E.2.2.1 x4)] σ (rc t x1 x2 x3 x4 σ)) (t : Nat) (ht1 : kd t = 5) (ht2 : AL E t) (x1 : Int32) (x3 : Int32) (x4 : Nat) (hx4a : kd x4 = 14) (hx4b : AL E x4) : ∀ (n : Nat) (x5 : Int32) (σ : HS), f_X5_pick_27 rc t x1 x3 x4 n x5 σ = fo → G E F 27 [(0, .ref (E.2.2.1 t)), (1, .int x1), (3, .int x3), (4, .ref (E.2.2.1 x4)), (5, .int x5)] [] σ := by
  intro n
  induction n with
  | zero =>
    intro x5 σ h
    exact absurd (h.symm.trans rfl) hf
  | succ n ih =>
    intro x5 σ h
    refine g_iload hC dX5_pick_27 4 rfl ?_
    refine g_aload_n hC dX5_pick_29 rfl 0 rfl ?_
    refine g_getR (cj := 18) (k := 1) hC cr5 ui_5 ht1 ht2 (by decide) fl_X5_26 rfl rfl dX5_pick_30 h hf (fun a1 ea1 ka1 na1 h => ?_)
    refine g_alen (v := Int32.ofNat (ln a1)) hC ka1 (by decide) na1 rfl dX5_pick_33 ?_
    refine g_icmp_ge (tgt := 81) hC dX5_pick_34 (by decide) h (fun c34 h => ?_) (fun c34 h => ?_)
    · refine g_iconst (v := (-1)) hC dX5_pick_81 (by decide) ?_
      exact g_iret hC hR dX5_pick_82 rfl h
    · refine g_aload_n hC dX5_pick_37 rfl 0 rfl ?_
      refine g_getI (k := 2) hC cr5 ui_5 ht1 ht2 (by decide) fl_X5_9 rfl rfl dX5_pick_38 ?_
      refine g_iconst (v := 1) hC dX5_pick_41 (by decide) ?_
      refine g_iload hC dX5_pick_42 4 rfl ?_
      refine g_ishl hC dX5_pick_44 ?_
      refine g_iand hC dX5_pick_45 ?_
      refine g_if_eq (tgt := 75) hC dX5_pick_46 (by decide) h (fun c46 h => ?_) (fun c46 h => ?_)
      · exact g_sub [0, 1, 2, 3, 4] rfl (k_X5_pick_75 hC hO hR hf rc hrc t ht1 ht2 x1 x3 x4 hx4a hx4b x5 (f_X5_pick_27 rc t x1 x3 x4 n) ih σ h)
      · refine g_aload_n hC dX5_pick_49 rfl 0 rfl ?_
        refine g_iload_n hC dX5_pick_50 rfl 1 rfl ?_
        refine g_iload hC dX5_pick_51 4 rfl ?_
        refine g_iload_n hC dX5_pick_53 rfl 2 rfl ?_
        refine g_aload hC dX5_pick_54 3 rfl ?_
        obtain ⟨q2, hq2, h⟩ := bd_of h hf
        refine g_cVI (As := [.int x1, .int x5, .int x3, .ref (E.2.2.1 x4)]) hC hO (c_X5_pickBehind _ hC.2.2.2.2.2.2.1 d rc hrc t ht1 ht2 x1 x5 x3 x4 hx4a hx4b σ (nn_of hq2)) gc_X5_41 (xk_X5_pickBehind (2 * d + 1) _ (by simp only [rm_X5_pick]; omega) (by simp only [rm_X5_pick]; omega)) cr5 ht1 ht2 rfl (Nat.le_of_ble_eq_true rfl) dX5_pick_56 hq2 ?_
        refine g_istore (lv' := [(6, .int q2.1), (0, .ref (E.2.2.1 t)), (1, .int x1), (3, .int x3), (4, .ref (E.2.2.1 x4)), (5, .int x5)]) hC dX5_pick_59 (by decide) rfl ?_
        refine g_iload hC dX5_pick_61 0 rfl ?_
        refine g_iconst (v := (-1)) hC dX5_pick_63 (by decide) ?_
        refine g_icmp_eq (tgt := 75) hC dX5_pick_64 (by decide) h (fun c64 h => ?_) (fun c64 h => ?_)
        · exact g_sub [1, 2, 3, 4, 5] rfl (k_X5_pick_75 hC hO hR hf rc hrc t ht1 ht2 x1 x3 x4 hx4a hx4b x5 (f_X5_pick_27 rc t x1 x3 x4 n) ih q2.2 h)
        · refine g_iload hC dX5_pick_67 0 rfl ?_
          refine g_iconst (v := 1) hC dX5_pick_69 (by decide) ?_
          refine g_iload hC dX5_pick_70 5 rfl ?_
          refine g_ishl hC dX5_pick_72 ?_
          refine g_ior hC dX5_pick_73 ?_
          exact g_iret hC hR dX5_pick_74 rfl h
set_option maxHeartbeats 4000000 in
set_option maxRecDepth 100000 in
theorem k_X5_pick_23 {E : ET} {F : FT} {fo : Option (Int32 × HS)} {d : Nat} (hC : Cx E F 7 cX5_pick RX5 GT) (hO : Ro F (rm_X5_pick (2 * d + 2))) (hR : RI E F .int fo) (hf : fo ≠ none) (rc : Nat → Int32 → Int32 → Int32 → Nat → HS → Option (Int32 × HS)) (hrc : ∀ (t : Nat) (_ : kd t = 5) (_ : AL E t) (x1 : Int32) (x2 : Int32) (x3 : Int32) (x4 : Nat) (_ : kd x4 = 14) (_ : AL E x4) (σ : HS), rc t x1 x2 x3 x4 σ ≠ none → CoI E yX5_pick w_X5_pick (rm_X5_pick (2 * d)) [.ref (E.2.2.1 t), .int x1, .int x2, .int x3, .ref (E.2.2.1 x4)] σ (rc t x1 x2 x3 x4 σ)) (s0 : Int32) (σ : HS) (h : f_X5_pick_23 rc s0 σ = fo) : G E F 23 [] [.int s0] σ := by
    exact g_iret hC hR dX5_pick_23 rfl h
set_option maxHeartbeats 4000000 in
set_option maxRecDepth 100000 in
theorem k_X5_pick_0 {E : ET} {F : FT} {fo : Option (Int32 × HS)} {d : Nat} (hC : Cx E F 7 cX5_pick RX5 GT) (hO : Ro F (rm_X5_pick (2 * d + 2))) (hR : RI E F .int fo) (hf : fo ≠ none) (rc : Nat → Int32 → Int32 → Int32 → Nat → HS → Option (Int32 × HS)) (hrc : ∀ (t : Nat) (_ : kd t = 5) (_ : AL E t) (x1 : Int32) (x2 : Int32) (x3 : Int32) (x4 : Nat) (_ : kd x4 = 14) (_ : AL E x4) (σ : HS), rc t x1 x2 x3 x4 σ ≠ none → CoI E yX5_pick w_X5_pick (rm_X5_pick (2 * d)) [.ref (E.2.2.1 t), .int x1, .int x2, .int x3, .ref (E.2.2.1 x4)] σ (rc t x1 x2 x3 x4 σ)) (t : Nat) (ht1 : kd t = 5) (ht2 : AL E t) (x1 : Int32) (x2 : Int32) (x3 : Int32) (x4 : Nat) (hx4a : kd x4 = 14) (hx4b : AL E x4) (σ : HS) (h : f_X5_pick_0 rc t x1 x2 x3 x4 σ = fo) : G E F 0 [(0, .ref (E.2.2.1 t)), (1, .int x1), (2, .int x2), (3, .int x3), (4, .ref (E.2.2.1 x4))] [] σ := by
    refine g_iload_n hC dX5_pick_0 rfl 3 rfl ?_
    refine g_if_gt (tgt := 24) hC dX5_pick_1 (by decide) h (fun c1 h => ?_) (fun c1 h => ?_)
    · refine g_iload_n hC dX5_pick_24 rfl 2 rfl ?_
      refine g_istore (lv' := [(5, .int x2), (0, .ref (E.2.2.1 t)), (1, .int x1), (2, .int x2), (3, .int x3), (4, .ref (E.2.2.1 x4))]) hC dX5_pick_25 (by decide) rfl ?_
      exact g_sub [1, 2, 4, 5, 0] rfl (k_X5_pick_27 hC hO hR hf rc hrc t ht1 ht2 x1 x3 x4 hx4a hx4b FU x2 σ h)
    · refine g_aload_n hC dX5_pick_4 rfl 0 rfl ?_
      refine g_getR (cj := 17) (k := 0) hC cr5 ui_5 ht1 ht2 (by decide) fl_X5_21 rfl rfl dX5_pick_5 h hf (fun a1 ea1 ka1 na1 h => ?_)
      refine g_iload_n hC dX5_pick_8 rfl 1 rfl ?_
      refine g_aaldC (cj := 1) hC ka1 na1 dX5_pick_9 h hf (fun a2 ea2 ka2 na2 h => ?_)
      refine g_aload hC dX5_pick_10 4 rfl ?_
      obtain ⟨q3, hq3, h⟩ := bd_of h hf
      refine g_cVI (As := [.ref (E.2.2.1 x4)]) hC hO (c_X1_keeps _ hC.2.2.2.2.2.2.1 a2 ka2 na2 x4 hx4a hx4b σ (nn_of hq3)) gc_X5_37 (xk_X1_keeps _ (by simp only [rm_X5_pick]; omega) (by simp only [rm_X5_pick]; omega)) cr1 ka2 na2 rfl (Nat.le_of_ble_eq_true rfl) dX5_pick_12 hq3 ?_
      refine g_if_eq (tgt := 22) hC dX5_pick_15 (by decide) h (fun c15 h => ?_) (fun c15 h => ?_)
      · refine g_iconst (v := (-1)) hC dX5_pick_22 (by decide) ?_
        exact g_sub [] rfl (k_X5_pick_23 hC hO hR hf rc hrc (-1) q3.2 h)
      · refine g_iconst (v := 0) hC dX5_pick_18 (by decide) ?_
        refine g_goto (tgt := 23) hC dX5_pick_19 (by decide) ?_
        exact g_sub [] rfl (k_X5_pick_23 hC hO hR hf rc hrc 0 q3.2 h)
theorem c_X5_pick (E : ET) (hE : EO E) : ∀ (d : Nat) (t : Nat) (ht1 : kd t = 5) (ht2 : AL E t) (x1 : Int32) (x2 : Int32) (x3 : Int32) (x4 : Nat) (hx4a : kd x4 = 14) (hx4b : AL E x4) (σ : HS), f_X5_pick d t x1 x2 x3 x4 σ ≠ none → CoI E yX5_pick w_X5_pick (rm_X5_pick (2 * d)) [.ref (E.2.2.1 t), .int x1, .int x2, .int x3, .ref (E.2.2.1 x4)] σ (f_X5_pick d t x1 x2 x3 x4 σ) := by
  intro d
  induction d with
  | zero => intro t ht1 ht2 x1 x2 x3 x4 hx4a hx4b σ hn; exact absurd rfl hn
  | succ d ih =>
    intro t ht1 ht2 x1 x2 x3 x4 hx4a hx4b σ hn
    exact CoI.of (lv := [(0, .ref (E.2.2.1 t)), (1, .int x1), (2, .int x2), (3, .int x3), (4, .ref (E.2.2.1 x4))]) hE (plainFor_of_name (by decide)) rfl (Nat.le_of_ble_eq_true rfl) rfl (fun F hC hO hR => k_X5_pick_0 hC hO hR hn (f_X5_pick d) ih t ht1 ht2 x1 x2 x3 x4 hx4a hx4b σ rfl)
def rm_X5_fewest : Room := { frames := 28, cells := 0, slots := 0, locals := 1076 }
theorem gc_X5_27 : GoodIn GT (wsV RX5 27 RX1 yX1_become w_X1_become) := gi_V (gtr_35 _ (List.mem_of_getElem? (i := 13) rfl)) (gtr_24 _ (List.mem_of_getElem? (i := 12) rfl)) (gtr_24 _ (List.mem_of_getElem? (i := 13) rfl)) (gtr_4 _ (List.mem_of_getElem? (i := 21) rfl)) wc_X1_become
set_option maxHeartbeats 4000000 in
set_option maxRecDepth 100000 in
theorem k_X5_fewest_13 {E : ET} {F : FT} {fo : Option (Int32 × HS)} (hC : Cx E F 6 cX5_fewest RX5 GT) (hO : Ro F rm_X5_fewest) (hR : RI E F .int fo) (hf : fo ≠ none) (t : Nat) (ht1 : kd t = 5) (ht2 : AL E t) (x2 : Int32) (x3 : Nat) (hx3a : kd x3 = 14) (hx3b : AL E x3) : ∀ (n : Nat) (x4 : Int32) (σ : HS), f_X5_fewest_13 t x2 x3 n x4 σ = fo → G E F 13 [(0, .ref (E.2.2.1 t)), (2, .int x2), (3, .ref (E.2.2.1 x3)), (4, .int x4)] [] σ := by
  intro n
  induction n with
  | zero =>
    intro x4 σ h
    exact absurd (h.symm.trans rfl) hf
  | succ n ih =>
    intro x4 σ h
    refine g_iload hC dX5_fewest_13 3 rfl ?_
    refine g_iload_n hC dX5_fewest_15 rfl 1 rfl ?_
    refine g_icmp_gt (tgt := 45) hC dX5_fewest_16 (by decide) h (fun c16 h => ?_) (fun c16 h => ?_)
    · refine g_iconst (v := (-1)) hC dX5_fewest_45 (by decide) ?_
      exact g_iret hC hR dX5_fewest_46 rfl h
    · refine g_aload_n hC dX5_fewest_19 rfl 0 rfl ?_
      refine g_iconst (v := 0) hC dX5_fewest_20 (by decide) ?_
      refine g_iconst (v := 0) hC dX5_fewest_21 (by decide) ?_
      refine g_iload hC dX5_fewest_22 3 rfl ?_
      refine g_aload_n hC dX5_fewest_24 rfl 2 rfl ?_
      obtain ⟨q1, hq1, h⟩ := bd_of h hf
      refine g_cVI (As := [.int 0, .int 0, .int x4, .ref (E.2.2.1 x3)]) hC hO (c_X5_pick _ hC.2.2.2.2.2.2.1 DEP t ht1 ht2 0 0 x4 x3 hx3a hx3b σ (nn_of hq1)) gc_X5_33 (xk_X5_pick (2 * DEP) _ (Nat.le_of_ble_eq_true rfl) (Nat.le_of_ble_eq_true rfl)) cr5 ht1 ht2 rfl (Nat.le_of_ble_eq_true rfl) dX5_fewest_25 hq1 ?_
      refine g_istore (lv' := [(5, .int q1.1), (0, .ref (E.2.2.1 t)), (2, .int x2), (3, .ref (E.2.2.1 x3)), (4, .int x4)]) hC dX5_fewest_28 (by decide) rfl ?_
      refine g_iload hC dX5_fewest_30 0 rfl ?_
      refine g_iconst (v := (-1)) hC dX5_fewest_32 (by decide) ?_
      refine g_icmp_eq (tgt := 39) hC dX5_fewest_33 (by decide) h (fun c33 h => ?_) (fun c33 h => ?_)
      · refine g_iinc (v := x4 + 1) (lv' := [(4, .int (x4 + 1)), (5, .int q1.1), (0, .ref (E.2.2.1 t)), (2, .int x2), (3, .ref (E.2.2.1 x3))]) hC dX5_fewest_39 4 rfl rfl (by decide) rfl ?_
        refine g_goto (tgt := 13) hC dX5_fewest_42 (by decide) ?_
        exact g_sub [2, 3, 4, 0] rfl (ih (x4 + 1) q1.2 h)
      · refine g_iload hC dX5_fewest_36 0 rfl ?_
        exact g_iret hC hR dX5_fewest_38 rfl h
set_option maxHeartbeats 4000000 in
set_option maxRecDepth 100000 in
theorem k_X5_fewest_0 {E : ET} {F : FT} {fo : Option (Int32 × HS)} (hC : Cx E F 6 cX5_fewest RX5 GT) (hO : Ro F rm_X5_fewest) (hR : RI E F .int fo) (hf : fo ≠ none) (t : Nat) (ht1 : kd t = 5) (ht2 : AL E t) (x1 : Nat) (hx1a : kd x1 = 1) (hx1b : AL E x1) (x2 : Int32) (x3 : Nat) (hx3a : kd x3 = 14) (hx3b : AL E x3) (σ : HS) (h : f_X5_fewest t x1 x2 x3 σ = fo) : G E F 0 [(0, .ref (E.2.2.1 t)), (1, .ref (E.2.2.1 x1)), (2, .int x2), (3, .ref (E.2.2.1 x3))] [] σ := by
    refine g_aload_n hC dX5_fewest_0 rfl 0 rfl ?_
    refine g_getR (cj := 17) (k := 0) hC cr5 ui_5 ht1 ht2 (by decide) fl_X5_21 rfl rfl dX5_fewest_1 h hf (fun a1 ea1 ka1 na1 h => ?_)
    refine g_iconst (v := 0) hC dX5_fewest_4 (by decide) ?_
    refine g_aaldC (cj := 1) hC ka1 na1 dX5_fewest_5 h hf (fun a2 ea2 ka2 na2 h => ?_)
    refine g_aload_n hC dX5_fewest_6 rfl 1 rfl ?_
    obtain ⟨q3, hq3, h⟩ := bd_of h hf
    refine g_cVV (As := [.ref (E.2.2.1 x1)]) hC hO (c_X1_become _ hC.2.2.2.2.2.2.1 a2 ka2 na2 x1 hx1a hx1b σ (nn_of hq3)) gc_X5_27 (xk_X1_become _ (Nat.le_of_ble_eq_true rfl) (Nat.le_of_ble_eq_true rfl)) cr1 ka2 na2 rfl (Nat.le_of_ble_eq_true rfl) dX5_fewest_7 hq3 ?_
    refine g_iconst (v := 0) hC dX5_fewest_10 (by decide) ?_
    refine g_istore (lv' := [(4, .int 0), (0, .ref (E.2.2.1 t)), (1, .ref (E.2.2.1 x1)), (2, .int x2), (3, .ref (E.2.2.1 x3))]) hC dX5_fewest_11 (by decide) rfl ?_
    exact g_sub [1, 3, 4, 0] rfl (k_X5_fewest_13 hC hO hR hf t ht1 ht2 x2 x3 hx3a hx3b FU 0 q3 h)
theorem xk_X5_fewest (R : Room) (h1 : 28 + 1 ≤ R.frames) (h2 : 1113 ≤ R.locals) : xw R yX5_fewest w_X5_fewest GT cX5_fewest 6 (some .int) rm_X5_fewest 3 := ⟨rfl, rfl, rfl, h1, h2, ⟨by decide, by decide⟩, by decide +kernel⟩
theorem c_X5_fewest (E : ET) (hE : EO E) (t : Nat) (ht1 : kd t = 5) (ht2 : AL E t) (x1 : Nat) (hx1a : kd x1 = 1) (hx1b : AL E x1) (x2 : Int32) (x3 : Nat) (hx3a : kd x3 = 14) (hx3b : AL E x3) (σ : HS) (hn : f_X5_fewest t x1 x2 x3 σ ≠ none) : CoI E yX5_fewest w_X5_fewest rm_X5_fewest [.ref (E.2.2.1 t), .ref (E.2.2.1 x1), .int x2, .ref (E.2.2.1 x3)] σ (f_X5_fewest t x1 x2 x3 σ) := CoI.of (lv := [(0, .ref (E.2.2.1 t)), (1, .ref (E.2.2.1 x1)), (2, .int x2), (3, .ref (E.2.2.1 x3))]) hE (plainFor_of_name (by decide)) rfl (Nat.le_of_ble_eq_true rfl) rfl (fun F hC hO hR => k_X5_fewest_0 hC hO hR hn t ht1 ht2 x1 hx1a hx1b x2 x3 hx3a hx3b σ rfl)
def rm_X8_kindOf : Room := { frames := 0, cells := 0, slots := 0, locals := 0 }
set_option maxHeartbeats 4000000 in
set_option maxRecDepth 100000 in
theorem k_X8_kindOf_39 {E : ET} {F : FT} {fo : Option (Int32 × HS)} (hC : Cx E F 1 cX8_kindOf RX8 GT) (hO : Ro F rm_X8_kindOf) (hR : RI E F .int fo) (hf : fo ≠ none) (s0 : Int32) (σ : HS) (h : f_X8_kindOf_39 s0 σ = fo) : G E F 39 [] [.int s0] σ := by
    exact g_iret hC hR dX8_kindOf_39 rfl h
set_option maxHeartbeats 4000000 in
set_option maxRecDepth 100000 in
theorem k_X8_kindOf_28 {E : ET} {F : FT} {fo : Option (Int32 × HS)} (hC : Cx E F 1 cX8_kindOf RX8 GT) (hO : Ro F rm_X8_kindOf) (hR : RI E F .int fo) (hf : fo ≠ none) (x0 : Int32) (σ : HS) (h : f_X8_kindOf_28 x0 σ = fo) : G E F 28 [(0, .int x0)] [] σ := by
    refine g_iload_n hC dX8_kindOf_28 rfl 0 rfl ?_
    refine g_bipush (v := 59) hC dX8_kindOf_29 (by decide) ?_
    refine g_icmp_ne (tgt := 38) hC dX8_kindOf_31 (by decide) h (fun c31 h => ?_) (fun c31 h => ?_)
    · refine g_iconst (v := 4) hC dX8_kindOf_38 (by decide) ?_
      exact g_sub [] rfl (k_X8_kindOf_39 hC hO hR hf 4 σ h)
    · refine g_iconst (v := 3) hC dX8_kindOf_34 (by decide) ?_
      refine g_goto (tgt := 39) hC dX8_kindOf_35 (by decide) ?_
      exact g_sub [] rfl (k_X8_kindOf_39 hC hO hR hf 3 σ h)
set_option maxHeartbeats 4000000 in
set_option maxRecDepth 100000 in
theorem k_X8_kindOf_14 {E : ET} {F : FT} {fo : Option (Int32 × HS)} (hC : Cx E F 1 cX8_kindOf RX8 GT) (hO : Ro F rm_X8_kindOf) (hR : RI E F .int fo) (hf : fo ≠ none) (x0 : Int32) (σ : HS) (h : f_X8_kindOf_14 x0 σ = fo) : G E F 14 [(0, .int x0)] [] σ := by
    refine g_iload_n hC dX8_kindOf_14 rfl 0 rfl ?_
    refine g_bipush (v := 48) hC dX8_kindOf_15 (by decide) ?_
    refine g_icmp_lt (tgt := 28) hC dX8_kindOf_17 (by decide) h (fun c17 h => ?_) (fun c17 h => ?_)
    · exact g_sub [0] rfl (k_X8_kindOf_28 hC hO hR hf x0 σ h)
    · refine g_iload_n hC dX8_kindOf_20 rfl 0 rfl ?_
      refine g_bipush (v := 57) hC dX8_kindOf_21 (by decide) ?_
      refine g_icmp_gt (tgt := 28) hC dX8_kindOf_23 (by decide) h (fun c23 h => ?_) (fun c23 h => ?_)
      · exact g_sub [0] rfl (k_X8_kindOf_28 hC hO hR hf x0 σ h)
      · refine g_iconst (v := 2) hC dX8_kindOf_26 (by decide) ?_
        exact g_iret hC hR dX8_kindOf_27 rfl h
set_option maxHeartbeats 4000000 in
set_option maxRecDepth 100000 in
theorem k_X8_kindOf_0 {E : ET} {F : FT} {fo : Option (Int32 × HS)} (hC : Cx E F 1 cX8_kindOf RX8 GT) (hO : Ro F rm_X8_kindOf) (hR : RI E F .int fo) (hf : fo ≠ none) (x0 : Int32) (σ : HS) (h : f_X8_kindOf x0 σ = fo) : G E F 0 [(0, .int x0)] [] σ := by
    refine g_iload_n hC dX8_kindOf_0 rfl 0 rfl ?_
    refine g_bipush (v := 97) hC dX8_kindOf_1 (by decide) ?_
    refine g_icmp_lt (tgt := 14) hC dX8_kindOf_3 (by decide) h (fun c3 h => ?_) (fun c3 h => ?_)
    · exact g_sub [0] rfl (k_X8_kindOf_14 hC hO hR hf x0 σ h)
    · refine g_iload_n hC dX8_kindOf_6 rfl 0 rfl ?_
      refine g_bipush (v := 122) hC dX8_kindOf_7 (by decide) ?_
      refine g_icmp_gt (tgt := 14) hC dX8_kindOf_9 (by decide) h (fun c9 h => ?_) (fun c9 h => ?_)
      · exact g_sub [0] rfl (k_X8_kindOf_14 hC hO hR hf x0 σ h)
      · refine g_iconst (v := 1) hC dX8_kindOf_12 (by decide) ?_
        exact g_iret hC hR dX8_kindOf_13 rfl h
theorem xk_X8_kindOf (R : Room) (h1 : 0 + 1 ≤ R.frames) (h2 : 32 ≤ R.locals) : xw R yX8_kindOf w_X8_kindOf GT cX8_kindOf 1 (some .int) rm_X8_kindOf 1 := ⟨rfl, rfl, rfl, h1, h2, ⟨by decide, by decide⟩, by decide +kernel⟩
theorem c_X8_kindOf (E : ET) (hE : EO E) (x0 : Int32) (σ : HS) (hn : f_X8_kindOf x0 σ ≠ none) : CoI E yX8_kindOf w_X8_kindOf rm_X8_kindOf [.int x0] σ (f_X8_kindOf x0 σ) := CoI.of (lv := [(0, .int x0)]) hE (plainFor_of_name (by decide)) rfl (Nat.le_of_ble_eq_true rfl) rfl (fun F hC hO hR => k_X8_kindOf_0 hC hO hR hn x0 σ rfl)
def rm_X8_step : Room := { frames := 1, cells := 0, slots := 0, locals := 33 }
theorem fl_X8_25 : Cond.fieldLink RX8 25 "EveryMeasure$Tape" (TX8 4).2.1 (TX8 4).2.2.1 ∈ GT := gtr_3 _ (List.mem_of_getElem? (i := 20) rfl)
theorem fl_X8_22 : Cond.fieldLink RX8 22 "EveryMeasure$Tape" (TX8 3).2.1 (TX8 3).2.2.1 ∈ GT := gtr_3 _ (List.mem_of_getElem? (i := 19) rfl)
theorem fl_X8_15 : Cond.fieldLink RX8 15 "EveryMeasure$Tape" (TX8 1).2.1 (TX8 1).2.2.1 ∈ GT := gtr_3 _ (List.mem_of_getElem? (i := 17) rfl)
theorem fl_X8_19 : Cond.fieldLink RX8 19 "EveryMeasure$Tape" (TX8 2).2.1 (TX8 2).2.2.1 ∈ GT := gtr_3 _ (List.mem_of_getElem? (i := 18) rfl)
theorem wc_J9_min_7cf53 : Cond.code yJ9_min_7cf53 cJ9_min_7cf53 2 (some .int) ∈ GT := gtr_14 _ (List.mem_of_getElem? (i := 8) rfl)
theorem gc_X8_35 : GoodIn GT (va_wsS RX8 35 yJ9_min_7cf53 w_J9_min_7cf53) := gi_S (gtr_14 _ (List.mem_of_getElem? (i := 5) rfl)) (gtr_14 _ (List.mem_of_getElem? (i := 6) rfl)) (gtr_49 _ (List.mem_of_getElem? (i := 7) rfl)) wc_J9_min_7cf53
theorem fl_X8_9 : Cond.fieldLink RX8 9 "EveryMeasure$Tape" (TX8 0).2.1 (TX8 0).2.2.1 ∈ GT := gtr_3 _ (List.mem_of_getElem? (i := 16) rfl)
theorem wc_X8_kindOf : Cond.code yX8_kindOf cX8_kindOf 1 (some .int) ∈ GT := gtr_14 _ (List.mem_of_getElem? (i := 11) rfl)
theorem gc_X8_31 : GoodIn GT (va_wsS RX8 31 yX8_kindOf w_X8_kindOf) := gi_S (gtr_14 _ (List.mem_of_getElem? (i := 9) rfl)) (gtr_14 _ (List.mem_of_getElem? (i := 10) rfl)) (gtr_1 _ (List.mem_of_getElem? (i := 16) rfl)) wc_X8_kindOf
set_option maxHeartbeats 4000000 in
set_option maxRecDepth 100000 in
theorem k_X8_step_212 {E : ET} {F : FT} {fo : Option HS} (hC : Cx E F 2 cX8_step RX8 GT) (hO : Ro F rm_X8_step) (hR : RV E F fo) (hf : fo ≠ none) (σ : HS) (h : f_X8_step_212 σ = fo) : G E F 212 [] [] σ := by
    exact g_vret hC hR dX8_step_212 h
set_option maxHeartbeats 4000000 in
set_option maxRecDepth 100000 in
theorem k_X8_step_204 {E : ET} {F : FT} {fo : Option HS} (hC : Cx E F 2 cX8_step RX8 GT) (hO : Ro F rm_X8_step) (hR : RV E F fo) (hf : fo ≠ none) (t : Nat) (ht1 : kd t = 8) (ht2 : AL E t) (s0 : Int32) (s1 : Int32) (σ : HS) (h : f_X8_step_204 t s0 s1 σ = fo) : G E F 204 [(0, .ref (E.2.2.1 t))] [.int s0, .int s1] σ := by
    refine g_icmp_le (tgt := 212) hC dX8_step_204 (by decide) h (fun c204 h => ?_) (fun c204 h => ?_)
    · exact g_sub [] rfl (k_X8_step_212 hC hO hR hf σ h)
    · refine g_aload_n hC dX8_step_207 rfl 0 rfl ?_
      refine g_iconst (v := 4) hC dX8_step_208 (by decide) ?_
      refine g_putI (k := 2) hC cr8 ui_8 tyX8_ok nmX8 ht1 ht2 (by decide) fl_X8_19 rfl rfl rfl rfl dX8_step_209 ?_
      exact g_sub [] rfl (k_X8_step_212 hC hO hR hf (sI σ t 2 4) h)
set_option maxHeartbeats 4000000 in
set_option maxRecDepth 100000 in
theorem k_X8_step_177 {E : ET} {F : FT} {fo : Option HS} (hC : Cx E F 2 cX8_step RX8 GT) (hO : Ro F rm_X8_step) (hR : RV E F fo) (hf : fo ≠ none) (t : Nat) (ht1 : kd t = 8) (ht2 : AL E t) (x1 : Int32) (σ : HS) (h : f_X8_step_177 t x1 σ = fo) : G E F 177 [(0, .ref (E.2.2.1 t)), (1, .int x1)] [] σ := by
    refine g_iload_n hC dX8_step_177 rfl 1 rfl ?_
    refine g_if_eq (tgt := 212) hC dX8_step_178 (by decide) h (fun c178 h => ?_) (fun c178 h => ?_)
    · exact g_sub [] rfl (k_X8_step_212 hC hO hR hf σ h)
    · refine g_aload_n hC dX8_step_181 rfl 0 rfl ?_
      refine g_getI (k := 4) hC cr8 ui_8 ht1 ht2 (by decide) fl_X8_25 rfl rfl dX8_step_182 ?_
      refine g_aload_n hC dX8_step_185 rfl 0 rfl ?_
      refine g_getI (k := 3) hC cr8 ui_8 ht1 ht2 (by decide) fl_X8_22 rfl rfl dX8_step_186 ?_
      refine g_isub hC dX8_step_189 ?_
      refine g_aload_n hC dX8_step_190 rfl 0 rfl ?_
      refine g_getI (k := 2) hC cr8 ui_8 ht1 ht2 (by decide) fl_X8_19 rfl rfl dX8_step_191 ?_
      refine g_iconst (v := 1) hC dX8_step_194 (by decide) ?_
      refine g_icmp_ne (tgt := 203) hC dX8_step_195 (by decide) h (fun c195 h => ?_) (fun c195 h => ?_)
      · refine g_iconst (v := 3) hC dX8_step_203 (by decide) ?_
        exact g_sub [0] rfl (k_X8_step_204 hC hO hR hf t ht1 ht2 3 ((σ.1 t 4) - (σ.1 t 3)) σ h)
      · refine g_bipush (v := 8) hC dX8_step_198 (by decide) ?_
        refine g_goto (tgt := 204) hC dX8_step_200 (by decide) ?_
        exact g_sub [0] rfl (k_X8_step_204 hC hO hR hf t ht1 ht2 8 ((σ.1 t 4) - (σ.1 t 3)) σ h)
set_option maxHeartbeats 4000000 in
set_option maxRecDepth 100000 in
theorem k_X8_step_130 {E : ET} {F : FT} {fo : Option HS} (hC : Cx E F 2 cX8_step RX8 GT) (hO : Ro F rm_X8_step) (hR : RV E F fo) (hf : fo ≠ none) (t : Nat) (ht1 : kd t = 8) (ht2 : AL E t) (x1 : Int32) : ∀ (n : Nat)  (σ : HS), f_X8_step_130 t x1 n σ = fo → G E F 130 [(0, .ref (E.2.2.1 t)), (1, .int x1)] [] σ := by
  intro n
  induction n with
  | zero =>
    intro σ h
    exact absurd (h.symm.trans rfl) hf
  | succ n ih =>
    intro σ h
    refine g_iload_n hC dX8_step_130 rfl 1 rfl ?_
    refine g_if_eq (tgt := 177) hC dX8_step_131 (by decide) h (fun c131 h => ?_) (fun c131 h => ?_)
    · exact g_sub [0, 1] rfl (k_X8_step_177 hC hO hR hf t ht1 ht2 x1 σ h)
    · refine g_aload_n hC dX8_step_134 rfl 0 rfl ?_
      refine g_getI (k := 4) hC cr8 ui_8 ht1 ht2 (by decide) fl_X8_25 rfl rfl dX8_step_135 ?_
      refine g_aload_n hC dX8_step_138 rfl 0 rfl ?_
      refine g_getI (k := 1) hC cr8 ui_8 ht1 ht2 (by decide) fl_X8_15 rfl rfl dX8_step_139 ?_
      refine g_icmp_ge (tgt := 177) hC dX8_step_142 (by decide) h (fun c142 h => ?_) (fun c142 h => ?_)
      · exact g_sub [0, 1] rfl (k_X8_step_177 hC hO hR hf t ht1 ht2 x1 σ h)
      · refine g_aload_n hC dX8_step_145 rfl 0 rfl ?_
        refine g_getR (cj := 13) (k := 0) hC cr8 ui_8 ht1 ht2 (by decide) fl_X8_9 rfl rfl dX8_step_146 h hf (fun a1 ea1 ka1 na1 h => ?_)
        refine g_aload_n hC dX8_step_149 rfl 0 rfl ?_
        refine g_getI (k := 4) hC cr8 ui_8 ht1 ht2 (by decide) fl_X8_25 rfl rfl dX8_step_150 ?_
        refine g_bald hC ka1 na1 dX8_step_153 h hf (fun h => ?_)
        obtain ⟨q2, hq2, h⟩ := bd_of h hf
        refine g_cSI (As := [.int (σ.1 a1 (σ.1 t 4).toNatClampNeg)]) hC hO (c_X8_kindOf _ hC.2.2.2.2.2.2.1 (σ.1 a1 (σ.1 t 4).toNatClampNeg) σ (nn_of hq2)) gc_X8_31 (xk_X8_kindOf _ (Nat.le_of_ble_eq_true rfl) (Nat.le_of_ble_eq_true rfl)) rfl (Nat.le_of_ble_eq_true rfl) dX8_step_154 hq2 ?_
        refine g_aload_n hC dX8_step_157 rfl 0 rfl ?_
        refine g_getI (k := 2) hC cr8 ui_8 ht1 ht2 (by decide) fl_X8_19 rfl rfl dX8_step_158 ?_
        refine g_icmp_ne (tgt := 177) hC dX8_step_161 (by decide) h (fun c161 h => ?_) (fun c161 h => ?_)
        · exact g_sub [0, 1] rfl (k_X8_step_177 hC hO hR hf t ht1 ht2 x1 q2.2 h)
        · refine g_aload_n hC dX8_step_164 rfl 0 rfl ?_
          refine g_dup hC dX8_step_165 rfl ?_
          refine g_getI (k := 4) hC cr8 ui_8 ht1 ht2 (by decide) fl_X8_25 rfl rfl dX8_step_166 ?_
          refine g_iconst (v := 1) hC dX8_step_169 (by decide) ?_
          refine g_iadd hC dX8_step_170 ?_
          refine g_putI (k := 4) hC cr8 ui_8 tyX8_ok nmX8 ht1 ht2 (by decide) fl_X8_25 rfl rfl rfl rfl dX8_step_171 ?_
          refine g_goto (tgt := 130) hC dX8_step_174 (by decide) ?_
          exact g_sub [0, 1] rfl (ih (sI q2.2 t 4 ((q2.2.1 t 4) + 1)) h)
set_option maxHeartbeats 4000000 in
set_option maxRecDepth 100000 in
theorem k_X8_step_129 {E : ET} {F : FT} {fo : Option HS} (hC : Cx E F 2 cX8_step RX8 GT) (hO : Ro F rm_X8_step) (hR : RV E F fo) (hf : fo ≠ none) (t : Nat) (ht1 : kd t = 8) (ht2 : AL E t) (s0 : Int32) (σ : HS) (h : f_X8_step_129 t s0 σ = fo) : G E F 129 [(0, .ref (E.2.2.1 t))] [.int s0] σ := by
    refine g_istore_n (lv' := [(1, .int s0), (0, .ref (E.2.2.1 t))]) hC dX8_step_129 rfl (by decide) rfl ?_
    exact g_sub [1, 0] rfl (k_X8_step_130 hC hO hR hf t ht1 ht2 s0 FU σ h)
set_option maxHeartbeats 4000000 in
set_option maxRecDepth 100000 in
theorem k_X8_step_124 {E : ET} {F : FT} {fo : Option HS} (hC : Cx E F 2 cX8_step RX8 GT) (hO : Ro F rm_X8_step) (hR : RV E F fo) (hf : fo ≠ none) (t : Nat) (ht1 : kd t = 8) (ht2 : AL E t) (σ : HS) (h : f_X8_step_124 t σ = fo) : G E F 124 [(0, .ref (E.2.2.1 t))] [] σ := by
    refine g_iconst (v := 1) hC dX8_step_124 (by decide) ?_
    refine g_goto (tgt := 129) hC dX8_step_125 (by decide) ?_
    exact g_sub [0] rfl (k_X8_step_129 hC hO hR hf t ht1 ht2 1 σ h)
set_option maxHeartbeats 4000000 in
set_option maxRecDepth 100000 in
theorem k_X8_step_88 {E : ET} {F : FT} {fo : Option HS} (hC : Cx E F 2 cX8_step RX8 GT) (hO : Ro F rm_X8_step) (hR : RV E F fo) (hf : fo ≠ none) (t : Nat) (ht1 : kd t = 8) (ht2 : AL E t) (s0 : Int32) (s1 : Nat) (hs1a : kd s1 = 8) (hs1b : AL E s1) (σ : HS) (h : f_X8_step_88 t s0 s1 σ = fo) : G E F 88 [(0, .ref (E.2.2.1 t))] [.int s0, .ref (E.2.2.1 s1)] σ := by
    refine g_putI (k := 2) hC cr8 ui_8 tyX8_ok nmX8 hs1a hs1b (by decide) fl_X8_19 rfl rfl rfl rfl dX8_step_88 ?_
    refine g_aload_n hC dX8_step_91 rfl 0 rfl ?_
    refine g_aload_n hC dX8_step_92 rfl 0 rfl ?_
    refine g_getI (k := 3) hC cr8 ui_8 ht1 ht2 (by decide) fl_X8_22 rfl rfl dX8_step_93 ?_
    refine g_iconst (v := 1) hC dX8_step_96 (by decide) ?_
    refine g_iadd hC dX8_step_97 ?_
    refine g_aload_n hC dX8_step_98 rfl 0 rfl ?_
    refine g_getI (k := 1) hC cr8 ui_8 ht1 ht2 (by decide) fl_X8_15 rfl rfl dX8_step_99 ?_
    obtain ⟨q1, hq1, h⟩ := bd_of h hf
    refine g_cSI (As := [.int (((sI σ s1 2 s0).1 t 3) + 1), .int ((sI σ s1 2 s0).1 t 1)]) hC hO (c_J9_min_7cf53 _ hC.2.2.2.2.2.2.1 (((sI σ s1 2 s0).1 t 3) + 1) ((sI σ s1 2 s0).1 t 1) (sI σ s1 2 s0) (nn_of hq1)) gc_X8_35 (xk_J9_min_7cf53 _ (Nat.le_of_ble_eq_true rfl) (Nat.le_of_ble_eq_true rfl)) rfl (Nat.le_of_ble_eq_true rfl) dX8_step_102 hq1 ?_
    refine g_putI (k := 4) hC cr8 ui_8 tyX8_ok nmX8 ht1 ht2 (by decide) fl_X8_25 rfl rfl rfl rfl dX8_step_105 ?_
    refine g_aload_n hC dX8_step_108 rfl 0 rfl ?_
    refine g_getI (k := 2) hC cr8 ui_8 ht1 ht2 (by decide) fl_X8_19 rfl rfl dX8_step_109 ?_
    refine g_iconst (v := 1) hC dX8_step_112 (by decide) ?_
    refine g_icmp_eq (tgt := 124) hC dX8_step_113 (by decide) h (fun c113 h => ?_) (fun c113 h => ?_)
    · exact g_sub [0] rfl (k_X8_step_124 hC hO hR hf t ht1 ht2 (sI q1.2 t 4 q1.1) h)
    · refine g_aload_n hC dX8_step_116 rfl 0 rfl ?_
      refine g_getI (k := 2) hC cr8 ui_8 ht1 ht2 (by decide) fl_X8_19 rfl rfl dX8_step_117 ?_
      refine g_iconst (v := 2) hC dX8_step_120 (by decide) ?_
      refine g_icmp_ne (tgt := 128) hC dX8_step_121 (by decide) h (fun c121 h => ?_) (fun c121 h => ?_)
      · refine g_iconst (v := 0) hC dX8_step_128 (by decide) ?_
        exact g_sub [0] rfl (k_X8_step_129 hC hO hR hf t ht1 ht2 0 (sI q1.2 t 4 q1.1) h)
      · exact g_sub [0] rfl (k_X8_step_124 hC hO hR hf t ht1 ht2 (sI q1.2 t 4 q1.1) h)
set_option maxHeartbeats 4000000 in
set_option maxRecDepth 100000 in
theorem k_X8_step_60 {E : ET} {F : FT} {fo : Option HS} (hC : Cx E F 2 cX8_step RX8 GT) (hO : Ro F rm_X8_step) (hR : RV E F fo) (hf : fo ≠ none) (t : Nat) (ht1 : kd t = 8) (ht2 : AL E t) (σ : HS) (h : f_X8_step_60 t σ = fo) : G E F 60 [(0, .ref (E.2.2.1 t))] [] σ := by
    refine g_aload_n hC dX8_step_60 rfl 0 rfl ?_
    refine g_aload_n hC dX8_step_61 rfl 0 rfl ?_
    refine g_getI (k := 3) hC cr8 ui_8 ht1 ht2 (by decide) fl_X8_22 rfl rfl dX8_step_62 ?_
    refine g_aload_n hC dX8_step_65 rfl 0 rfl ?_
    refine g_getI (k := 1) hC cr8 ui_8 ht1 ht2 (by decide) fl_X8_15 rfl rfl dX8_step_66 ?_
    refine g_icmp_ge (tgt := 87) hC dX8_step_69 (by decide) h (fun c69 h => ?_) (fun c69 h => ?_)
    · refine g_iconst (v := 0) hC dX8_step_87 (by decide) ?_
      exact g_sub [0] rfl (k_X8_step_88 hC hO hR hf t ht1 ht2 0 t ht1 ht2 σ h)
    · refine g_aload_n hC dX8_step_72 rfl 0 rfl ?_
      refine g_getR (cj := 13) (k := 0) hC cr8 ui_8 ht1 ht2 (by decide) fl_X8_9 rfl rfl dX8_step_73 h hf (fun a1 ea1 ka1 na1 h => ?_)
      refine g_aload_n hC dX8_step_76 rfl 0 rfl ?_
      refine g_getI (k := 3) hC cr8 ui_8 ht1 ht2 (by decide) fl_X8_22 rfl rfl dX8_step_77 ?_
      refine g_bald hC ka1 na1 dX8_step_80 h hf (fun h => ?_)
      obtain ⟨q2, hq2, h⟩ := bd_of h hf
      refine g_cSI (As := [.int (σ.1 a1 (σ.1 t 3).toNatClampNeg)]) hC hO (c_X8_kindOf _ hC.2.2.2.2.2.2.1 (σ.1 a1 (σ.1 t 3).toNatClampNeg) σ (nn_of hq2)) gc_X8_31 (xk_X8_kindOf _ (Nat.le_of_ble_eq_true rfl) (Nat.le_of_ble_eq_true rfl)) rfl (Nat.le_of_ble_eq_true rfl) dX8_step_81 hq2 ?_
      refine g_goto (tgt := 88) hC dX8_step_84 (by decide) ?_
      exact g_sub [0] rfl (k_X8_step_88 hC hO hR hf t ht1 ht2 q2.1 t ht1 ht2 q2.2 h)
set_option maxHeartbeats 4000000 in
set_option maxRecDepth 100000 in
theorem k_X8_step_47 {E : ET} {F : FT} {fo : Option HS} (hC : Cx E F 2 cX8_step RX8 GT) (hO : Ro F rm_X8_step) (hR : RV E F fo) (hf : fo ≠ none) (t : Nat) (ht1 : kd t = 8) (ht2 : AL E t) (r8 : HS → Option HS) (h8 : ∀  (σ : HS), r8  σ = fo → G E F 8 [(0, .ref (E.2.2.1 t))] [] σ) (σ : HS) (h : f_X8_step_47 r8 t σ = fo) : G E F 47 [(0, .ref (E.2.2.1 t))] [] σ := by
    refine g_aload_n hC dX8_step_47 rfl 0 rfl ?_
    refine g_dup hC dX8_step_48 rfl ?_
    refine g_getI (k := 3) hC cr8 ui_8 ht1 ht2 (by decide) fl_X8_22 rfl rfl dX8_step_49 ?_
    refine g_iconst (v := 1) hC dX8_step_52 (by decide) ?_
    refine g_iadd hC dX8_step_53 ?_
    refine g_putI (k := 3) hC cr8 ui_8 tyX8_ok nmX8 ht1 ht2 (by decide) fl_X8_22 rfl rfl rfl rfl dX8_step_54 ?_
    refine g_goto (tgt := 8) hC dX8_step_57 (by decide) ?_
    exact g_sub [0] rfl (h8 (sI σ t 3 ((σ.1 t 3) + 1)) h)
set_option maxHeartbeats 4000000 in
set_option maxRecDepth 100000 in
theorem k_X8_step_8 {E : ET} {F : FT} {fo : Option HS} (hC : Cx E F 2 cX8_step RX8 GT) (hO : Ro F rm_X8_step) (hR : RV E F fo) (hf : fo ≠ none) (t : Nat) (ht1 : kd t = 8) (ht2 : AL E t) : ∀ (n : Nat)  (σ : HS), f_X8_step_8 t n σ = fo → G E F 8 [(0, .ref (E.2.2.1 t))] [] σ := by
  intro n
  induction n with
  | zero =>
    intro σ h
    exact absurd (h.symm.trans rfl) hf
  | succ n ih =>
    intro σ h
    refine g_aload_n hC dX8_step_8 rfl 0 rfl ?_
    refine g_getI (k := 3) hC cr8 ui_8 ht1 ht2 (by decide) fl_X8_22 rfl rfl dX8_step_9 ?_
    refine g_aload_n hC dX8_step_12 rfl 0 rfl ?_
    refine g_getI (k := 1) hC cr8 ui_8 ht1 ht2 (by decide) fl_X8_15 rfl rfl dX8_step_13 ?_
    refine g_icmp_ge (tgt := 60) hC dX8_step_16 (by decide) h (fun c16 h => ?_) (fun c16 h => ?_)
    · exact g_sub [0] rfl (k_X8_step_60 hC hO hR hf t ht1 ht2 σ h)
    · refine g_aload_n hC dX8_step_19 rfl 0 rfl ?_
      refine g_getR (cj := 13) (k := 0) hC cr8 ui_8 ht1 ht2 (by decide) fl_X8_9 rfl rfl dX8_step_20 h hf (fun a1 ea1 ka1 na1 h => ?_)
      refine g_aload_n hC dX8_step_23 rfl 0 rfl ?_
      refine g_getI (k := 3) hC cr8 ui_8 ht1 ht2 (by decide) fl_X8_22 rfl rfl dX8_step_24 ?_
      refine g_bald hC ka1 na1 dX8_step_27 h hf (fun h => ?_)
      refine g_bipush (v := 10) hC dX8_step_28 (by decide) ?_
      refine g_icmp_eq (tgt := 47) hC dX8_step_30 (by decide) h (fun c30 h => ?_) (fun c30 h => ?_)
      · exact g_sub [0] rfl (k_X8_step_47 hC hO hR hf t ht1 ht2 (f_X8_step_8 t n) ih σ h)
      · refine g_aload_n hC dX8_step_33 rfl 0 rfl ?_
        refine g_getR (cj := 13) (k := 0) hC cr8 ui_8 ht1 ht2 (by decide) fl_X8_9 rfl rfl dX8_step_34 h hf (fun a2 ea2 ka2 na2 h => ?_)
        refine g_aload_n hC dX8_step_37 rfl 0 rfl ?_
        refine g_getI (k := 3) hC cr8 ui_8 ht1 ht2 (by decide) fl_X8_22 rfl rfl dX8_step_38 ?_
        refine g_bald hC ka2 na2 dX8_step_41 h hf (fun h => ?_)
        refine g_bipush (v := 32) hC dX8_step_42 (by decide) ?_
        refine g_icmp_ne (tgt := 60) hC dX8_step_44 (by decide) h (fun c44 h => ?_) (fun c44 h => ?_)
        · exact g_sub [0] rfl (k_X8_step_60 hC hO hR hf t ht1 ht2 σ h)
        · exact g_sub [0] rfl (k_X8_step_47 hC hO hR hf t ht1 ht2 (f_X8_step_8 t n) ih σ h)
set_option maxHeartbeats 4000000 in
set_option maxRecDepth 100000 in
theorem k_X8_step_0 {E : ET} {F : FT} {fo : Option HS} (hC : Cx E F 2 cX8_step RX8 GT) (hO : Ro F rm_X8_step) (hR : RV E F fo) (hf : fo ≠ none) (t : Nat) (ht1 : kd t = 8) (ht2 : AL E t) (σ : HS) (h : f_X8_step t σ = fo) : G E F 0 [(0, .ref (E.2.2.1 t))] [] σ := by
    refine g_aload_n hC dX8_step_0 rfl 0 rfl ?_
    refine g_aload_n hC dX8_step_1 rfl 0 rfl ?_
    refine g_getI (k := 4) hC cr8 ui_8 ht1 ht2 (by decide) fl_X8_25 rfl rfl dX8_step_2 ?_
    refine g_putI (k := 3) hC cr8 ui_8 tyX8_ok nmX8 ht1 ht2 (by decide) fl_X8_22 rfl rfl rfl rfl dX8_step_5 ?_
    exact g_sub [0] rfl (k_X8_step_8 hC hO hR hf t ht1 ht2 FU (sI σ t 3 (σ.1 t 4)) h)
theorem xk_X8_step (R : Room) (h1 : 1 + 1 ≤ R.frames) (h2 : 66 ≤ R.locals) : xw R yX8_step w_X8_step GT cX8_step 2 none rm_X8_step 0 := ⟨rfl, rfl, rfl, h1, h2, ⟨by decide, by decide⟩, by decide +kernel⟩
theorem c_X8_step (E : ET) (hE : EO E) (t : Nat) (ht1 : kd t = 8) (ht2 : AL E t) (σ : HS) (hn : f_X8_step t σ ≠ none) : CoV E yX8_step w_X8_step rm_X8_step [.ref (E.2.2.1 t)] σ (f_X8_step t σ) := CoV.of (lv := [(0, .ref (E.2.2.1 t))]) hE (plainFor_of_name (by decide)) rfl (Nat.le_of_ble_eq_true rfl) rfl (fun F hC hO hR => k_X8_step_0 hC hO hR hn t ht1 ht2 σ rfl)
def rm_X8_rewind : Room := { frames := 2, cells := 0, slots := 0, locals := 66 }
theorem wc_X8_step : Cond.code yX8_step cX8_step 2 none ∈ GT := gtr_14 _ (List.mem_of_getElem? (i := 4) rfl)
theorem gc_X8_28 : GoodIn GT (wsV RX8 28 RX8 yX8_step w_X8_step) := gi_V (gtr_14 _ (List.mem_of_getElem? (i := 1) rfl)) (gtr_14 _ (List.mem_of_getElem? (i := 2) rfl)) (gtr_14 _ (List.mem_of_getElem? (i := 3) rfl)) (gtr_1 _ (List.mem_of_getElem? (i := 16) rfl)) wc_X8_step
set_option maxHeartbeats 4000000 in
set_option maxRecDepth 100000 in
theorem k_X8_rewind_0 {E : ET} {F : FT} {fo : Option HS} (hC : Cx E F 1 cX8_rewind RX8 GT) (hO : Ro F rm_X8_rewind) (hR : RV E F fo) (hf : fo ≠ none) (t : Nat) (ht1 : kd t = 8) (ht2 : AL E t) (σ : HS) (h : f_X8_rewind t σ = fo) : G E F 0 [(0, .ref (E.2.2.1 t))] [] σ := by
    refine g_aload_n hC dX8_rewind_0 rfl 0 rfl ?_
    refine g_iconst (v := 0) hC dX8_rewind_1 (by decide) ?_
    refine g_putI (k := 4) hC cr8 ui_8 tyX8_ok nmX8 ht1 ht2 (by decide) fl_X8_25 rfl rfl rfl rfl dX8_rewind_2 ?_
    refine g_aload_n hC dX8_rewind_5 rfl 0 rfl ?_
    obtain ⟨q1, hq1, h⟩ := bd_of h hf
    refine g_cVV (As := []) hC hO (c_X8_step _ hC.2.2.2.2.2.2.1 t ht1 ht2 (sI σ t 4 0) (nn_of hq1)) gc_X8_28 (xk_X8_step _ (Nat.le_of_ble_eq_true rfl) (Nat.le_of_ble_eq_true rfl)) cr8 ht1 ht2 rfl (Nat.le_of_ble_eq_true rfl) dX8_rewind_6 hq1 ?_
    exact g_vret hC hR dX8_rewind_9 h
theorem xk_X8_rewind (R : Room) (h1 : 2 + 1 ≤ R.frames) (h2 : 98 ≤ R.locals) : xw R yX8_rewind w_X8_rewind GT cX8_rewind 1 none rm_X8_rewind 0 := ⟨rfl, rfl, rfl, h1, h2, ⟨by decide, by decide⟩, by decide +kernel⟩
theorem c_X8_rewind (E : ET) (hE : EO E) (t : Nat) (ht1 : kd t = 8) (ht2 : AL E t) (σ : HS) (hn : f_X8_rewind t σ ≠ none) : CoV E yX8_rewind w_X8_rewind rm_X8_rewind [.ref (E.2.2.1 t)] σ (f_X8_rewind t σ) := CoV.of (lv := [(0, .ref (E.2.2.1 t))]) hE (plainFor_of_name (by decide)) rfl (Nat.le_of_ble_eq_true rfl) rfl (fun F hC hO hR => k_X8_rewind_0 hC hO hR hn t ht1 ht2 σ rfl)
def rm_X8_number : Room := { frames := 0, cells := 0, slots := 0, locals := 0 }
set_option maxHeartbeats 4000000 in
set_option maxRecDepth 100000 in
theorem k_X8_number_44 {E : ET} {F : FT} {fo : Option (Int32 × HS)} (hC : Cx E F 3 cX8_number RX8 GT) (hO : Ro F rm_X8_number) (hR : RI E F .int fo) (hf : fo ≠ none) (x1 : Int32) (σ : HS) (h : f_X8_number_44 x1 σ = fo) : G E F 44 [(1, .int x1)] [] σ := by
    refine g_iload_n hC dX8_number_44 rfl 0 rfl ?_
    exact g_iret hC hR dX8_number_45 rfl h
set_option maxHeartbeats 4000000 in
set_option maxRecDepth 100000 in
theorem k_X8_number_7 {E : ET} {F : FT} {fo : Option (Int32 × HS)} (hC : Cx E F 3 cX8_number RX8 GT) (hO : Ro F rm_X8_number) (hR : RI E F .int fo) (hf : fo ≠ none) (t : Nat) (ht1 : kd t = 8) (ht2 : AL E t) : ∀ (n : Nat) (x1 : Int32) (x2 : Int32) (σ : HS), f_X8_number_7 t n x1 x2 σ = fo → G E F 7 [(0, .ref (E.2.2.1 t)), (1, .int x1), (2, .int x2)] [] σ := by
  intro n
  induction n with
  | zero =>
    intro x1 x2 σ h
    exact absurd (h.symm.trans rfl) hf
  | succ n ih =>
    intro x1 x2 σ h
    refine g_iload_n hC dX8_number_7 rfl 2 rfl ?_
    refine g_aload_n hC dX8_number_8 rfl 0 rfl ?_
    refine g_getI (k := 4) hC cr8 ui_8 ht1 ht2 (by decide) fl_X8_25 rfl rfl dX8_number_9 ?_
    refine g_icmp_ge (tgt := 44) hC dX8_number_12 (by decide) h (fun c12 h => ?_) (fun c12 h => ?_)
    · exact g_sub [1] rfl (k_X8_number_44 hC hO hR hf x1 σ h)
    · refine g_aload_n hC dX8_number_15 rfl 0 rfl ?_
      refine g_getI (k := 2) hC cr8 ui_8 ht1 ht2 (by decide) fl_X8_19 rfl rfl dX8_number_16 ?_
      refine g_iconst (v := 2) hC dX8_number_19 (by decide) ?_
      refine g_icmp_ne (tgt := 44) hC dX8_number_20 (by decide) h (fun c20 h => ?_) (fun c20 h => ?_)
      · exact g_sub [1] rfl (k_X8_number_44 hC hO hR hf x1 σ h)
      · refine g_iload_n hC dX8_number_23 rfl 1 rfl ?_
        refine g_bipush (v := 10) hC dX8_number_24 (by decide) ?_
        refine g_imul hC dX8_number_26 ?_
        refine g_aload_n hC dX8_number_27 rfl 0 rfl ?_
        refine g_getR (cj := 13) (k := 0) hC cr8 ui_8 ht1 ht2 (by decide) fl_X8_9 rfl rfl dX8_number_28 h hf (fun a1 ea1 ka1 na1 h => ?_)
        refine g_iload_n hC dX8_number_31 rfl 2 rfl ?_
        refine g_bald hC ka1 na1 dX8_number_32 h hf (fun h => ?_)
        refine g_iadd hC dX8_number_33 ?_
        refine g_bipush (v := 48) hC dX8_number_34 (by decide) ?_
        refine g_isub hC dX8_number_36 ?_
        refine g_istore_n (lv' := [(1, .int (((x1 * 10) + (σ.1 a1 x2.toNatClampNeg)) - 48)), (0, .ref (E.2.2.1 t)), (2, .int x2)]) hC dX8_number_37 rfl (by decide) rfl ?_
        refine g_iinc (v := x2 + 1) (lv' := [(2, .int (x2 + 1)), (1, .int (((x1 * 10) + (σ.1 a1 x2.toNatClampNeg)) - 48)), (0, .ref (E.2.2.1 t))]) hC dX8_number_38 2 rfl rfl (by decide) rfl ?_
        refine g_goto (tgt := 7) hC dX8_number_41 (by decide) ?_
        exact g_sub [2, 1, 0] rfl (ih (((x1 * 10) + (σ.1 a1 x2.toNatClampNeg)) - 48) (x2 + 1) σ h)
set_option maxHeartbeats 4000000 in
set_option maxRecDepth 100000 in
theorem k_X8_number_0 {E : ET} {F : FT} {fo : Option (Int32 × HS)} (hC : Cx E F 3 cX8_number RX8 GT) (hO : Ro F rm_X8_number) (hR : RI E F .int fo) (hf : fo ≠ none) (t : Nat) (ht1 : kd t = 8) (ht2 : AL E t) (σ : HS) (h : f_X8_number t σ = fo) : G E F 0 [(0, .ref (E.2.2.1 t))] [] σ := by
    refine g_iconst (v := 0) hC dX8_number_0 (by decide) ?_
    refine g_istore_n (lv' := [(1, .int 0), (0, .ref (E.2.2.1 t))]) hC dX8_number_1 rfl (by decide) rfl ?_
    refine g_aload_n hC dX8_number_2 rfl 1 rfl ?_
    refine g_getI (k := 3) hC cr8 ui_8 ht1 ht2 (by decide) fl_X8_22 rfl rfl dX8_number_3 ?_
    refine g_istore_n (lv' := [(2, .int (σ.1 t 3)), (1, .int 0), (0, .ref (E.2.2.1 t))]) hC dX8_number_6 rfl (by decide) rfl ?_
    exact g_sub [2, 1, 0] rfl (k_X8_number_7 hC hO hR hf t ht1 ht2 FU 0 (σ.1 t 3) σ h)
theorem xk_X8_number (R : Room) (h1 : 0 + 1 ≤ R.frames) (h2 : 34 ≤ R.locals) : xw R yX8_number w_X8_number GT cX8_number 3 (some .int) rm_X8_number 0 := ⟨rfl, rfl, rfl, h1, h2, ⟨by decide, by decide⟩, by decide +kernel⟩
theorem c_X8_number (E : ET) (hE : EO E) (t : Nat) (ht1 : kd t = 8) (ht2 : AL E t) (σ : HS) (hn : f_X8_number t σ ≠ none) : CoI E yX8_number w_X8_number rm_X8_number [.ref (E.2.2.1 t)] σ (f_X8_number t σ) := CoI.of (lv := [(0, .ref (E.2.2.1 t))]) hE (plainFor_of_name (by decide)) rfl (Nat.le_of_ble_eq_true rfl) rfl (fun F hC hO hR => k_X8_number_0 hC hO hR hn t ht1 ht2 σ rfl)
def rm_X6_wrong : Room := { frames := 0, cells := 0, slots := 0, locals := 0 }
theorem fl_X6_18 : Cond.fieldLink RX6 18 "EveryMeasure$Reader" (TX6 0).2.1 (TX6 0).2.2.1 ∈ GT := gtr_4 _ (List.mem_of_getElem? (i := 3) rfl)
theorem fl_X6_121 : Cond.fieldLink RX6 121 "EveryMeasure$Tape" (TX8 3).2.1 (TX8 3).2.2.1 ∈ GT := gtr_17 _ (List.mem_of_getElem? (i := 18) rfl)
theorem fl_X6_15 : Cond.fieldLink RX6 15 "EveryMeasure$Reader" (TX6 2).2.1 (TX6 2).2.2.1 ∈ GT := gtr_4 _ (List.mem_of_getElem? (i := 2) rfl)
set_option maxHeartbeats 4000000 in
set_option maxRecDepth 100000 in
theorem k_X6_wrong_0 {E : ET} {F : FT} {fo : Option HS} (hC : Cx E F 2 cX6_wrong RX6 GT) (hO : Ro F rm_X6_wrong) (hR : RV E F fo) (hf : fo ≠ none) (t : Nat) (ht1 : kd t = 6) (ht2 : AL E t) (x1 : Int32) (σ : HS) (h : f_X6_wrong t x1 σ = fo) : G E F 0 [(0, .ref (E.2.2.1 t)), (1, .int x1)] [] σ := by
    refine g_aload_n hC dX6_wrong_0 rfl 0 rfl ?_
    refine g_iload_n hC dX6_wrong_1 rfl 1 rfl ?_
    refine g_bipush (v := 16) hC dX6_wrong_2 (by decide) ?_
    refine g_aload_n hC dX6_wrong_4 rfl 0 rfl ?_
    refine g_getR (cj := 8) (k := 0) hC cr6 ui_6 ht1 ht2 (by decide) fl_X6_18 rfl rfl dX6_wrong_5 h hf (fun a1 ea1 ka1 na1 h => ?_)
    refine g_getI (k := 3) hC cr8 ui_8 ka1 na1 (by decide) fl_X6_121 rfl rfl dX6_wrong_8 ?_
    refine g_imul hC dX6_wrong_11 ?_
    refine g_iadd hC dX6_wrong_12 ?_
    refine g_putI (k := 2) hC cr6 ui_6 tyX6_ok nmX6 ht1 ht2 (by decide) fl_X6_15 rfl rfl rfl rfl dX6_wrong_13 ?_
    exact g_vret hC hR dX6_wrong_16 h
theorem xk_X6_wrong (R : Room) (h1 : 0 + 1 ≤ R.frames) (h2 : 33 ≤ R.locals) : xw R yX6_wrong w_X6_wrong GT cX6_wrong 2 none rm_X6_wrong 1 := ⟨rfl, rfl, rfl, h1, h2, ⟨by decide, by decide⟩, by decide +kernel⟩
theorem c_X6_wrong (E : ET) (hE : EO E) (t : Nat) (ht1 : kd t = 6) (ht2 : AL E t) (x1 : Int32) (σ : HS) (hn : f_X6_wrong t x1 σ ≠ none) : CoV E yX6_wrong w_X6_wrong rm_X6_wrong [.ref (E.2.2.1 t), .int x1] σ (f_X6_wrong t x1 σ) := CoV.of (lv := [(0, .ref (E.2.2.1 t)), (1, .int x1)]) hE (plainFor_of_name (by decide)) rfl (Nat.le_of_ble_eq_true rfl) rfl (fun F hC hO hR => k_X6_wrong_0 hC hO hR hn t ht1 ht2 x1 σ rfl)
def rm_X6_takeNumber : Room := { frames := 2, cells := 0, slots := 0, locals := 66 }
theorem wc_X8_number : Cond.code yX8_number cX8_number 3 (some .int) ∈ GT := gtr_17 _ (List.mem_of_getElem? (i := 13) rfl)
theorem gc_X6_118 : GoodIn GT (wsV RX6 118 RX8 yX8_number w_X8_number) := gi_V (gtr_17 _ (List.mem_of_getElem? (i := 10) rfl)) (gtr_17 _ (List.mem_of_getElem? (i := 11) rfl)) (gtr_17 _ (List.mem_of_getElem? (i := 12) rfl)) (gtr_1 _ (List.mem_of_getElem? (i := 16) rfl)) wc_X8_number
theorem fl_X6_32 : Cond.fieldLink RX6 32 "EveryMeasure$Tape" (TX8 2).2.1 (TX8 2).2.2.1 ∈ GT := gtr_13 _ (List.mem_of_getElem? (i := 19) rfl)
theorem wc_X6_wrong : Cond.code yX6_wrong cX6_wrong 2 none ∈ GT := gtr_17 _ (List.mem_of_getElem? (i := 17) rfl)
theorem gc_X6_65 : GoodIn GT (wsV RX6 65 RX6 yX6_wrong w_X6_wrong) := gi_V (gtr_17 _ (List.mem_of_getElem? (i := 14) rfl)) (gtr_17 _ (List.mem_of_getElem? (i := 15) rfl)) (gtr_17 _ (List.mem_of_getElem? (i := 16) rfl)) (gtr_1 _ (List.mem_of_getElem? (i := 20) rfl)) wc_X6_wrong
theorem gc_X6_79 : GoodIn GT (wsV RX6 79 RX8 yX8_step w_X8_step) := gi_V (gtr_17 _ (List.mem_of_getElem? (i := 5) rfl)) (gtr_14 _ (List.mem_of_getElem? (i := 2) rfl)) (gtr_14 _ (List.mem_of_getElem? (i := 3) rfl)) (gtr_1 _ (List.mem_of_getElem? (i := 16) rfl)) wc_X8_step
set_option maxHeartbeats 4000000 in
set_option maxRecDepth 100000 in
theorem k_X6_takeNumber_81 {E : ET} {F : FT} {fo : Option (Int32 × HS)} (hC : Cx E F 5 cX6_takeNumber RX6 GT) (hO : Ro F rm_X6_takeNumber) (hR : RI E F .int fo) (hf : fo ≠ none) (σ : HS) (h : f_X6_takeNumber_81 σ = fo) : G E F 81 [] [] σ := by
    refine g_iconst (v := (-1)) hC dX6_takeNumber_81 (by decide) ?_
    exact g_iret hC hR dX6_takeNumber_82 rfl h
set_option maxHeartbeats 4000000 in
set_option maxRecDepth 100000 in
theorem k_X6_takeNumber_49 {E : ET} {F : FT} {fo : Option (Int32 × HS)} (hC : Cx E F 5 cX6_takeNumber RX6 GT) (hO : Ro F rm_X6_takeNumber) (hR : RI E F .int fo) (hf : fo ≠ none) (t : Nat) (ht1 : kd t = 6) (ht2 : AL E t) (σ : HS) (h : f_X6_takeNumber_49 t σ = fo) : G E F 49 [(0, .ref (E.2.2.1 t))] [] σ := by
    refine g_aload_n hC dX6_takeNumber_49 rfl 0 rfl ?_
    refine g_iconst (v := 4) hC dX6_takeNumber_50 (by decide) ?_
    obtain ⟨q1, hq1, h⟩ := bd_of h hf
    refine g_cVV (As := [.int 4]) hC hO (c_X6_wrong _ hC.2.2.2.2.2.2.1 t ht1 ht2 4 σ (nn_of hq1)) gc_X6_65 (xk_X6_wrong _ (Nat.le_of_ble_eq_true rfl) (Nat.le_of_ble_eq_true rfl)) cr6 ht1 ht2 rfl (Nat.le_of_ble_eq_true rfl) dX6_takeNumber_51 hq1 ?_
    refine g_goto (tgt := 81) hC dX6_takeNumber_54 (by decide) ?_
    exact g_sub [] rfl (k_X6_takeNumber_81 hC hO hR hf q1 h)
set_option maxHeartbeats 4000000 in
set_option maxRecDepth 100000 in
theorem k_X6_takeNumber_0 {E : ET} {F : FT} {fo : Option (Int32 × HS)} (hC : Cx E F 5 cX6_takeNumber RX6 GT) (hO : Ro F rm_X6_takeNumber) (hR : RI E F .int fo) (hf : fo ≠ none) (t : Nat) (ht1 : kd t = 6) (ht2 : AL E t) (x1 : Int32) (x2 : Int32) (x3 : Int32) (σ : HS) (h : f_X6_takeNumber t x1 x2 x3 σ = fo) : G E F 0 [(0, .ref (E.2.2.1 t)), (1, .int x1), (2, .int x2), (3, .int x3)] [] σ := by
    refine g_aload_n hC dX6_takeNumber_0 rfl 0 rfl ?_
    refine g_getI (k := 2) hC cr6 ui_6 ht1 ht2 (by decide) fl_X6_15 rfl rfl dX6_takeNumber_1 ?_
    refine g_if_eq (tgt := 9) hC dX6_takeNumber_4 (by decide) h (fun c4 h => ?_) (fun c4 h => ?_)
    · refine g_aload_n hC dX6_takeNumber_9 rfl 0 rfl ?_
      refine g_getR (cj := 8) (k := 0) hC cr6 ui_6 ht1 ht2 (by decide) fl_X6_18 rfl rfl dX6_takeNumber_10 h hf (fun a1 ea1 ka1 na1 h => ?_)
      obtain ⟨q2, hq2, h⟩ := bd_of h hf
      refine g_cVI (As := []) hC hO (c_X8_number _ hC.2.2.2.2.2.2.1 a1 ka1 na1 σ (nn_of hq2)) gc_X6_118 (xk_X8_number _ (Nat.le_of_ble_eq_true rfl) (Nat.le_of_ble_eq_true rfl)) cr8 ka1 na1 rfl (Nat.le_of_ble_eq_true rfl) dX6_takeNumber_13 hq2 ?_
      refine g_istore (lv' := [(4, .int q2.1), (0, .ref (E.2.2.1 t)), (1, .int x1), (2, .int x2), (3, .int x3)]) hC dX6_takeNumber_16 (by decide) rfl ?_
      refine g_aload_n hC dX6_takeNumber_18 rfl 1 rfl ?_
      refine g_getR (cj := 8) (k := 0) hC cr6 ui_6 ht1 ht2 (by decide) fl_X6_18 rfl rfl dX6_takeNumber_19 h hf (fun a3 ea3 ka3 na3 h => ?_)
      refine g_getI (k := 2) hC cr8 ui_8 ka3 na3 (by decide) fl_X6_32 rfl rfl dX6_takeNumber_22 ?_
      refine g_iconst (v := 2) hC dX6_takeNumber_25 (by decide) ?_
      refine g_icmp_eq (tgt := 37) hC dX6_takeNumber_26 (by decide) h (fun c26 h => ?_) (fun c26 h => ?_)
      · refine g_iload hC dX6_takeNumber_37 0 rfl ?_
        refine g_iload_n hC dX6_takeNumber_39 rfl 2 rfl ?_
        refine g_icmp_lt (tgt := 49) hC dX6_takeNumber_40 (by decide) h (fun c40 h => ?_) (fun c40 h => ?_)
        · exact g_sub [1] rfl (k_X6_takeNumber_49 hC hO hR hf t ht1 ht2 q2.2 h)
        · refine g_iload hC dX6_takeNumber_43 0 rfl ?_
          refine g_iload_n hC dX6_takeNumber_45 rfl 3 rfl ?_
          refine g_icmp_le (tgt := 57) hC dX6_takeNumber_46 (by decide) h (fun c46 h => ?_) (fun c46 h => ?_)
          · refine g_iload hC dX6_takeNumber_57 0 rfl ?_
            refine g_iload_n hC dX6_takeNumber_59 rfl 4 rfl ?_
            refine g_icmp_ne (tgt := 71) hC dX6_takeNumber_60 (by decide) h (fun c60 h => ?_) (fun c60 h => ?_)
            · refine g_aload_n hC dX6_takeNumber_71 rfl 1 rfl ?_
              refine g_getR (cj := 8) (k := 0) hC cr6 ui_6 ht1 ht2 (by decide) fl_X6_18 rfl rfl dX6_takeNumber_72 h hf (fun a4 ea4 ka4 na4 h => ?_)
              obtain ⟨q5, hq5, h⟩ := bd_of h hf
              refine g_cVV (As := []) hC hO (c_X8_step _ hC.2.2.2.2.2.2.1 a4 ka4 na4 q2.2 (nn_of hq5)) gc_X6_79 (xk_X8_step _ (Nat.le_of_ble_eq_true rfl) (Nat.le_of_ble_eq_true rfl)) cr8 ka4 na4 rfl (Nat.le_of_ble_eq_true rfl) dX6_takeNumber_75 hq5 ?_
              refine g_iload hC dX6_takeNumber_78 0 rfl ?_
              exact g_iret hC hR dX6_takeNumber_80 rfl h
            · refine g_aload_n hC dX6_takeNumber_63 rfl 1 rfl ?_
              refine g_iconst (v := 3) hC dX6_takeNumber_64 (by decide) ?_
              obtain ⟨q6, hq6, h⟩ := bd_of h hf
              refine g_cVV (As := [.int 3]) hC hO (c_X6_wrong _ hC.2.2.2.2.2.2.1 t ht1 ht2 3 q2.2 (nn_of hq6)) gc_X6_65 (xk_X6_wrong _ (Nat.le_of_ble_eq_true rfl) (Nat.le_of_ble_eq_true rfl)) cr6 ht1 ht2 rfl (Nat.le_of_ble_eq_true rfl) dX6_takeNumber_65 hq6 ?_
              refine g_goto (tgt := 81) hC dX6_takeNumber_68 (by decide) ?_
              exact g_sub [] rfl (k_X6_takeNumber_81 hC hO hR hf q6 h)
          · exact g_sub [1] rfl (k_X6_takeNumber_49 hC hO hR hf t ht1 ht2 q2.2 h)
      · refine g_aload_n hC dX6_takeNumber_29 rfl 1 rfl ?_
        refine g_iconst (v := 1) hC dX6_takeNumber_30 (by decide) ?_
        obtain ⟨q7, hq7, h⟩ := bd_of h hf
        refine g_cVV (As := [.int 1]) hC hO (c_X6_wrong _ hC.2.2.2.2.2.2.1 t ht1 ht2 1 q2.2 (nn_of hq7)) gc_X6_65 (xk_X6_wrong _ (Nat.le_of_ble_eq_true rfl) (Nat.le_of_ble_eq_true rfl)) cr6 ht1 ht2 rfl (Nat.le_of_ble_eq_true rfl) dX6_takeNumber_31 hq7 ?_
        refine g_goto (tgt := 81) hC dX6_takeNumber_34 (by decide) ?_
        exact g_sub [] rfl (k_X6_takeNumber_81 hC hO hR hf q7 h)
    · refine g_iconst (v := (-1)) hC dX6_takeNumber_7 (by decide) ?_
      exact g_iret hC hR dX6_takeNumber_8 rfl h
theorem xk_X6_takeNumber (R : Room) (h1 : 2 + 1 ≤ R.frames) (h2 : 102 ≤ R.locals) : xw R yX6_takeNumber w_X6_takeNumber GT cX6_takeNumber 5 (some .int) rm_X6_takeNumber 3 := ⟨rfl, rfl, rfl, h1, h2, ⟨by decide, by decide⟩, by decide +kernel⟩
theorem c_X6_takeNumber (E : ET) (hE : EO E) (t : Nat) (ht1 : kd t = 6) (ht2 : AL E t) (x1 : Int32) (x2 : Int32) (x3 : Int32) (σ : HS) (hn : f_X6_takeNumber t x1 x2 x3 σ ≠ none) : CoI E yX6_takeNumber w_X6_takeNumber rm_X6_takeNumber [.ref (E.2.2.1 t), .int x1, .int x2, .int x3] σ (f_X6_takeNumber t x1 x2 x3 σ) := CoI.of (lv := [(0, .ref (E.2.2.1 t)), (1, .int x1), (2, .int x2), (3, .int x3)]) hE (plainFor_of_name (by decide)) rfl (Nat.le_of_ble_eq_true rfl) rfl (fun F hC hO hR => k_X6_takeNumber_0 hC hO hR hn t ht1 ht2 x1 x2 x3 σ rfl)
def rm_X6_takeFreshMeasure : Room := { frames := 3, cells := 0, slots := 0, locals := 102 }
theorem fl_X6_9 : Cond.fieldLink RX6 9 "EveryMeasure$Reader" (TX6 1).2.1 (TX6 1).2.2.1 ∈ GT := gtr_4 _ (List.mem_of_getElem? (i := 1) rfl)
theorem wc_X6_takeNumber : Cond.code yX6_takeNumber cX6_takeNumber 5 (some .int) ∈ GT := gtr_17 _ (List.mem_of_getElem? (i := 22) rfl)
theorem gc_X6_88 : GoodIn GT (wsV RX6 88 RX6 yX6_takeNumber w_X6_takeNumber) := gi_V (gtr_17 _ (List.mem_of_getElem? (i := 19) rfl)) (gtr_17 _ (List.mem_of_getElem? (i := 20) rfl)) (gtr_17 _ (List.mem_of_getElem? (i := 21) rfl)) (gtr_1 _ (List.mem_of_getElem? (i := 20) rfl)) wc_X6_takeNumber
set_option maxHeartbeats 4000000 in
set_option maxRecDepth 100000 in
theorem k_X6_takeFreshMeasure_46 {E : ET} {F : FT} {fo : Option (Int32 × HS)} (hC : Cx E F 3 cX6_takeFreshMeasure RX6 GT) (hO : Ro F rm_X6_takeFreshMeasure) (hR : RI E F .int fo) (hf : fo ≠ none) (t : Nat) (ht1 : kd t = 6) (ht2 : AL E t) (σ : HS) (h : f_X6_takeFreshMeasure_46 t σ = fo) : G E F 46 [(0, .ref (E.2.2.1 t))] [] σ := by
    refine g_aload_n hC dX6_takeFreshMeasure_46 rfl 0 rfl ?_
    refine g_iconst (v := 0) hC dX6_takeFreshMeasure_47 (by decide) ?_
    refine g_aload_n hC dX6_takeFreshMeasure_48 rfl 0 rfl ?_
    refine g_getI (k := 1) hC cr6 ui_6 ht1 ht2 (by decide) fl_X6_9 rfl rfl dX6_takeFreshMeasure_49 ?_
    refine g_iconst (v := 1) hC dX6_takeFreshMeasure_52 (by decide) ?_
    refine g_isub hC dX6_takeFreshMeasure_53 ?_
    refine g_iconst (v := (-1)) hC dX6_takeFreshMeasure_54 (by decide) ?_
    obtain ⟨q1, hq1, h⟩ := bd_of h hf
    refine g_cVI (As := [.int 0, .int ((σ.1 t 1) - 1), .int (-1)]) hC hO (c_X6_takeNumber _ hC.2.2.2.2.2.2.1 t ht1 ht2 0 ((σ.1 t 1) - 1) (-1) σ (nn_of hq1)) gc_X6_88 (xk_X6_takeNumber _ (Nat.le_of_ble_eq_true rfl) (Nat.le_of_ble_eq_true rfl)) cr6 ht1 ht2 rfl (Nat.le_of_ble_eq_true rfl) dX6_takeFreshMeasure_55 hq1 ?_
    exact g_iret hC hR dX6_takeFreshMeasure_58 rfl h
set_option maxHeartbeats 4000000 in
set_option maxRecDepth 100000 in
theorem k_X6_takeFreshMeasure_0 {E : ET} {F : FT} {fo : Option (Int32 × HS)} (hC : Cx E F 3 cX6_takeFreshMeasure RX6 GT) (hO : Ro F rm_X6_takeFreshMeasure) (hR : RI E F .int fo) (hf : fo ≠ none) (t : Nat) (ht1 : kd t = 6) (ht2 : AL E t) (x1 : Nat) (hx1a : kd x1 = 14) (hx1b : AL E x1) (σ : HS) (h : f_X6_takeFreshMeasure t x1 σ = fo) : G E F 0 [(0, .ref (E.2.2.1 t)), (1, .ref (E.2.2.1 x1))] [] σ := by
    refine g_aload_n hC dX6_takeFreshMeasure_0 rfl 0 rfl ?_
    refine g_getR (cj := 8) (k := 0) hC cr6 ui_6 ht1 ht2 (by decide) fl_X6_18 rfl rfl dX6_takeFreshMeasure_1 h hf (fun a1 ea1 ka1 na1 h => ?_)
    obtain ⟨q2, hq2, h⟩ := bd_of h hf
    refine g_cVI (As := []) hC hO (c_X8_number _ hC.2.2.2.2.2.2.1 a1 ka1 na1 σ (nn_of hq2)) gc_X6_118 (xk_X8_number _ (Nat.le_of_ble_eq_true rfl) (Nat.le_of_ble_eq_true rfl)) cr8 ka1 na1 rfl (Nat.le_of_ble_eq_true rfl) dX6_takeFreshMeasure_4 hq2 ?_
    refine g_istore_n (lv' := [(2, .int q2.1), (0, .ref (E.2.2.1 t)), (1, .ref (E.2.2.1 x1))]) hC dX6_takeFreshMeasure_7 rfl (by decide) rfl ?_
    refine g_aload_n hC dX6_takeFreshMeasure_8 rfl 1 rfl ?_
    refine g_getI (k := 2) hC cr6 ui_6 ht1 ht2 (by decide) fl_X6_15 rfl rfl dX6_takeFreshMeasure_9 ?_
    refine g_if_ne (tgt := 46) hC dX6_takeFreshMeasure_12 (by decide) h (fun c12 h => ?_) (fun c12 h => ?_)
    · exact g_sub [1] rfl (k_X6_takeFreshMeasure_46 hC hO hR hf t ht1 ht2 q2.2 h)
    · refine g_aload_n hC dX6_takeFreshMeasure_15 rfl 1 rfl ?_
      refine g_getR (cj := 8) (k := 0) hC cr6 ui_6 ht1 ht2 (by decide) fl_X6_18 rfl rfl dX6_takeFreshMeasure_16 h hf (fun a3 ea3 ka3 na3 h => ?_)
      refine g_getI (k := 2) hC cr8 ui_8 ka3 na3 (by decide) fl_X6_32 rfl rfl dX6_takeFreshMeasure_19 ?_
      refine g_iconst (v := 2) hC dX6_takeFreshMeasure_22 (by decide) ?_
      refine g_icmp_ne (tgt := 46) hC dX6_takeFreshMeasure_23 (by decide) h (fun c23 h => ?_) (fun c23 h => ?_)
      · exact g_sub [1] rfl (k_X6_takeFreshMeasure_46 hC hO hR hf t ht1 ht2 q2.2 h)
      · refine g_iload_n hC dX6_takeFreshMeasure_26 rfl 0 rfl ?_
        refine g_aload_n hC dX6_takeFreshMeasure_27 rfl 1 rfl ?_
        refine g_getI (k := 1) hC cr6 ui_6 ht1 ht2 (by decide) fl_X6_9 rfl rfl dX6_takeFreshMeasure_28 ?_
        refine g_icmp_ge (tgt := 46) hC dX6_takeFreshMeasure_31 (by decide) h (fun c31 h => ?_) (fun c31 h => ?_)
        · exact g_sub [1] rfl (k_X6_takeFreshMeasure_46 hC hO hR hf t ht1 ht2 q2.2 h)
        · refine g_aload_n hC dX6_takeFreshMeasure_34 rfl 2 rfl ?_
          refine g_iload_n hC dX6_takeFreshMeasure_35 rfl 0 rfl ?_
          refine g_iald hC hx1a hx1b dX6_takeFreshMeasure_36 h hf (fun h => ?_)
          refine g_iconst (v := (-1)) hC dX6_takeFreshMeasure_37 (by decide) ?_
          refine g_icmp_eq (tgt := 46) hC dX6_takeFreshMeasure_38 (by decide) h (fun c38 h => ?_) (fun c38 h => ?_)
          · exact g_sub [1] rfl (k_X6_takeFreshMeasure_46 hC hO hR hf t ht1 ht2 q2.2 h)
          · refine g_aload_n hC dX6_takeFreshMeasure_41 rfl 1 rfl ?_
            refine g_iconst (v := 3) hC dX6_takeFreshMeasure_42 (by decide) ?_
            obtain ⟨q4, hq4, h⟩ := bd_of h hf
            refine g_cVV (As := [.int 3]) hC hO (c_X6_wrong _ hC.2.2.2.2.2.2.1 t ht1 ht2 3 q2.2 (nn_of hq4)) gc_X6_65 (xk_X6_wrong _ (Nat.le_of_ble_eq_true rfl) (Nat.le_of_ble_eq_true rfl)) cr6 ht1 ht2 rfl (Nat.le_of_ble_eq_true rfl) dX6_takeFreshMeasure_43 hq4 ?_
            exact g_sub [1] rfl (k_X6_takeFreshMeasure_46 hC hO hR hf t ht1 ht2 q4 h)
theorem xk_X6_takeFreshMeasure (R : Room) (h1 : 3 + 1 ≤ R.frames) (h2 : 136 ≤ R.locals) : xw R yX6_takeFreshMeasure w_X6_takeFreshMeasure GT cX6_takeFreshMeasure 3 (some .int) rm_X6_takeFreshMeasure 1 := ⟨rfl, rfl, rfl, h1, h2, ⟨by decide, by decide⟩, by decide +kernel⟩
theorem c_X6_takeFreshMeasure (E : ET) (hE : EO E) (t : Nat) (ht1 : kd t = 6) (ht2 : AL E t) (x1 : Nat) (hx1a : kd x1 = 14) (hx1b : AL E x1) (σ : HS) (hn : f_X6_takeFreshMeasure t x1 σ ≠ none) : CoI E yX6_takeFreshMeasure w_X6_takeFreshMeasure rm_X6_takeFreshMeasure [.ref (E.2.2.1 t), .ref (E.2.2.1 x1)] σ (f_X6_takeFreshMeasure t x1 σ) := CoI.of (lv := [(0, .ref (E.2.2.1 t)), (1, .ref (E.2.2.1 x1))]) hE (plainFor_of_name (by decide)) rfl (Nat.le_of_ble_eq_true rfl) rfl (fun F hC hO hR => k_X6_takeFreshMeasure_0 hC hO hR hn t ht1 ht2 x1 hx1a hx1b σ rfl)
def rm_X6_readLess : Room := { frames := 4, cells := 0, slots := 0, locals := 136 }
theorem fl_X6_82 : Cond.fieldLink RX6 82 "EveryMeasure$Choice" (TX0 0).2.1 (TX0 0).2.2.1 ∈ GT := gtr_17 _ (List.mem_of_getElem? (i := 4) rfl)
theorem wc_X6_takeFreshMeasure : Cond.code yX6_takeFreshMeasure cX6_takeFreshMeasure 3 (some .int) ∈ GT := gtr_17 _ (List.mem_of_getElem? (i := 9) rfl)
theorem gc_X6_84 : GoodIn GT (wsV RX6 84 RX6 yX6_takeFreshMeasure w_X6_takeFreshMeasure) := gi_V (gtr_17 _ (List.mem_of_getElem? (i := 6) rfl)) (gtr_17 _ (List.mem_of_getElem? (i := 7) rfl)) (gtr_17 _ (List.mem_of_getElem? (i := 8) rfl)) (gtr_1 _ (List.mem_of_getElem? (i := 20) rfl)) wc_X6_takeFreshMeasure
set_option maxHeartbeats 4000000 in
set_option maxRecDepth 100000 in
theorem k_X6_readLess_30 {E : ET} {F : FT} {fo : Option HS} (hC : Cx E F 3 cX6_readLess RX6 GT) (hO : Ro F rm_X6_readLess) (hR : RV E F fo) (hf : fo ≠ none) (σ : HS) (h : f_X6_readLess_30 σ = fo) : G E F 30 [] [] σ := by
    exact g_vret hC hR dX6_readLess_30 h
set_option maxHeartbeats 4000000 in
set_option maxRecDepth 100000 in
theorem k_X6_readLess_0 {E : ET} {F : FT} {fo : Option HS} (hC : Cx E F 3 cX6_readLess RX6 GT) (hO : Ro F rm_X6_readLess) (hR : RV E F fo) (hf : fo ≠ none) (t : Nat) (ht1 : kd t = 6) (ht2 : AL E t) (x1 : Nat) (hx1a : kd x1 = 0) (hx1b : AL E x1) (σ : HS) (h : f_X6_readLess t x1 σ = fo) : G E F 0 [(0, .ref (E.2.2.1 t)), (1, .ref (E.2.2.1 x1))] [] σ := by
    refine g_aload_n hC dX6_readLess_0 rfl 0 rfl ?_
    refine g_getR (cj := 8) (k := 0) hC cr6 ui_6 ht1 ht2 (by decide) fl_X6_18 rfl rfl dX6_readLess_1 h hf (fun a1 ea1 ka1 na1 h => ?_)
    obtain ⟨q2, hq2, h⟩ := bd_of h hf
    refine g_cVV (As := []) hC hO (c_X8_step _ hC.2.2.2.2.2.2.1 a1 ka1 na1 σ (nn_of hq2)) gc_X6_79 (xk_X8_step _ (Nat.le_of_ble_eq_true rfl) (Nat.le_of_ble_eq_true rfl)) cr8 ka1 na1 rfl (Nat.le_of_ble_eq_true rfl) dX6_readLess_4 hq2 ?_
    refine g_aload_n hC dX6_readLess_7 rfl 0 rfl ?_
    refine g_aload_n hC dX6_readLess_8 rfl 1 rfl ?_
    refine g_getR (cj := 14) (k := 0) hC cr0 ui_0 hx1a hx1b (by decide) fl_X6_82 rfl rfl dX6_readLess_9 h hf (fun a3 ea3 ka3 na3 h => ?_)
    obtain ⟨q4, hq4, h⟩ := bd_of h hf
    refine g_cVI (As := [.ref (E.2.2.1 a3)]) hC hO (c_X6_takeFreshMeasure _ hC.2.2.2.2.2.2.1 t ht1 ht2 a3 ka3 na3 q2 (nn_of hq4)) gc_X6_84 (xk_X6_takeFreshMeasure _ (Nat.le_of_ble_eq_true rfl) (Nat.le_of_ble_eq_true rfl)) cr6 ht1 ht2 rfl (Nat.le_of_ble_eq_true rfl) dX6_readLess_12 hq4 ?_
    refine g_istore_n (lv' := [(2, .int q4.1), (0, .ref (E.2.2.1 t)), (1, .ref (E.2.2.1 x1))]) hC dX6_readLess_15 rfl (by decide) rfl ?_
    refine g_aload_n hC dX6_readLess_16 rfl 1 rfl ?_
    refine g_getI (k := 2) hC cr6 ui_6 ht1 ht2 (by decide) fl_X6_15 rfl rfl dX6_readLess_17 ?_
    refine g_if_ne (tgt := 30) hC dX6_readLess_20 (by decide) h (fun c20 h => ?_) (fun c20 h => ?_)
    · exact g_sub [] rfl (k_X6_readLess_30 hC hO hR hf q4.2 h)
    · refine g_aload_n hC dX6_readLess_23 rfl 2 rfl ?_
      refine g_getR (cj := 14) (k := 0) hC cr0 ui_0 hx1a hx1b (by decide) fl_X6_82 rfl rfl dX6_readLess_24 h hf (fun a5 ea5 ka5 na5 h => ?_)
      refine g_iload_n hC dX6_readLess_27 rfl 0 rfl ?_
      refine g_iconst (v := 1) hC dX6_readLess_28 (by decide) ?_
      refine g_iast hC ka5 na5 dX6_readLess_29 h hf (fun h => ?_)
      exact g_sub [] rfl (k_X6_readLess_30 hC hO hR hf (sI q4.2 a5 q4.1.toNatClampNeg 1) h)
theorem xk_X6_readLess (R : Room) (h1 : 4 + 1 ≤ R.frames) (h2 : 170 ≤ R.locals) : xw R yX6_readLess w_X6_readLess GT cX6_readLess 3 none rm_X6_readLess 1 := ⟨rfl, rfl, rfl, h1, h2, ⟨by decide, by decide⟩, by decide +kernel⟩
theorem c_X6_readLess (E : ET) (hE : EO E) (t : Nat) (ht1 : kd t = 6) (ht2 : AL E t) (x1 : Nat) (hx1a : kd x1 = 0) (hx1b : AL E x1) (σ : HS) (hn : f_X6_readLess t x1 σ ≠ none) : CoV E yX6_readLess w_X6_readLess rm_X6_readLess [.ref (E.2.2.1 t), .ref (E.2.2.1 x1)] σ (f_X6_readLess t x1 σ) := CoV.of (lv := [(0, .ref (E.2.2.1 t)), (1, .ref (E.2.2.1 x1))]) hE (plainFor_of_name (by decide)) rfl (Nat.le_of_ble_eq_true rfl) rfl (fun F hC hO hR => k_X6_readLess_0 hC hO hR hn t ht1 ht2 x1 hx1a hx1b σ rfl)
def rm_X6_readLimit : Room := { frames := 4, cells := 0, slots := 0, locals := 136 }
set_option maxHeartbeats 4000000 in
set_option maxRecDepth 100000 in
theorem k_X6_readLimit_33 {E : ET} {F : FT} {fo : Option HS} (hC : Cx E F 4 cX6_readLimit RX6 GT) (hO : Ro F rm_X6_readLimit) (hR : RV E F fo) (hf : fo ≠ none) (σ : HS) (h : f_X6_readLimit_33 σ = fo) : G E F 33 [] [] σ := by
    exact g_vret hC hR dX6_readLimit_33 h
set_option maxHeartbeats 4000000 in
set_option maxRecDepth 100000 in
theorem k_X6_readLimit_0 {E : ET} {F : FT} {fo : Option HS} (hC : Cx E F 4 cX6_readLimit RX6 GT) (hO : Ro F rm_X6_readLimit) (hR : RV E F fo) (hf : fo ≠ none) (t : Nat) (ht1 : kd t = 6) (ht2 : AL E t) (x1 : Nat) (hx1a : kd x1 = 14) (hx1b : AL E x1) (σ : HS) (h : f_X6_readLimit t x1 σ = fo) : G E F 0 [(0, .ref (E.2.2.1 t)), (1, .ref (E.2.2.1 x1))] [] σ := by
    refine g_aload_n hC dX6_readLimit_0 rfl 0 rfl ?_
    refine g_getR (cj := 8) (k := 0) hC cr6 ui_6 ht1 ht2 (by decide) fl_X6_18 rfl rfl dX6_readLimit_1 h hf (fun a1 ea1 ka1 na1 h => ?_)
    obtain ⟨q2, hq2, h⟩ := bd_of h hf
    refine g_cVV (As := []) hC hO (c_X8_step _ hC.2.2.2.2.2.2.1 a1 ka1 na1 σ (nn_of hq2)) gc_X6_79 (xk_X8_step _ (Nat.le_of_ble_eq_true rfl) (Nat.le_of_ble_eq_true rfl)) cr8 ka1 na1 rfl (Nat.le_of_ble_eq_true rfl) dX6_readLimit_4 hq2 ?_
    refine g_aload_n hC dX6_readLimit_7 rfl 0 rfl ?_
    refine g_aload_n hC dX6_readLimit_8 rfl 1 rfl ?_
    obtain ⟨q3, hq3, h⟩ := bd_of h hf
    refine g_cVI (As := [.ref (E.2.2.1 x1)]) hC hO (c_X6_takeFreshMeasure _ hC.2.2.2.2.2.2.1 t ht1 ht2 x1 hx1a hx1b q2 (nn_of hq3)) gc_X6_84 (xk_X6_takeFreshMeasure _ (Nat.le_of_ble_eq_true rfl) (Nat.le_of_ble_eq_true rfl)) cr6 ht1 ht2 rfl (Nat.le_of_ble_eq_true rfl) dX6_readLimit_9 hq3 ?_
    refine g_istore_n (lv' := [(2, .int q3.1), (0, .ref (E.2.2.1 t)), (1, .ref (E.2.2.1 x1))]) hC dX6_readLimit_12 rfl (by decide) rfl ?_
    refine g_aload_n hC dX6_readLimit_13 rfl 1 rfl ?_
    refine g_iconst (v := 0) hC dX6_readLimit_14 (by decide) ?_
    refine g_bipush (v := 100) hC dX6_readLimit_15 (by decide) ?_
    refine g_iconst (v := (-1)) hC dX6_readLimit_17 (by decide) ?_
    obtain ⟨q4, hq4, h⟩ := bd_of h hf
    refine g_cVI (As := [.int 0, .int 100, .int (-1)]) hC hO (c_X6_takeNumber _ hC.2.2.2.2.2.2.1 t ht1 ht2 0 100 (-1) q3.2 (nn_of hq4)) gc_X6_88 (xk_X6_takeNumber _ (Nat.le_of_ble_eq_true rfl) (Nat.le_of_ble_eq_true rfl)) cr6 ht1 ht2 rfl (Nat.le_of_ble_eq_true rfl) dX6_readLimit_18 hq4 ?_
    refine g_istore_n (lv' := [(3, .int q4.1), (2, .int q3.1), (0, .ref (E.2.2.1 t)), (1, .ref (E.2.2.1 x1))]) hC dX6_readLimit_21 rfl (by decide) rfl ?_
    refine g_aload_n hC dX6_readLimit_22 rfl 2 rfl ?_
    refine g_getI (k := 2) hC cr6 ui_6 ht1 ht2 (by decide) fl_X6_15 rfl rfl dX6_readLimit_23 ?_
    refine g_if_ne (tgt := 33) hC dX6_readLimit_26 (by decide) h (fun c26 h => ?_) (fun c26 h => ?_)
    · exact g_sub [] rfl (k_X6_readLimit_33 hC hO hR hf q4.2 h)
    · refine g_aload_n hC dX6_readLimit_29 rfl 3 rfl ?_
      refine g_iload_n hC dX6_readLimit_30 rfl 1 rfl ?_
      refine g_iload_n hC dX6_readLimit_31 rfl 0 rfl ?_
      refine g_iast hC hx1a hx1b dX6_readLimit_32 h hf (fun h => ?_)
      exact g_sub [] rfl (k_X6_readLimit_33 hC hO hR hf (sI q4.2 x1 q3.1.toNatClampNeg q4.1) h)
theorem xk_X6_readLimit (R : Room) (h1 : 4 + 1 ≤ R.frames) (h2 : 171 ≤ R.locals) : xw R yX6_readLimit w_X6_readLimit GT cX6_readLimit 4 none rm_X6_readLimit 1 := ⟨rfl, rfl, rfl, h1, h2, ⟨by decide, by decide⟩, by decide +kernel⟩
theorem c_X6_readLimit (E : ET) (hE : EO E) (t : Nat) (ht1 : kd t = 6) (ht2 : AL E t) (x1 : Nat) (hx1a : kd x1 = 14) (hx1b : AL E x1) (σ : HS) (hn : f_X6_readLimit t x1 σ ≠ none) : CoV E yX6_readLimit w_X6_readLimit rm_X6_readLimit [.ref (E.2.2.1 t), .ref (E.2.2.1 x1)] σ (f_X6_readLimit t x1 σ) := CoV.of (lv := [(0, .ref (E.2.2.1 t)), (1, .ref (E.2.2.1 x1))]) hE (plainFor_of_name (by decide)) rfl (Nat.le_of_ble_eq_true rfl) rfl (fun F hC hO hR => k_X6_readLimit_0 hC hO hR hn t ht1 ht2 x1 hx1a hx1b σ rfl)
def rm_X8_person : Room := { frames := 0, cells := 0, slots := 0, locals := 0 }
set_option maxHeartbeats 4000000 in
set_option maxRecDepth 100000 in
theorem k_X8_person_32 {E : ET} {F : FT} {fo : Option (Int32 × HS)} (hC : Cx E F 2 cX8_person RX8 GT) (hO : Ro F rm_X8_person) (hR : RI E F .int fo) (hf : fo ≠ none) (σ : HS) (h : f_X8_person_32 σ = fo) : G E F 32 [] [] σ := by
    refine g_iconst (v := (-1)) hC dX8_person_32 (by decide) ?_
    exact g_iret hC hR dX8_person_33 rfl h
set_option maxHeartbeats 4000000 in
set_option maxRecDepth 100000 in
theorem k_X8_person_58 {E : ET} {F : FT} {fo : Option (Int32 × HS)} (hC : Cx E F 2 cX8_person RX8 GT) (hO : Ro F rm_X8_person) (hR : RI E F .int fo) (hf : fo ≠ none) (s0 : Int32) (σ : HS) (h : f_X8_person_58 s0 σ = fo) : G E F 58 [] [.int s0] σ := by
    exact g_iret hC hR dX8_person_58 rfl h
set_option maxHeartbeats 4000000 in
set_option maxRecDepth 100000 in
theorem k_X8_person_0 {E : ET} {F : FT} {fo : Option (Int32 × HS)} (hC : Cx E F 2 cX8_person RX8 GT) (hO : Ro F rm_X8_person) (hR : RI E F .int fo) (hf : fo ≠ none) (t : Nat) (ht1 : kd t = 8) (ht2 : AL E t) (σ : HS) (h : f_X8_person t σ = fo) : G E F 0 [(0, .ref (E.2.2.1 t))] [] σ := by
    refine g_aload_n hC dX8_person_0 rfl 0 rfl ?_
    refine g_getI (k := 2) hC cr8 ui_8 ht1 ht2 (by decide) fl_X8_19 rfl rfl dX8_person_1 ?_
    refine g_iconst (v := 1) hC dX8_person_4 (by decide) ?_
    refine g_icmp_ne (tgt := 32) hC dX8_person_5 (by decide) h (fun c5 h => ?_) (fun c5 h => ?_)
    · exact g_sub [] rfl (k_X8_person_32 hC hO hR hf σ h)
    · refine g_aload_n hC dX8_person_8 rfl 0 rfl ?_
      refine g_getI (k := 4) hC cr8 ui_8 ht1 ht2 (by decide) fl_X8_25 rfl rfl dX8_person_9 ?_
      refine g_aload_n hC dX8_person_12 rfl 0 rfl ?_
      refine g_getI (k := 3) hC cr8 ui_8 ht1 ht2 (by decide) fl_X8_22 rfl rfl dX8_person_13 ?_
      refine g_isub hC dX8_person_16 ?_
      refine g_iconst (v := 1) hC dX8_person_17 (by decide) ?_
      refine g_icmp_ne (tgt := 32) hC dX8_person_18 (by decide) h (fun c18 h => ?_) (fun c18 h => ?_)
      · exact g_sub [] rfl (k_X8_person_32 hC hO hR hf σ h)
      · refine g_aload_n hC dX8_person_21 rfl 0 rfl ?_
        refine g_getI (k := 3) hC cr8 ui_8 ht1 ht2 (by decide) fl_X8_22 rfl rfl dX8_person_22 ?_
        refine g_aload_n hC dX8_person_25 rfl 0 rfl ?_
        refine g_getI (k := 1) hC cr8 ui_8 ht1 ht2 (by decide) fl_X8_15 rfl rfl dX8_person_26 ?_
        refine g_icmp_lt (tgt := 34) hC dX8_person_29 (by decide) h (fun c29 h => ?_) (fun c29 h => ?_)
        · refine g_aload_n hC dX8_person_34 rfl 0 rfl ?_
          refine g_getR (cj := 13) (k := 0) hC cr8 ui_8 ht1 ht2 (by decide) fl_X8_9 rfl rfl dX8_person_35 h hf (fun a1 ea1 ka1 na1 h => ?_)
          refine g_aload_n hC dX8_person_38 rfl 0 rfl ?_
          refine g_getI (k := 3) hC cr8 ui_8 ht1 ht2 (by decide) fl_X8_22 rfl rfl dX8_person_39 ?_
          refine g_bald hC ka1 na1 dX8_person_42 h hf (fun h => ?_)
          refine g_bipush (v := 97) hC dX8_person_43 (by decide) ?_
          refine g_isub hC dX8_person_45 ?_
          refine g_istore_n (lv' := [(1, .int ((σ.1 a1 (σ.1 t 3).toNatClampNeg) - 97)), (0, .ref (E.2.2.1 t))]) hC dX8_person_46 rfl (by decide) rfl ?_
          refine g_iload_n hC dX8_person_47 rfl 0 rfl ?_
          refine g_bipush (v := 8) hC dX8_person_48 (by decide) ?_
          refine g_icmp_ge (tgt := 57) hC dX8_person_50 (by decide) h (fun c50 h => ?_) (fun c50 h => ?_)
          · refine g_iconst (v := (-1)) hC dX8_person_57 (by decide) ?_
            exact g_sub [] rfl (k_X8_person_58 hC hO hR hf (-1) σ h)
          · refine g_iload_n hC dX8_person_53 rfl 0 rfl ?_
            refine g_goto (tgt := 58) hC dX8_person_54 (by decide) ?_
            exact g_sub [] rfl (k_X8_person_58 hC hO hR hf ((σ.1 a1 (σ.1 t 3).toNatClampNeg) - 97) σ h)
        · exact g_sub [] rfl (k_X8_person_32 hC hO hR hf σ h)
theorem xk_X8_person (R : Room) (h1 : 0 + 1 ≤ R.frames) (h2 : 33 ≤ R.locals) : xw R yX8_person w_X8_person GT cX8_person 2 (some .int) rm_X8_person 0 := ⟨rfl, rfl, rfl, h1, h2, ⟨by decide, by decide⟩, by decide +kernel⟩
theorem c_X8_person (E : ET) (hE : EO E) (t : Nat) (ht1 : kd t = 8) (ht2 : AL E t) (σ : HS) (hn : f_X8_person t σ ≠ none) : CoI E yX8_person w_X8_person rm_X8_person [.ref (E.2.2.1 t)] σ (f_X8_person t σ) := CoI.of (lv := [(0, .ref (E.2.2.1 t))]) hE (plainFor_of_name (by decide)) rfl (Nat.le_of_ble_eq_true rfl) rfl (fun F hC hO hR => k_X8_person_0 hC hO hR hn t ht1 ht2 σ rfl)
def rm_X6_readPair : Room := { frames := 3, cells := 0, slots := 0, locals := 102 }
theorem wc_X0_say : Cond.code yX0_say cX0_say 7 none ∈ GT := gtr_18 _ (List.mem_of_getElem? (i := 18) rfl)
theorem gc_X6_114 : GoodIn GT (wsV RX6 114 RX0 yX0_say w_X0_say) := gi_V (gtr_18 _ (List.mem_of_getElem? (i := 15) rfl)) (gtr_18 _ (List.mem_of_getElem? (i := 16) rfl)) (gtr_18 _ (List.mem_of_getElem? (i := 17) rfl)) (gtr_3 _ (List.mem_of_getElem? (i := 9) rfl)) wc_X0_say
set_option maxHeartbeats 4000000 in
set_option maxRecDepth 100000 in
theorem k_X6_readPair_52 {E : ET} {F : FT} {fo : Option HS} (hC : Cx E F 8 cX6_readPair RX6 GT) (hO : Ro F rm_X6_readPair) (hR : RV E F fo) (hf : fo ≠ none) (σ : HS) (h : f_X6_readPair_52 σ = fo) : G E F 52 [] [] σ := by
    exact g_vret hC hR dX6_readPair_52 h
set_option maxHeartbeats 4000000 in
set_option maxRecDepth 100000 in
theorem k_X6_readPair_0 {E : ET} {F : FT} {fo : Option HS} (hC : Cx E F 8 cX6_readPair RX6 GT) (hO : Ro F rm_X6_readPair) (hR : RV E F fo) (hf : fo ≠ none) (t : Nat) (ht1 : kd t = 6) (ht2 : AL E t) (x1 : Nat) (hx1a : kd x1 = 0) (hx1b : AL E x1) (x2 : Int32) (x3 : Int32) (x4 : Int32) (x5 : Int32) (σ : HS) (h : f_X6_readPair t x1 x2 x3 x4 x5 σ = fo) : G E F 0 [(0, .ref (E.2.2.1 t)), (1, .ref (E.2.2.1 x1)), (2, .int x2), (3, .int x3), (4, .int x4), (5, .int x5)] [] σ := by
    refine g_aload_n hC dX6_readPair_0 rfl 0 rfl ?_
    refine g_getR (cj := 8) (k := 0) hC cr6 ui_6 ht1 ht2 (by decide) fl_X6_18 rfl rfl dX6_readPair_1 h hf (fun a1 ea1 ka1 na1 h => ?_)
    obtain ⟨q2, hq2, h⟩ := bd_of h hf
    refine g_cVV (As := []) hC hO (c_X8_step _ hC.2.2.2.2.2.2.1 a1 ka1 na1 σ (nn_of hq2)) gc_X6_79 (xk_X8_step _ (Nat.le_of_ble_eq_true rfl) (Nat.le_of_ble_eq_true rfl)) cr8 ka1 na1 rfl (Nat.le_of_ble_eq_true rfl) dX6_readPair_4 hq2 ?_
    refine g_aload_n hC dX6_readPair_7 rfl 0 rfl ?_
    refine g_iconst (v := 0) hC dX6_readPair_8 (by decide) ?_
    refine g_iload hC dX6_readPair_9 4 rfl ?_
    refine g_iconst (v := 1) hC dX6_readPair_11 (by decide) ?_
    refine g_isub hC dX6_readPair_12 ?_
    refine g_iconst (v := (-1)) hC dX6_readPair_13 (by decide) ?_
    obtain ⟨q3, hq3, h⟩ := bd_of h hf
    refine g_cVI (As := [.int 0, .int (x4 - 1), .int (-1)]) hC hO (c_X6_takeNumber _ hC.2.2.2.2.2.2.1 t ht1 ht2 0 (x4 - 1) (-1) q2 (nn_of hq3)) gc_X6_88 (xk_X6_takeNumber _ (Nat.le_of_ble_eq_true rfl) (Nat.le_of_ble_eq_true rfl)) cr6 ht1 ht2 rfl (Nat.le_of_ble_eq_true rfl) dX6_readPair_14 hq3 ?_
    refine g_istore (lv' := [(6, .int q3.1), (0, .ref (E.2.2.1 t)), (1, .ref (E.2.2.1 x1)), (2, .int x2), (3, .int x3), (4, .int x4), (5, .int x5)]) hC dX6_readPair_17 (by decide) rfl ?_
    refine g_aload_n hC dX6_readPair_19 rfl 1 rfl ?_
    refine g_iconst (v := 0) hC dX6_readPair_20 (by decide) ?_
    refine g_iload hC dX6_readPair_21 5 rfl ?_
    refine g_iconst (v := 1) hC dX6_readPair_23 (by decide) ?_
    refine g_isub hC dX6_readPair_24 ?_
    refine g_iload hC dX6_readPair_25 0 rfl ?_
    obtain ⟨q4, hq4, h⟩ := bd_of h hf
    refine g_cVI (As := [.int 0, .int (x4 - 1), .int q3.1]) hC hO (c_X6_takeNumber _ hC.2.2.2.2.2.2.1 t ht1 ht2 0 (x4 - 1) q3.1 q3.2 (nn_of hq4)) gc_X6_88 (xk_X6_takeNumber _ (Nat.le_of_ble_eq_true rfl) (Nat.le_of_ble_eq_true rfl)) cr6 ht1 ht2 rfl (Nat.le_of_ble_eq_true rfl) dX6_readPair_27 hq4 ?_
    refine g_istore (lv' := [(7, .int q4.1), (6, .int q3.1), (0, .ref (E.2.2.1 t)), (1, .ref (E.2.2.1 x1)), (2, .int x2), (3, .int x3), (4, .int x4), (5, .int x5)]) hC dX6_readPair_30 (by decide) rfl ?_
    refine g_aload_n hC dX6_readPair_32 rfl 2 rfl ?_
    refine g_getI (k := 2) hC cr6 ui_6 ht1 ht2 (by decide) fl_X6_15 rfl rfl dX6_readPair_33 ?_
    refine g_if_ne (tgt := 52) hC dX6_readPair_36 (by decide) h (fun c36 h => ?_) (fun c36 h => ?_)
    · exact g_sub [] rfl (k_X6_readPair_52 hC hO hR hf q4.2 h)
    · refine g_aload_n hC dX6_readPair_39 rfl 3 rfl ?_
      refine g_iload_n hC dX6_readPair_40 rfl 4 rfl ?_
      refine g_iload_n hC dX6_readPair_41 rfl 5 rfl ?_
      refine g_iload hC dX6_readPair_42 1 rfl ?_
      refine g_iload hC dX6_readPair_44 0 rfl ?_
      refine g_iconst (v := 1) hC dX6_readPair_46 (by decide) ?_
      refine g_iload hC dX6_readPair_47 7 rfl ?_
      obtain ⟨q5, hq5, h⟩ := bd_of h hf
      refine g_cVV (As := [.int x2, .int x3, .int q3.1, .int q4.1, .int 1, .int x5]) hC hO (c_X0_say _ hC.2.2.2.2.2.2.1 x1 hx1a hx1b x2 x3 q3.1 q4.1 1 x5 q4.2 (nn_of hq5)) gc_X6_114 (xk_X0_say _ (Nat.le_of_ble_eq_true rfl) (Nat.le_of_ble_eq_true rfl)) cr0 hx1a hx1b rfl (Nat.le_of_ble_eq_true rfl) dX6_readPair_49 hq5 ?_
      exact g_sub [] rfl (k_X6_readPair_52 hC hO hR hf q5 h)
theorem xk_X6_readPair (R : Room) (h1 : 3 + 1 ≤ R.frames) (h2 : 141 ≤ R.locals) : xw R yX6_readPair w_X6_readPair GT cX6_readPair 8 none rm_X6_readPair 5 := ⟨rfl, rfl, rfl, h1, h2, ⟨by decide, by decide⟩, by decide +kernel⟩
theorem c_X6_readPair (E : ET) (hE : EO E) (t : Nat) (ht1 : kd t = 6) (ht2 : AL E t) (x1 : Nat) (hx1a : kd x1 = 0) (hx1b : AL E x1) (x2 : Int32) (x3 : Int32) (x4 : Int32) (x5 : Int32) (σ : HS) (hn : f_X6_readPair t x1 x2 x3 x4 x5 σ ≠ none) : CoV E yX6_readPair w_X6_readPair rm_X6_readPair [.ref (E.2.2.1 t), .ref (E.2.2.1 x1), .int x2, .int x3, .int x4, .int x5] σ (f_X6_readPair t x1 x2 x3 x4 x5 σ) := CoV.of (lv := [(0, .ref (E.2.2.1 t)), (1, .ref (E.2.2.1 x1)), (2, .int x2), (3, .int x3), (4, .int x4), (5, .int x5)]) hE (plainFor_of_name (by decide)) rfl (Nat.le_of_ble_eq_true rfl) rfl (fun F hC hO hR => k_X6_readPair_0 hC hO hR hn t ht1 ht2 x1 hx1a hx1b x2 x3 x4 x5 σ rfl)
def rm_X6_readStep : Room := { frames := 3, cells := 0, slots := 0, locals := 102 }
set_option maxHeartbeats 4000000 in
set_option maxRecDepth 100000 in
theorem k_X6_readStep_75 {E : ET} {F : FT} {fo : Option HS} (hC : Cx E F 7 cX6_readStep RX6 GT) (hO : Ro F rm_X6_readStep) (hR : RV E F fo) (hf : fo ≠ none) (σ : HS) (h : f_X6_readStep_75 σ = fo) : G E F 75 [] [] σ := by
    exact g_vret hC hR dX6_readStep_75 h
set_option maxHeartbeats 4000000 in
set_option maxRecDepth 100000 in
theorem k_X6_readStep_0 {E : ET} {F : FT} {fo : Option HS} (hC : Cx E F 7 cX6_readStep RX6 GT) (hO : Ro F rm_X6_readStep) (hR : RV E F fo) (hf : fo ≠ none) (t : Nat) (ht1 : kd t = 6) (ht2 : AL E t) (x1 : Nat) (hx1a : kd x1 = 0) (hx1b : AL E x1) (x2 : Int32) (σ : HS) (h : f_X6_readStep t x1 x2 σ = fo) : G E F 0 [(0, .ref (E.2.2.1 t)), (1, .ref (E.2.2.1 x1)), (2, .int x2)] [] σ := by
    refine g_aload_n hC dX6_readStep_0 rfl 0 rfl ?_
    refine g_getR (cj := 8) (k := 0) hC cr6 ui_6 ht1 ht2 (by decide) fl_X6_18 rfl rfl dX6_readStep_1 h hf (fun a1 ea1 ka1 na1 h => ?_)
    obtain ⟨q2, hq2, h⟩ := bd_of h hf
    refine g_cVV (As := []) hC hO (c_X8_step _ hC.2.2.2.2.2.2.1 a1 ka1 na1 σ (nn_of hq2)) gc_X6_79 (xk_X8_step _ (Nat.le_of_ble_eq_true rfl) (Nat.le_of_ble_eq_true rfl)) cr8 ka1 na1 rfl (Nat.le_of_ble_eq_true rfl) dX6_readStep_4 hq2 ?_
    refine g_aload_n hC dX6_readStep_7 rfl 0 rfl ?_
    refine g_iconst (v := 1) hC dX6_readStep_8 (by decide) ?_
    refine g_bipush (v := 100) hC dX6_readStep_9 (by decide) ?_
    refine g_iconst (v := (-1)) hC dX6_readStep_11 (by decide) ?_
    obtain ⟨q3, hq3, h⟩ := bd_of h hf
    refine g_cVI (As := [.int 1, .int 100, .int (-1)]) hC hO (c_X6_takeNumber _ hC.2.2.2.2.2.2.1 t ht1 ht2 1 100 (-1) q2 (nn_of hq3)) gc_X6_88 (xk_X6_takeNumber _ (Nat.le_of_ble_eq_true rfl) (Nat.le_of_ble_eq_true rfl)) cr6 ht1 ht2 rfl (Nat.le_of_ble_eq_true rfl) dX6_readStep_12 hq3 ?_
    refine g_istore_n (lv' := [(3, .int q3.1), (0, .ref (E.2.2.1 t)), (1, .ref (E.2.2.1 x1)), (2, .int x2)]) hC dX6_readStep_15 rfl (by decide) rfl ?_
    refine g_aload_n hC dX6_readStep_16 rfl 1 rfl ?_
    refine g_iconst (v := 0) hC dX6_readStep_17 (by decide) ?_
    refine g_aload_n hC dX6_readStep_18 rfl 1 rfl ?_
    refine g_getI (k := 1) hC cr6 ui_6 ht1 ht2 (by decide) fl_X6_9 rfl rfl dX6_readStep_19 ?_
    refine g_iconst (v := 1) hC dX6_readStep_22 (by decide) ?_
    refine g_isub hC dX6_readStep_23 ?_
    refine g_iconst (v := (-1)) hC dX6_readStep_24 (by decide) ?_
    obtain ⟨q4, hq4, h⟩ := bd_of h hf
    refine g_cVI (As := [.int 0, .int ((q3.2.1 t 1) - 1), .int (-1)]) hC hO (c_X6_takeNumber _ hC.2.2.2.2.2.2.1 t ht1 ht2 0 ((q3.2.1 t 1) - 1) (-1) q3.2 (nn_of hq4)) gc_X6_88 (xk_X6_takeNumber _ (Nat.le_of_ble_eq_true rfl) (Nat.le_of_ble_eq_true rfl)) cr6 ht1 ht2 rfl (Nat.le_of_ble_eq_true rfl) dX6_readStep_25 hq4 ?_
    refine g_istore (lv' := [(4, .int q4.1), (3, .int q3.1), (0, .ref (E.2.2.1 t)), (1, .ref (E.2.2.1 x1)), (2, .int x2)]) hC dX6_readStep_28 (by decide) rfl ?_
    refine g_aload_n hC dX6_readStep_30 rfl 2 rfl ?_
    refine g_iconst (v := 1) hC dX6_readStep_31 (by decide) ?_
    refine g_bipush (v := 100) hC dX6_readStep_32 (by decide) ?_
    refine g_iconst (v := (-1)) hC dX6_readStep_34 (by decide) ?_
    obtain ⟨q5, hq5, h⟩ := bd_of h hf
    refine g_cVI (As := [.int 1, .int 100, .int (-1)]) hC hO (c_X6_takeNumber _ hC.2.2.2.2.2.2.1 t ht1 ht2 1 100 (-1) q4.2 (nn_of hq5)) gc_X6_88 (xk_X6_takeNumber _ (Nat.le_of_ble_eq_true rfl) (Nat.le_of_ble_eq_true rfl)) cr6 ht1 ht2 rfl (Nat.le_of_ble_eq_true rfl) dX6_readStep_35 hq5 ?_
    refine g_istore (lv' := [(5, .int q5.1), (4, .int q4.1), (3, .int q3.1), (0, .ref (E.2.2.1 t)), (1, .ref (E.2.2.1 x1)), (2, .int x2)]) hC dX6_readStep_38 (by decide) rfl ?_
    refine g_aload_n hC dX6_readStep_40 rfl 3 rfl ?_
    refine g_iconst (v := 0) hC dX6_readStep_41 (by decide) ?_
    refine g_aload_n hC dX6_readStep_42 rfl 3 rfl ?_
    refine g_getI (k := 1) hC cr6 ui_6 ht1 ht2 (by decide) fl_X6_9 rfl rfl dX6_readStep_43 ?_
    refine g_iconst (v := 1) hC dX6_readStep_46 (by decide) ?_
    refine g_isub hC dX6_readStep_47 ?_
    refine g_iload hC dX6_readStep_48 1 rfl ?_
    obtain ⟨q6, hq6, h⟩ := bd_of h hf
    refine g_cVI (As := [.int 0, .int ((q5.2.1 t 1) - 1), .int q4.1]) hC hO (c_X6_takeNumber _ hC.2.2.2.2.2.2.1 t ht1 ht2 0 ((q5.2.1 t 1) - 1) q4.1 q5.2 (nn_of hq6)) gc_X6_88 (xk_X6_takeNumber _ (Nat.le_of_ble_eq_true rfl) (Nat.le_of_ble_eq_true rfl)) cr6 ht1 ht2 rfl (Nat.le_of_ble_eq_true rfl) dX6_readStep_50 hq6 ?_
    refine g_istore (lv' := [(6, .int q6.1), (5, .int q5.1), (4, .int q4.1), (3, .int q3.1), (0, .ref (E.2.2.1 t)), (1, .ref (E.2.2.1 x1)), (2, .int x2)]) hC dX6_readStep_53 (by decide) rfl ?_
    refine g_aload_n hC dX6_readStep_55 rfl 4 rfl ?_
    refine g_getI (k := 2) hC cr6 ui_6 ht1 ht2 (by decide) fl_X6_15 rfl rfl dX6_readStep_56 ?_
    refine g_if_ne (tgt := 75) hC dX6_readStep_59 (by decide) h (fun c59 h => ?_) (fun c59 h => ?_)
    · exact g_sub [] rfl (k_X6_readStep_75 hC hO hR hf q6.2 h)
    · refine g_aload_n hC dX6_readStep_62 rfl 5 rfl ?_
      refine g_iload_n hC dX6_readStep_63 rfl 6 rfl ?_
      refine g_iconst (v := 0) hC dX6_readStep_64 (by decide) ?_
      refine g_iload hC dX6_readStep_65 2 rfl ?_
      refine g_iload hC dX6_readStep_67 0 rfl ?_
      refine g_iload_n hC dX6_readStep_69 rfl 3 rfl ?_
      refine g_iload hC dX6_readStep_70 1 rfl ?_
      obtain ⟨q7, hq7, h⟩ := bd_of h hf
      refine g_cVV (As := [.int x2, .int 0, .int q4.1, .int q6.1, .int q3.1, .int q5.1]) hC hO (c_X0_say _ hC.2.2.2.2.2.2.1 x1 hx1a hx1b x2 0 q4.1 q6.1 q3.1 q5.1 q6.2 (nn_of hq7)) gc_X6_114 (xk_X0_say _ (Nat.le_of_ble_eq_true rfl) (Nat.le_of_ble_eq_true rfl)) cr0 hx1a hx1b rfl (Nat.le_of_ble_eq_true rfl) dX6_readStep_72 hq7 ?_
      exact g_sub [] rfl (k_X6_readStep_75 hC hO hR hf q7 h)
theorem xk_X6_readStep (R : Room) (h1 : 3 + 1 ≤ R.frames) (h2 : 140 ≤ R.locals) : xw R yX6_readStep w_X6_readStep GT cX6_readStep 7 none rm_X6_readStep 2 := ⟨rfl, rfl, rfl, h1, h2, ⟨by decide, by decide⟩, by decide +kernel⟩
theorem c_X6_readStep (E : ET) (hE : EO E) (t : Nat) (ht1 : kd t = 6) (ht2 : AL E t) (x1 : Nat) (hx1a : kd x1 = 0) (hx1b : AL E x1) (x2 : Int32) (σ : HS) (hn : f_X6_readStep t x1 x2 σ ≠ none) : CoV E yX6_readStep w_X6_readStep rm_X6_readStep [.ref (E.2.2.1 t), .ref (E.2.2.1 x1), .int x2] σ (f_X6_readStep t x1 x2 σ) := CoV.of (lv := [(0, .ref (E.2.2.1 t)), (1, .ref (E.2.2.1 x1)), (2, .int x2)]) hE (plainFor_of_name (by decide)) rfl (Nat.le_of_ble_eq_true rfl) rfl (fun F hC hO hR => k_X6_readStep_0 hC hO hR hn t ht1 ht2 x1 hx1a hx1b x2 σ rfl)
def rm_X6_readBound : Room := { frames := 3, cells := 0, slots := 0, locals := 102 }
set_option maxHeartbeats 4000000 in
set_option maxRecDepth 100000 in
theorem k_X6_readBound_51 {E : ET} {F : FT} {fo : Option HS} (hC : Cx E F 6 cX6_readBound RX6 GT) (hO : Ro F rm_X6_readBound) (hR : RV E F fo) (hf : fo ≠ none) (σ : HS) (h : f_X6_readBound_51 σ = fo) : G E F 51 [] [] σ := by
    exact g_vret hC hR dX6_readBound_51 h
set_option maxHeartbeats 4000000 in
set_option maxRecDepth 100000 in
theorem k_X6_readBound_0 {E : ET} {F : FT} {fo : Option HS} (hC : Cx E F 6 cX6_readBound RX6 GT) (hO : Ro F rm_X6_readBound) (hR : RV E F fo) (hf : fo ≠ none) (t : Nat) (ht1 : kd t = 6) (ht2 : AL E t) (x1 : Nat) (hx1a : kd x1 = 0) (hx1b : AL E x1) (x2 : Int32) (x3 : Int32) (σ : HS) (h : f_X6_readBound t x1 x2 x3 σ = fo) : G E F 0 [(0, .ref (E.2.2.1 t)), (1, .ref (E.2.2.1 x1)), (2, .int x2), (3, .int x3)] [] σ := by
    refine g_aload_n hC dX6_readBound_0 rfl 0 rfl ?_
    refine g_getR (cj := 8) (k := 0) hC cr6 ui_6 ht1 ht2 (by decide) fl_X6_18 rfl rfl dX6_readBound_1 h hf (fun a1 ea1 ka1 na1 h => ?_)
    obtain ⟨q2, hq2, h⟩ := bd_of h hf
    refine g_cVV (As := []) hC hO (c_X8_step _ hC.2.2.2.2.2.2.1 a1 ka1 na1 σ (nn_of hq2)) gc_X6_79 (xk_X8_step _ (Nat.le_of_ble_eq_true rfl) (Nat.le_of_ble_eq_true rfl)) cr8 ka1 na1 rfl (Nat.le_of_ble_eq_true rfl) dX6_readBound_4 hq2 ?_
    refine g_aload_n hC dX6_readBound_7 rfl 0 rfl ?_
    refine g_iconst (v := 0) hC dX6_readBound_8 (by decide) ?_
    refine g_aload_n hC dX6_readBound_9 rfl 0 rfl ?_
    refine g_getI (k := 1) hC cr6 ui_6 ht1 ht2 (by decide) fl_X6_9 rfl rfl dX6_readBound_10 ?_
    refine g_iconst (v := 1) hC dX6_readBound_13 (by decide) ?_
    refine g_isub hC dX6_readBound_14 ?_
    refine g_iconst (v := (-1)) hC dX6_readBound_15 (by decide) ?_
    obtain ⟨q3, hq3, h⟩ := bd_of h hf
    refine g_cVI (As := [.int 0, .int ((q2.1 t 1) - 1), .int (-1)]) hC hO (c_X6_takeNumber _ hC.2.2.2.2.2.2.1 t ht1 ht2 0 ((q2.1 t 1) - 1) (-1) q2 (nn_of hq3)) gc_X6_88 (xk_X6_takeNumber _ (Nat.le_of_ble_eq_true rfl) (Nat.le_of_ble_eq_true rfl)) cr6 ht1 ht2 rfl (Nat.le_of_ble_eq_true rfl) dX6_readBound_16 hq3 ?_
    refine g_istore (lv' := [(4, .int q3.1), (0, .ref (E.2.2.1 t)), (1, .ref (E.2.2.1 x1)), (2, .int x2), (3, .int x3)]) hC dX6_readBound_19 (by decide) rfl ?_
    refine g_aload_n hC dX6_readBound_21 rfl 1 rfl ?_
    refine g_iconst (v := 0) hC dX6_readBound_22 (by decide) ?_
    refine g_bipush (v := 100) hC dX6_readBound_23 (by decide) ?_
    refine g_iconst (v := (-1)) hC dX6_readBound_25 (by decide) ?_
    obtain ⟨q4, hq4, h⟩ := bd_of h hf
    refine g_cVI (As := [.int 0, .int 100, .int (-1)]) hC hO (c_X6_takeNumber _ hC.2.2.2.2.2.2.1 t ht1 ht2 0 100 (-1) q3.2 (nn_of hq4)) gc_X6_88 (xk_X6_takeNumber _ (Nat.le_of_ble_eq_true rfl) (Nat.le_of_ble_eq_true rfl)) cr6 ht1 ht2 rfl (Nat.le_of_ble_eq_true rfl) dX6_readBound_26 hq4 ?_
    refine g_istore (lv' := [(5, .int q4.1), (4, .int q3.1), (0, .ref (E.2.2.1 t)), (1, .ref (E.2.2.1 x1)), (2, .int x2), (3, .int x3)]) hC dX6_readBound_29 (by decide) rfl ?_
    refine g_aload_n hC dX6_readBound_31 rfl 2 rfl ?_
    refine g_getI (k := 2) hC cr6 ui_6 ht1 ht2 (by decide) fl_X6_15 rfl rfl dX6_readBound_32 ?_
    refine g_if_ne (tgt := 51) hC dX6_readBound_35 (by decide) h (fun c35 h => ?_) (fun c35 h => ?_)
    · exact g_sub [] rfl (k_X6_readBound_51 hC hO hR hf q4.2 h)
    · refine g_aload_n hC dX6_readBound_38 rfl 3 rfl ?_
      refine g_iload_n hC dX6_readBound_39 rfl 4 rfl ?_
      refine g_iload_n hC dX6_readBound_40 rfl 5 rfl ?_
      refine g_iload hC dX6_readBound_41 1 rfl ?_
      refine g_iload hC dX6_readBound_43 1 rfl ?_
      refine g_iload hC dX6_readBound_45 0 rfl ?_
      refine g_iconst (v := 0) hC dX6_readBound_47 (by decide) ?_
      obtain ⟨q5, hq5, h⟩ := bd_of h hf
      refine g_cVV (As := [.int x2, .int x3, .int q3.1, .int q3.1, .int q4.1, .int 0]) hC hO (c_X0_say _ hC.2.2.2.2.2.2.1 x1 hx1a hx1b x2 x3 q3.1 q3.1 q4.1 0 q4.2 (nn_of hq5)) gc_X6_114 (xk_X0_say _ (Nat.le_of_ble_eq_true rfl) (Nat.le_of_ble_eq_true rfl)) cr0 hx1a hx1b rfl (Nat.le_of_ble_eq_true rfl) dX6_readBound_48 hq5 ?_
      exact g_sub [] rfl (k_X6_readBound_51 hC hO hR hf q5 h)
theorem xk_X6_readBound (R : Room) (h1 : 3 + 1 ≤ R.frames) (h2 : 139 ≤ R.locals) : xw R yX6_readBound w_X6_readBound GT cX6_readBound 6 none rm_X6_readBound 3 := ⟨rfl, rfl, rfl, h1, h2, ⟨by decide, by decide⟩, by decide +kernel⟩
theorem c_X6_readBound (E : ET) (hE : EO E) (t : Nat) (ht1 : kd t = 6) (ht2 : AL E t) (x1 : Nat) (hx1a : kd x1 = 0) (hx1b : AL E x1) (x2 : Int32) (x3 : Int32) (σ : HS) (hn : f_X6_readBound t x1 x2 x3 σ ≠ none) : CoV E yX6_readBound w_X6_readBound rm_X6_readBound [.ref (E.2.2.1 t), .ref (E.2.2.1 x1), .int x2, .int x3] σ (f_X6_readBound t x1 x2 x3 σ) := CoV.of (lv := [(0, .ref (E.2.2.1 t)), (1, .ref (E.2.2.1 x1)), (2, .int x2), (3, .int x3)]) hE (plainFor_of_name (by decide)) rfl (Nat.le_of_ble_eq_true rfl) rfl (fun F hC hO hR => k_X6_readBound_0 hC hO hR hn t ht1 ht2 x1 hx1a hx1b x2 x3 σ rfl)
def rm_X6_takeSemicolon : Room := { frames := 2, cells := 0, slots := 0, locals := 66 }
set_option maxHeartbeats 4000000 in
set_option maxRecDepth 100000 in
theorem k_X6_takeSemicolon_34 {E : ET} {F : FT} {fo : Option HS} (hC : Cx E F 1 cX6_takeSemicolon RX6 GT) (hO : Ro F rm_X6_takeSemicolon) (hR : RV E F fo) (hf : fo ≠ none) (σ : HS) (h : f_X6_takeSemicolon_34 σ = fo) : G E F 34 [] [] σ := by
    exact g_vret hC hR dX6_takeSemicolon_34 h
set_option maxHeartbeats 4000000 in
set_option maxRecDepth 100000 in
theorem k_X6_takeSemicolon_0 {E : ET} {F : FT} {fo : Option HS} (hC : Cx E F 1 cX6_takeSemicolon RX6 GT) (hO : Ro F rm_X6_takeSemicolon) (hR : RV E F fo) (hf : fo ≠ none) (t : Nat) (ht1 : kd t = 6) (ht2 : AL E t) (σ : HS) (h : f_X6_takeSemicolon t σ = fo) : G E F 0 [(0, .ref (E.2.2.1 t))] [] σ := by
    refine g_aload_n hC dX6_takeSemicolon_0 rfl 0 rfl ?_
    refine g_getI (k := 2) hC cr6 ui_6 ht1 ht2 (by decide) fl_X6_15 rfl rfl dX6_takeSemicolon_1 ?_
    refine g_if_eq (tgt := 8) hC dX6_takeSemicolon_4 (by decide) h (fun c4 h => ?_) (fun c4 h => ?_)
    · refine g_aload_n hC dX6_takeSemicolon_8 rfl 0 rfl ?_
      refine g_getR (cj := 8) (k := 0) hC cr6 ui_6 ht1 ht2 (by decide) fl_X6_18 rfl rfl dX6_takeSemicolon_9 h hf (fun a1 ea1 ka1 na1 h => ?_)
      refine g_getI (k := 2) hC cr8 ui_8 ka1 na1 (by decide) fl_X6_32 rfl rfl dX6_takeSemicolon_12 ?_
      refine g_iconst (v := 3) hC dX6_takeSemicolon_15 (by decide) ?_
      refine g_icmp_ne (tgt := 29) hC dX6_takeSemicolon_16 (by decide) h (fun c16 h => ?_) (fun c16 h => ?_)
      · refine g_aload_n hC dX6_takeSemicolon_29 rfl 0 rfl ?_
        refine g_iconst (v := 1) hC dX6_takeSemicolon_30 (by decide) ?_
        obtain ⟨q2, hq2, h⟩ := bd_of h hf
        refine g_cVV (As := [.int 1]) hC hO (c_X6_wrong _ hC.2.2.2.2.2.2.1 t ht1 ht2 1 σ (nn_of hq2)) gc_X6_65 (xk_X6_wrong _ (Nat.le_of_ble_eq_true rfl) (Nat.le_of_ble_eq_true rfl)) cr6 ht1 ht2 rfl (Nat.le_of_ble_eq_true rfl) dX6_takeSemicolon_31 hq2 ?_
        exact g_sub [] rfl (k_X6_takeSemicolon_34 hC hO hR hf q2 h)
      · refine g_aload_n hC dX6_takeSemicolon_19 rfl 0 rfl ?_
        refine g_getR (cj := 8) (k := 0) hC cr6 ui_6 ht1 ht2 (by decide) fl_X6_18 rfl rfl dX6_takeSemicolon_20 h hf (fun a3 ea3 ka3 na3 h => ?_)
        obtain ⟨q4, hq4, h⟩ := bd_of h hf
        refine g_cVV (As := []) hC hO (c_X8_step _ hC.2.2.2.2.2.2.1 a3 ka3 na3 σ (nn_of hq4)) gc_X6_79 (xk_X8_step _ (Nat.le_of_ble_eq_true rfl) (Nat.le_of_ble_eq_true rfl)) cr8 ka3 na3 rfl (Nat.le_of_ble_eq_true rfl) dX6_takeSemicolon_23 hq4 ?_
        refine g_goto (tgt := 34) hC dX6_takeSemicolon_26 (by decide) ?_
        exact g_sub [] rfl (k_X6_takeSemicolon_34 hC hO hR hf q4 h)
    · exact g_vret hC hR dX6_takeSemicolon_7 h
theorem xk_X6_takeSemicolon (R : Room) (h1 : 2 + 1 ≤ R.frames) (h2 : 98 ≤ R.locals) : xw R yX6_takeSemicolon w_X6_takeSemicolon GT cX6_takeSemicolon 1 none rm_X6_takeSemicolon 0 := ⟨rfl, rfl, rfl, h1, h2, ⟨by decide, by decide⟩, by decide +kernel⟩
theorem c_X6_takeSemicolon (E : ET) (hE : EO E) (t : Nat) (ht1 : kd t = 6) (ht2 : AL E t) (σ : HS) (hn : f_X6_takeSemicolon t σ ≠ none) : CoV E yX6_takeSemicolon w_X6_takeSemicolon rm_X6_takeSemicolon [.ref (E.2.2.1 t)] σ (f_X6_takeSemicolon t σ) := CoV.of (lv := [(0, .ref (E.2.2.1 t))]) hE (plainFor_of_name (by decide)) rfl (Nat.le_of_ble_eq_true rfl) rfl (fun F hC hO hR => k_X6_takeSemicolon_0 hC hO hR hn t ht1 ht2 σ rfl)
def rm_X7_open : Room := { frames := 0, cells := 0, slots := 0, locals := 0 }
theorem fl_X7_9 : Cond.fieldLink RX7 9 "EveryMeasure$Span" (TX7 0).2.1 (TX7 0).2.2.1 ∈ GT := gtr_6 _ (List.mem_of_getElem? (i := 23) rfl)
theorem fl_X7_18 : Cond.fieldLink RX7 18 "EveryMeasure$Span" (TX7 2).2.1 (TX7 2).2.2.1 ∈ GT := gtr_7 _ (List.mem_of_getElem? (i := 1) rfl)
theorem fl_X7_21 : Cond.fieldLink RX7 21 "EveryMeasure$Span" (TX7 3).2.1 (TX7 3).2.2.1 ∈ GT := gtr_7 _ (List.mem_of_getElem? (i := 2) rfl)
theorem fl_X7_15 : Cond.fieldLink RX7 15 "EveryMeasure$Span" (TX7 1).2.1 (TX7 1).2.2.1 ∈ GT := gtr_7 _ (List.mem_of_getElem? (i := 0) rfl)
theorem fl_X7_24 : Cond.fieldLink RX7 24 "EveryMeasure$Span" (TX7 4).2.1 (TX7 4).2.2.1 ∈ GT := gtr_7 _ (List.mem_of_getElem? (i := 3) rfl)
theorem fl_X7_27 : Cond.fieldLink RX7 27 "EveryMeasure$Span" (TX7 5).2.1 (TX7 5).2.2.1 ∈ GT := gtr_7 _ (List.mem_of_getElem? (i := 4) rfl)
set_option maxHeartbeats 4000000 in
set_option maxRecDepth 100000 in
theorem k_X7_open_49 {E : ET} {F : FT} {fo : Option HS} (hC : Cx E F 5 cX7_open RX7 GT) (hO : Ro F rm_X7_open) (hR : RV E F fo) (hf : fo ≠ none) (t : Nat) (ht1 : kd t = 7) (ht2 : AL E t) (s0 : Int32) (s1 : Nat) (hs1a : kd s1 = 7) (hs1b : AL E s1) (σ : HS) (h : f_X7_open_49 t s0 s1 σ = fo) : G E F 49 [(0, .ref (E.2.2.1 t))] [.int s0, .ref (E.2.2.1 s1)] σ := by
    refine g_putI (k := 4) hC cr7 ui_7 tyX7_ok nmX7 hs1a hs1b (by decide) fl_X7_24 rfl rfl rfl rfl dX7_open_49 ?_
    refine g_aload_n hC dX7_open_52 rfl 0 rfl ?_
    refine g_aload_n hC dX7_open_53 rfl 0 rfl ?_
    refine g_getI (k := 1) hC cr7 ui_7 ht1 ht2 (by decide) fl_X7_15 rfl rfl dX7_open_54 ?_
    refine g_putI (k := 5) hC cr7 ui_7 tyX7_ok nmX7 ht1 ht2 (by decide) fl_X7_27 rfl rfl rfl rfl dX7_open_57 ?_
    exact g_vret hC hR dX7_open_60 h
set_option maxHeartbeats 4000000 in
set_option maxRecDepth 100000 in
theorem k_X7_open_0 {E : ET} {F : FT} {fo : Option HS} (hC : Cx E F 5 cX7_open RX7 GT) (hO : Ro F rm_X7_open) (hR : RV E F fo) (hf : fo ≠ none) (t : Nat) (ht1 : kd t = 7) (ht2 : AL E t) (x1 : Int32) (x2 : Int32) (x3 : Int32) (x4 : Int32) (σ : HS) (h : f_X7_open t x1 x2 x3 x4 σ = fo) : G E F 0 [(0, .ref (E.2.2.1 t)), (1, .int x1), (2, .int x2), (3, .int x3), (4, .int x4)] [] σ := by
    refine g_aload_n hC dX7_open_0 rfl 0 rfl ?_
    refine g_iload_n hC dX7_open_1 rfl 1 rfl ?_
    refine g_iconst (v := 1) hC dX7_open_2 (by decide) ?_
    refine g_isub hC dX7_open_3 ?_
    refine g_putI (k := 0) hC cr7 ui_7 tyX7_ok nmX7 ht1 ht2 (by decide) fl_X7_9 rfl rfl rfl rfl dX7_open_4 ?_
    refine g_aload_n hC dX7_open_7 rfl 0 rfl ?_
    refine g_iload_n hC dX7_open_8 rfl 3 rfl ?_
    refine g_putI (k := 2) hC cr7 ui_7 tyX7_ok nmX7 ht1 ht2 (by decide) fl_X7_18 rfl rfl rfl rfl dX7_open_9 ?_
    refine g_aload_n hC dX7_open_12 rfl 0 rfl ?_
    refine g_iload hC dX7_open_13 4 rfl ?_
    refine g_putI (k := 3) hC cr7 ui_7 tyX7_ok nmX7 ht1 ht2 (by decide) fl_X7_21 rfl rfl rfl rfl dX7_open_15 ?_
    refine g_aload_n hC dX7_open_18 rfl 0 rfl ?_
    refine g_iload_n hC dX7_open_19 rfl 2 rfl ?_
    refine g_aload_n hC dX7_open_20 rfl 0 rfl ?_
    refine g_getI (k := 2) hC cr7 ui_7 ht1 ht2 (by decide) fl_X7_18 rfl rfl dX7_open_21 ?_
    refine g_isub hC dX7_open_24 ?_
    refine g_aload_n hC dX7_open_25 rfl 0 rfl ?_
    refine g_getI (k := 3) hC cr7 ui_7 ht1 ht2 (by decide) fl_X7_21 rfl rfl dX7_open_26 ?_
    refine g_isub hC dX7_open_29 ?_
    refine g_putI (k := 1) hC cr7 ui_7 tyX7_ok nmX7 ht1 ht2 (by decide) fl_X7_15 rfl rfl rfl rfl dX7_open_30 ?_
    refine g_aload_n hC dX7_open_33 rfl 0 rfl ?_
    refine g_aload_n hC dX7_open_34 rfl 0 rfl ?_
    refine g_getI (k := 0) hC cr7 ui_7 ht1 ht2 (by decide) fl_X7_9 rfl rfl dX7_open_35 ?_
    refine g_if_ne (tgt := 48) hC dX7_open_38 (by decide) h (fun c38 h => ?_) (fun c38 h => ?_)
    · refine g_iconst (v := 0) hC dX7_open_48 (by decide) ?_
      exact g_sub [0] rfl (k_X7_open_49 hC hO hR hf t ht1 ht2 0 t ht1 ht2 (sI (sI (sI (sI σ t 0 (x1 - 1)) t 2 x3) t 3 x4) t 1 ((x2 - ((sI (sI (sI σ t 0 (x1 - 1)) t 2 x3) t 3 x4).1 t 2)) - ((sI (sI (sI σ t 0 (x1 - 1)) t 2 x3) t 3 x4).1 t 3))) h)
    · refine g_aload_n hC dX7_open_41 rfl 0 rfl ?_
      refine g_getI (k := 1) hC cr7 ui_7 ht1 ht2 (by decide) fl_X7_15 rfl rfl dX7_open_42 ?_
      refine g_goto (tgt := 49) hC dX7_open_45 (by decide) ?_
      exact g_sub [0] rfl (k_X7_open_49 hC hO hR hf t ht1 ht2 ((sI (sI (sI (sI σ t 0 (x1 - 1)) t 2 x3) t 3 x4) t 1 ((x2 - ((sI (sI (sI σ t 0 (x1 - 1)) t 2 x3) t 3 x4).1 t 2)) - ((sI (sI (sI σ t 0 (x1 - 1)) t 2 x3) t 3 x4).1 t 3))).1 t 1) t ht1 ht2 (sI (sI (sI (sI σ t 0 (x1 - 1)) t 2 x3) t 3 x4) t 1 ((x2 - ((sI (sI (sI σ t 0 (x1 - 1)) t 2 x3) t 3 x4).1 t 2)) - ((sI (sI (sI σ t 0 (x1 - 1)) t 2 x3) t 3 x4).1 t 3))) h)
theorem xk_X7_open (R : Room) (h1 : 0 + 1 ≤ R.frames) (h2 : 36 ≤ R.locals) : xw R yX7_open w_X7_open GT cX7_open 5 none rm_X7_open 4 := ⟨rfl, rfl, rfl, h1, h2, ⟨by decide, by decide⟩, by decide +kernel⟩
theorem c_X7_open (E : ET) (hE : EO E) (t : Nat) (ht1 : kd t = 7) (ht2 : AL E t) (x1 : Int32) (x2 : Int32) (x3 : Int32) (x4 : Int32) (σ : HS) (hn : f_X7_open t x1 x2 x3 x4 σ ≠ none) : CoV E yX7_open w_X7_open rm_X7_open [.ref (E.2.2.1 t), .int x1, .int x2, .int x3, .int x4] σ (f_X7_open t x1 x2 x3 x4 σ) := CoV.of (lv := [(0, .ref (E.2.2.1 t)), (1, .int x1), (2, .int x2), (3, .int x3), (4, .int x4)]) hE (plainFor_of_name (by decide)) rfl (Nat.le_of_ble_eq_true rfl) rfl (fun F hC hO hR => k_X7_open_0 hC hO hR hn t ht1 ht2 x1 x2 x3 x4 σ rfl)
def rm_X7_narrow : Room := { frames := 1, cells := 0, slots := 0, locals := 34 }
theorem wc_J9_floorDiv_7cf53 : Cond.code yJ9_floorDiv_7cf53 cJ9_floorDiv_7cf53 3 (some .int) ∈ GT := gtr_50 _ (List.mem_of_getElem? (i := 18) rfl)
theorem gc_X7_34 : GoodIn GT (va_wsS RX7 34 yJ9_floorDiv_7cf53 w_J9_floorDiv_7cf53) := gi_S (gtr_50 _ (List.mem_of_getElem? (i := 16) rfl)) (gtr_50 _ (List.mem_of_getElem? (i := 17) rfl)) (gtr_49 _ (List.mem_of_getElem? (i := 7) rfl)) wc_J9_floorDiv_7cf53
theorem gc_X7_43 : GoodIn GT (va_wsS RX7 43 yJ9_min_7cf53 w_J9_min_7cf53) := gi_S (gtr_50 _ (List.mem_of_getElem? (i := 15) rfl)) (gtr_14 _ (List.mem_of_getElem? (i := 6) rfl)) (gtr_49 _ (List.mem_of_getElem? (i := 7) rfl)) wc_J9_min_7cf53
theorem gc_X7_40 : GoodIn GT (va_wsS RX7 40 yJ9_max_7cf53 w_J9_max_7cf53) := gi_S (gtr_50 _ (List.mem_of_getElem? (i := 14) rfl)) (gtr_46 _ (List.mem_of_getElem? (i := 8) rfl)) (gtr_49 _ (List.mem_of_getElem? (i := 7) rfl)) wc_J9_max_7cf53
set_option maxHeartbeats 4000000 in
set_option maxRecDepth 100000 in
theorem k_X7_narrow_98 {E : ET} {F : FT} {fo : Option HS} (hC : Cx E F 4 cX7_narrow RX7 GT) (hO : Ro F rm_X7_narrow) (hR : RV E F fo) (hf : fo ≠ none) (σ : HS) (h : f_X7_narrow_98 σ = fo) : G E F 98 [] [] σ := by
    exact g_vret hC hR dX7_narrow_98 h
set_option maxHeartbeats 4000000 in
set_option maxRecDepth 100000 in
theorem k_X7_narrow_0 {E : ET} {F : FT} {fo : Option HS} (hC : Cx E F 4 cX7_narrow RX7 GT) (hO : Ro F rm_X7_narrow) (hR : RV E F fo) (hf : fo ≠ none) (t : Nat) (ht1 : kd t = 7) (ht2 : AL E t) (x1 : Nat) (hx1a : kd x1 = 14) (hx1b : AL E x1) (σ : HS) (h : f_X7_narrow t x1 σ = fo) : G E F 0 [(0, .ref (E.2.2.1 t)), (1, .ref (E.2.2.1 x1))] [] σ := by
    refine g_aload_n hC dX7_narrow_0 rfl 1 rfl ?_
    refine g_iconst (v := 0) hC dX7_narrow_1 (by decide) ?_
    refine g_iald hC hx1a hx1b dX7_narrow_2 h hf (fun h => ?_)
    refine g_aload_n hC dX7_narrow_3 rfl 1 rfl ?_
    refine g_aload_n hC dX7_narrow_4 rfl 0 rfl ?_
    refine g_getI (k := 0) hC cr7 ui_7 ht1 ht2 (by decide) fl_X7_9 rfl rfl dX7_narrow_5 ?_
    refine g_iald hC hx1a hx1b dX7_narrow_8 h hf (fun h => ?_)
    refine g_isub hC dX7_narrow_9 ?_
    refine g_istore_n (lv' := [(2, .int ((σ.1 x1 (0 : Int32).toNatClampNeg) - (σ.1 x1 (σ.1 t 0).toNatClampNeg))), (0, .ref (E.2.2.1 t)), (1, .ref (E.2.2.1 x1))]) hC dX7_narrow_10 rfl (by decide) rfl ?_
    refine g_aload_n hC dX7_narrow_11 rfl 2 rfl ?_
    refine g_iconst (v := 1) hC dX7_narrow_12 (by decide) ?_
    refine g_iald hC hx1a hx1b dX7_narrow_13 h hf (fun h => ?_)
    refine g_aload_n hC dX7_narrow_14 rfl 1 rfl ?_
    refine g_getI (k := 2) hC cr7 ui_7 ht1 ht2 (by decide) fl_X7_18 rfl rfl dX7_narrow_15 ?_
    refine g_imul hC dX7_narrow_18 ?_
    refine g_aload_n hC dX7_narrow_19 rfl 2 rfl ?_
    refine g_iconst (v := 2) hC dX7_narrow_20 (by decide) ?_
    refine g_iald hC hx1a hx1b dX7_narrow_21 h hf (fun h => ?_)
    refine g_aload_n hC dX7_narrow_22 rfl 1 rfl ?_
    refine g_getI (k := 3) hC cr7 ui_7 ht1 ht2 (by decide) fl_X7_21 rfl rfl dX7_narrow_23 ?_
    refine g_imul hC dX7_narrow_26 ?_
    refine g_iadd hC dX7_narrow_27 ?_
    refine g_aload_n hC dX7_narrow_28 rfl 2 rfl ?_
    refine g_aload_n hC dX7_narrow_29 rfl 1 rfl ?_
    refine g_getI (k := 0) hC cr7 ui_7 ht1 ht2 (by decide) fl_X7_9 rfl rfl dX7_narrow_30 ?_
    refine g_iald hC hx1a hx1b dX7_narrow_33 h hf (fun h => ?_)
    refine g_aload_n hC dX7_narrow_34 rfl 1 rfl ?_
    refine g_getI (k := 1) hC cr7 ui_7 ht1 ht2 (by decide) fl_X7_15 rfl rfl dX7_narrow_35 ?_
    refine g_imul hC dX7_narrow_38 ?_
    refine g_iadd hC dX7_narrow_39 ?_
    refine g_istore_n (lv' := [(3, .int ((((σ.1 x1 (1 : Int32).toNatClampNeg) * (σ.1 t 2)) + ((σ.1 x1 (2 : Int32).toNatClampNeg) * (σ.1 t 3))) + ((σ.1 x1 (σ.1 t 0).toNatClampNeg) * (σ.1 t 1)))), (2, .int ((σ.1 x1 (0 : Int32).toNatClampNeg) - (σ.1 x1 (σ.1 t 0).toNatClampNeg))), (0, .ref (E.2.2.1 t)), (1, .ref (E.2.2.1 x1))]) hC dX7_narrow_40 rfl (by decide) rfl ?_
    refine g_iload_n hC dX7_narrow_41 rfl 1 rfl ?_
    refine g_if_le (tgt := 65) hC dX7_narrow_42 (by decide) h (fun c42 h => ?_) (fun c42 h => ?_)
    · refine g_iload_n hC dX7_narrow_65 rfl 1 rfl ?_
      refine g_if_ge (tgt := 89) hC dX7_narrow_66 (by decide) h (fun c66 h => ?_) (fun c66 h => ?_)
      · refine g_iload_n hC dX7_narrow_89 rfl 0 rfl ?_
        refine g_if_ge (tgt := 98) hC dX7_narrow_90 (by decide) h (fun c90 h => ?_) (fun c90 h => ?_)
        · exact g_sub [] rfl (k_X7_narrow_98 hC hO hR hf σ h)
        · refine g_aload_n hC dX7_narrow_93 rfl 2 rfl ?_
          refine g_iconst (v := (-1)) hC dX7_narrow_94 (by decide) ?_
          refine g_putI (k := 5) hC cr7 ui_7 tyX7_ok nmX7 ht1 ht2 (by decide) fl_X7_27 rfl rfl rfl rfl dX7_narrow_95 ?_
          exact g_sub [] rfl (k_X7_narrow_98 hC hO hR hf (sI σ t 5 (-1)) h)
      · refine g_aload_n hC dX7_narrow_69 rfl 2 rfl ?_
        refine g_aload_n hC dX7_narrow_70 rfl 2 rfl ?_
        refine g_getI (k := 5) hC cr7 ui_7 ht1 ht2 (by decide) fl_X7_27 rfl rfl dX7_narrow_71 ?_
        refine g_iload_n hC dX7_narrow_74 rfl 0 rfl ?_
        refine g_iload_n hC dX7_narrow_75 rfl 1 rfl ?_
        refine g_ineg hC dX7_narrow_76 ?_
        obtain ⟨q1, hq1, h⟩ := bd_of h hf
        refine g_cSI (As := [.int ((((σ.1 x1 (1 : Int32).toNatClampNeg) * (σ.1 t 2)) + ((σ.1 x1 (2 : Int32).toNatClampNeg) * (σ.1 t 3))) + ((σ.1 x1 (σ.1 t 0).toNatClampNeg) * (σ.1 t 1))), .int (-((σ.1 x1 (0 : Int32).toNatClampNeg) - (σ.1 x1 (σ.1 t 0).toNatClampNeg)))]) hC hO (c_J9_floorDiv_7cf53 _ hC.2.2.2.2.2.2.1 ((((σ.1 x1 (1 : Int32).toNatClampNeg) * (σ.1 t 2)) + ((σ.1 x1 (2 : Int32).toNatClampNeg) * (σ.1 t 3))) + ((σ.1 x1 (σ.1 t 0).toNatClampNeg) * (σ.1 t 1))) (-((σ.1 x1 (0 : Int32).toNatClampNeg) - (σ.1 x1 (σ.1 t 0).toNatClampNeg))) σ (nn_of hq1)) gc_X7_34 (xk_J9_floorDiv_7cf53 _ (Nat.le_of_ble_eq_true rfl) (Nat.le_of_ble_eq_true rfl)) rfl (Nat.le_of_ble_eq_true rfl) dX7_narrow_77 hq1 ?_
        obtain ⟨q2, hq2, h⟩ := bd_of h hf
        refine g_cSI (As := [.int (σ.1 t 5), .int q1.1]) hC hO (c_J9_min_7cf53 _ hC.2.2.2.2.2.2.1 (σ.1 t 5) q1.1 q1.2 (nn_of hq2)) gc_X7_43 (xk_J9_min_7cf53 _ (Nat.le_of_ble_eq_true rfl) (Nat.le_of_ble_eq_true rfl)) rfl (Nat.le_of_ble_eq_true rfl) dX7_narrow_80 hq2 ?_
        refine g_putI (k := 5) hC cr7 ui_7 tyX7_ok nmX7 ht1 ht2 (by decide) fl_X7_27 rfl rfl rfl rfl dX7_narrow_83 ?_
        refine g_goto (tgt := 98) hC dX7_narrow_86 (by decide) ?_
        exact g_sub [] rfl (k_X7_narrow_98 hC hO hR hf (sI q2.2 t 5 q2.1) h)
    · refine g_aload_n hC dX7_narrow_45 rfl 2 rfl ?_
      refine g_aload_n hC dX7_narrow_46 rfl 2 rfl ?_
      refine g_getI (k := 4) hC cr7 ui_7 ht1 ht2 (by decide) fl_X7_24 rfl rfl dX7_narrow_47 ?_
      refine g_iload_n hC dX7_narrow_50 rfl 0 rfl ?_
      refine g_iload_n hC dX7_narrow_51 rfl 1 rfl ?_
      obtain ⟨q3, hq3, h⟩ := bd_of h hf
      refine g_cSI (As := [.int ((((σ.1 x1 (1 : Int32).toNatClampNeg) * (σ.1 t 2)) + ((σ.1 x1 (2 : Int32).toNatClampNeg) * (σ.1 t 3))) + ((σ.1 x1 (σ.1 t 0).toNatClampNeg) * (σ.1 t 1))), .int ((σ.1 x1 (0 : Int32).toNatClampNeg) - (σ.1 x1 (σ.1 t 0).toNatClampNeg))]) hC hO (c_J9_floorDiv_7cf53 _ hC.2.2.2.2.2.2.1 ((((σ.1 x1 (1 : Int32).toNatClampNeg) * (σ.1 t 2)) + ((σ.1 x1 (2 : Int32).toNatClampNeg) * (σ.1 t 3))) + ((σ.1 x1 (σ.1 t 0).toNatClampNeg) * (σ.1 t 1))) ((σ.1 x1 (0 : Int32).toNatClampNeg) - (σ.1 x1 (σ.1 t 0).toNatClampNeg)) σ (nn_of hq3)) gc_X7_34 (xk_J9_floorDiv_7cf53 _ (Nat.le_of_ble_eq_true rfl) (Nat.le_of_ble_eq_true rfl)) rfl (Nat.le_of_ble_eq_true rfl) dX7_narrow_52 hq3 ?_
      refine g_ineg hC dX7_narrow_55 ?_
      obtain ⟨q4, hq4, h⟩ := bd_of h hf
      refine g_cSI (As := [.int (σ.1 t 4), .int (-q3.1)]) hC hO (c_J9_max_7cf53 _ hC.2.2.2.2.2.2.1 (σ.1 t 4) (-q3.1) q3.2 (nn_of hq4)) gc_X7_40 (xk_J9_max_7cf53 _ (Nat.le_of_ble_eq_true rfl) (Nat.le_of_ble_eq_true rfl)) rfl (Nat.le_of_ble_eq_true rfl) dX7_narrow_56 hq4 ?_
      refine g_putI (k := 4) hC cr7 ui_7 tyX7_ok nmX7 ht1 ht2 (by decide) fl_X7_24 rfl rfl rfl rfl dX7_narrow_59 ?_
      refine g_goto (tgt := 98) hC dX7_narrow_62 (by decide) ?_
      exact g_sub [] rfl (k_X7_narrow_98 hC hO hR hf (sI q4.2 t 4 q4.1) h)
theorem xk_X7_narrow (R : Room) (h1 : 1 + 1 ≤ R.frames) (h2 : 69 ≤ R.locals) : xw R yX7_narrow w_X7_narrow GT cX7_narrow 4 none rm_X7_narrow 1 := ⟨rfl, rfl, rfl, h1, h2, ⟨by decide, by decide⟩, by decide +kernel⟩
theorem c_X7_narrow (E : ET) (hE : EO E) (t : Nat) (ht1 : kd t = 7) (ht2 : AL E t) (x1 : Nat) (hx1a : kd x1 = 14) (hx1b : AL E x1) (σ : HS) (hn : f_X7_narrow t x1 σ ≠ none) : CoV E yX7_narrow w_X7_narrow rm_X7_narrow [.ref (E.2.2.1 t), .ref (E.2.2.1 x1)] σ (f_X7_narrow t x1 σ) := CoV.of (lv := [(0, .ref (E.2.2.1 t)), (1, .ref (E.2.2.1 x1))]) hE (plainFor_of_name (by decide)) rfl (Nat.le_of_ble_eq_true rfl) rfl (fun F hC hO hR => k_X7_narrow_0 hC hO hR hn t ht1 ht2 x1 hx1a hx1b σ rfl)
def rm_X7_narrowBy : Room := { frames := 2, cells := 0, slots := 0, locals := 69 }
theorem wc_X7_narrow : Cond.code yX7_narrow cX7_narrow 4 none ∈ GT := gtr_50 _ (List.mem_of_getElem? (i := 13) rfl)
theorem gc_X7_30 : GoodIn GT (wsV RX7 30 RX7 yX7_narrow w_X7_narrow) := gi_V (gtr_50 _ (List.mem_of_getElem? (i := 10) rfl)) (gtr_50 _ (List.mem_of_getElem? (i := 11) rfl)) (gtr_50 _ (List.mem_of_getElem? (i := 12) rfl)) (gtr_2 _ (List.mem_of_getElem? (i := 20) rfl)) wc_X7_narrow
set_option maxHeartbeats 4000000 in
set_option maxRecDepth 100000 in
theorem k_X7_narrowBy_23 {E : ET} {F : FT} {fo : Option HS} (hC : Cx E F 4 cX7_narrowBy RX7 GT) (hO : Ro F rm_X7_narrowBy) (hR : RV E F fo) (hf : fo ≠ none) (t : Nat) (ht1 : kd t = 7) (ht2 : AL E t) (x1 : Nat) (hx1a : kd x1 = 18) (hx1b : AL E x1) (x2 : Int32) (x3 : Int32) (r2 : Int32 → HS → Option HS) (h2 : ∀ (x3 : Int32) (σ : HS), r2 x3 σ = fo → G E F 2 [(0, .ref (E.2.2.1 t)), (1, .ref (E.2.2.1 x1)), (2, .int x2), (3, .int x3)] [] σ) (σ : HS) (h : f_X7_narrowBy_23 r2 t x1 x2 x3 σ = fo) : G E F 23 [(0, .ref (E.2.2.1 t)), (1, .ref (E.2.2.1 x1)), (2, .int x2), (3, .int x3)] [] σ := by
    refine g_iinc (v := x3 + 1) (lv' := [(3, .int (x3 + 1)), (0, .ref (E.2.2.1 t)), (1, .ref (E.2.2.1 x1)), (2, .int x2)]) hC dX7_narrowBy_23 3 rfl rfl (by decide) rfl ?_
    refine g_goto (tgt := 2) hC dX7_narrowBy_26 (by decide) ?_
    exact g_sub [1, 2, 3, 0] rfl (h2 (x3 + 1) σ h)
set_option maxHeartbeats 4000000 in
set_option maxRecDepth 100000 in
theorem k_X7_narrowBy_2 {E : ET} {F : FT} {fo : Option HS} (hC : Cx E F 4 cX7_narrowBy RX7 GT) (hO : Ro F rm_X7_narrowBy) (hR : RV E F fo) (hf : fo ≠ none) (t : Nat) (ht1 : kd t = 7) (ht2 : AL E t) (x1 : Nat) (hx1a : kd x1 = 18) (hx1b : AL E x1) (x2 : Int32) : ∀ (n : Nat) (x3 : Int32) (σ : HS), f_X7_narrowBy_2 t x1 x2 n x3 σ = fo → G E F 2 [(0, .ref (E.2.2.1 t)), (1, .ref (E.2.2.1 x1)), (2, .int x2), (3, .int x3)] [] σ := by
  intro n
  induction n with
  | zero =>
    intro x3 σ h
    exact absurd (h.symm.trans rfl) hf
  | succ n ih =>
    intro x3 σ h
    refine g_iload_n hC dX7_narrowBy_2 rfl 3 rfl ?_
    refine g_aload_n hC dX7_narrowBy_3 rfl 1 rfl ?_
    refine g_alen (v := Int32.ofNat (ln x1)) hC hx1a (by decide) hx1b rfl dX7_narrowBy_4 ?_
    refine g_icmp_ge (tgt := 29) hC dX7_narrowBy_5 (by decide) h (fun c5 h => ?_) (fun c5 h => ?_)
    · exact g_vret hC hR dX7_narrowBy_29 h
    · refine g_iload_n hC dX7_narrowBy_8 rfl 2 rfl ?_
      refine g_iconst (v := 1) hC dX7_narrowBy_9 (by decide) ?_
      refine g_iload_n hC dX7_narrowBy_10 rfl 3 rfl ?_
      refine g_ishl hC dX7_narrowBy_11 ?_
      refine g_iand hC dX7_narrowBy_12 ?_
      refine g_if_eq (tgt := 23) hC dX7_narrowBy_13 (by decide) h (fun c13 h => ?_) (fun c13 h => ?_)
      · exact g_sub [0, 1, 2, 3] rfl (k_X7_narrowBy_23 hC hO hR hf t ht1 ht2 x1 hx1a hx1b x2 x3 (f_X7_narrowBy_2 t x1 x2 n) ih σ h)
      · refine g_aload_n hC dX7_narrowBy_16 rfl 0 rfl ?_
        refine g_aload_n hC dX7_narrowBy_17 rfl 1 rfl ?_
        refine g_iload_n hC dX7_narrowBy_18 rfl 3 rfl ?_
        refine g_aaldI (cj := 14) hC hx1a hx1b dX7_narrowBy_19 h hf (fun a1 ea1 ka1 na1 h => ?_)
        obtain ⟨q2, hq2, h⟩ := bd_of h hf
        refine g_cVV (As := [.ref (E.2.2.1 a1)]) hC hO (c_X7_narrow _ hC.2.2.2.2.2.2.1 t ht1 ht2 a1 ka1 na1 σ (nn_of hq2)) gc_X7_30 (xk_X7_narrow _ (Nat.le_of_ble_eq_true rfl) (Nat.le_of_ble_eq_true rfl)) cr7 ht1 ht2 rfl (Nat.le_of_ble_eq_true rfl) dX7_narrowBy_20 hq2 ?_
        exact g_sub [0, 1, 2, 3] rfl (k_X7_narrowBy_23 hC hO hR hf t ht1 ht2 x1 hx1a hx1b x2 x3 (f_X7_narrowBy_2 t x1 x2 n) ih q2 h)
set_option maxHeartbeats 4000000 in
set_option maxRecDepth 100000 in
theorem k_X7_narrowBy_0 {E : ET} {F : FT} {fo : Option HS} (hC : Cx E F 4 cX7_narrowBy RX7 GT) (hO : Ro F rm_X7_narrowBy) (hR : RV E F fo) (hf : fo ≠ none) (t : Nat) (ht1 : kd t = 7) (ht2 : AL E t) (x1 : Nat) (hx1a : kd x1 = 18) (hx1b : AL E x1) (x2 : Int32) (σ : HS) (h : f_X7_narrowBy t x1 x2 σ = fo) : G E F 0 [(0, .ref (E.2.2.1 t)), (1, .ref (E.2.2.1 x1)), (2, .int x2)] [] σ := by
    refine g_iconst (v := 0) hC dX7_narrowBy_0 (by decide) ?_
    refine g_istore_n (lv' := [(3, .int 0), (0, .ref (E.2.2.1 t)), (1, .ref (E.2.2.1 x1)), (2, .int x2)]) hC dX7_narrowBy_1 rfl (by decide) rfl ?_
    exact g_sub [1, 2, 3, 0] rfl (k_X7_narrowBy_2 hC hO hR hf t ht1 ht2 x1 hx1a hx1b x2 FU 0 σ h)
theorem xk_X7_narrowBy (R : Room) (h1 : 2 + 1 ≤ R.frames) (h2 : 104 ≤ R.locals) : xw R yX7_narrowBy w_X7_narrowBy GT cX7_narrowBy 4 none rm_X7_narrowBy 2 := ⟨rfl, rfl, rfl, h1, h2, ⟨by decide, by decide⟩, by decide +kernel⟩
theorem c_X7_narrowBy (E : ET) (hE : EO E) (t : Nat) (ht1 : kd t = 7) (ht2 : AL E t) (x1 : Nat) (hx1a : kd x1 = 18) (hx1b : AL E x1) (x2 : Int32) (σ : HS) (hn : f_X7_narrowBy t x1 x2 σ ≠ none) : CoV E yX7_narrowBy w_X7_narrowBy rm_X7_narrowBy [.ref (E.2.2.1 t), .ref (E.2.2.1 x1), .int x2] σ (f_X7_narrowBy t x1 x2 σ) := CoV.of (lv := [(0, .ref (E.2.2.1 t)), (1, .ref (E.2.2.1 x1)), (2, .int x2)]) hE (plainFor_of_name (by decide)) rfl (Nat.le_of_ble_eq_true rfl) rfl (fun F hC hO hR => k_X7_narrowBy_0 hC hO hR hn t ht1 ht2 x1 hx1a hx1b x2 σ rfl)
def rm_X7_width : Room := { frames := 1, cells := 0, slots := 0, locals := 33 }
set_option maxHeartbeats 4000000 in
set_option maxRecDepth 100000 in
theorem k_X7_width_0 {E : ET} {F : FT} {fo : Option (Int32 × HS)} (hC : Cx E F 1 cX7_width RX7 GT) (hO : Ro F rm_X7_width) (hR : RI E F .int fo) (hf : fo ≠ none) (t : Nat) (ht1 : kd t = 7) (ht2 : AL E t) (σ : HS) (h : f_X7_width t σ = fo) : G E F 0 [(0, .ref (E.2.2.1 t))] [] σ := by
    refine g_iconst (v := 0) hC dX7_width_0 (by decide) ?_
    refine g_aload_n hC dX7_width_1 rfl 0 rfl ?_
    refine g_getI (k := 5) hC cr7 ui_7 ht1 ht2 (by decide) fl_X7_27 rfl rfl dX7_width_2 ?_
    refine g_aload_n hC dX7_width_5 rfl 0 rfl ?_
    refine g_getI (k := 4) hC cr7 ui_7 ht1 ht2 (by decide) fl_X7_24 rfl rfl dX7_width_6 ?_
    refine g_isub hC dX7_width_9 ?_
    refine g_iconst (v := 1) hC dX7_width_10 (by decide) ?_
    refine g_iadd hC dX7_width_11 ?_
    obtain ⟨q1, hq1, h⟩ := bd_of h hf
    refine g_cSI (As := [.int 0, .int (((σ.1 t 5) - (σ.1 t 4)) + 1)]) hC hO (c_J9_max_7cf53 _ hC.2.2.2.2.2.2.1 0 (((σ.1 t 5) - (σ.1 t 4)) + 1) σ (nn_of hq1)) gc_X7_40 (xk_J9_max_7cf53 _ (Nat.le_of_ble_eq_true rfl) (Nat.le_of_ble_eq_true rfl)) rfl (Nat.le_of_ble_eq_true rfl) dX7_width_12 hq1 ?_
    exact g_iret hC hR dX7_width_15 rfl h
theorem xk_X7_width (R : Room) (h1 : 1 + 1 ≤ R.frames) (h2 : 65 ≤ R.locals) : xw R yX7_width w_X7_width GT cX7_width 1 (some .int) rm_X7_width 0 := ⟨rfl, rfl, rfl, h1, h2, ⟨by decide, by decide⟩, by decide +kernel⟩
theorem c_X7_width (E : ET) (hE : EO E) (t : Nat) (ht1 : kd t = 7) (ht2 : AL E t) (σ : HS) (hn : f_X7_width t σ ≠ none) : CoI E yX7_width w_X7_width rm_X7_width [.ref (E.2.2.1 t)] σ (f_X7_width t σ) := CoI.of (lv := [(0, .ref (E.2.2.1 t))]) hE (plainFor_of_name (by decide)) rfl (Nat.le_of_ble_eq_true rfl) rfl (fun F hC hO hR => k_X7_width_0 hC hO hR hn t ht1 ht2 σ rfl)
def rm_X8_put : Room := { frames := 0, cells := 0, slots := 0, locals := 0 }
set_option maxHeartbeats 4000000 in
set_option maxRecDepth 100000 in
theorem k_X8_put_82 {E : ET} {F : FT} {fo : Option HS} (hC : Cx E F 6 cX8_put RX8 GT) (hO : Ro F rm_X8_put) (hR : RV E F fo) (hf : fo ≠ none) (t : Nat) (ht1 : kd t = 8) (ht2 : AL E t) (x1 : Int64) (x3 : Int32) (r3 : Int32 → HS → Option HS) (h3 : ∀ (x3 : Int32) (σ : HS), r3 x3 σ = fo → G E F 3 [(0, .ref (E.2.2.1 t)), (1, .long x1), (3, .int x3)] [] σ) (σ : HS) (h : f_X8_put_82 r3 t x1 x3 σ = fo) : G E F 82 [(0, .ref (E.2.2.1 t)), (1, .long x1), (3, .int x3)] [] σ := by
    refine g_iinc (v := x3 + (-8)) (lv' := [(3, .int (x3 + (-8))), (0, .ref (E.2.2.1 t)), (1, .long x1)]) hC dX8_put_82 2 rfl rfl (by decide) rfl ?_
    refine g_goto (tgt := 3) hC dX8_put_85 (by decide) ?_
    exact g_sub [1, 2, 0] rfl (h3 (x3 + (-8)) σ h)
set_option maxHeartbeats 4000000 in
set_option maxRecDepth 100000 in
theorem k_X8_put_43 {E : ET} {F : FT} {fo : Option HS} (hC : Cx E F 6 cX8_put RX8 GT) (hO : Ro F rm_X8_put) (hR : RV E F fo) (hf : fo ≠ none) (t : Nat) (ht1 : kd t = 8) (ht2 : AL E t) (x1 : Int64) (x3 : Int32) (x4 : Int32) (s0 : Int32) (r3 : Int32 → HS → Option HS) (h3 : ∀ (x3 : Int32) (σ : HS), r3 x3 σ = fo → G E F 3 [(0, .ref (E.2.2.1 t)), (1, .long x1), (3, .int x3)] [] σ) (σ : HS) (h : f_X8_put_43 r3 t x1 x3 x4 s0 σ = fo) : G E F 43 [(0, .ref (E.2.2.1 t)), (1, .long x1), (3, .int x3), (4, .int x4)] [.int s0] σ := by
    refine g_istore (lv' := [(5, .int s0), (0, .ref (E.2.2.1 t)), (1, .long x1), (3, .int x3), (4, .int x4)]) hC dX8_put_43 (by decide) rfl ?_
    refine g_iload hC dX8_put_45 0 rfl ?_
    refine g_if_eq (tgt := 82) hC dX8_put_47 (by decide) h (fun c47 h => ?_) (fun c47 h => ?_)
    · exact g_sub [1, 2, 3] rfl (k_X8_put_82 hC hO hR hf t ht1 ht2 x1 x3 r3 h3 σ h)
    · refine g_aload_n hC dX8_put_50 rfl 1 rfl ?_
      refine g_getI (k := 1) hC cr8 ui_8 ht1 ht2 (by decide) fl_X8_15 rfl rfl dX8_put_51 ?_
      refine g_sipush (v := 1000) hC dX8_put_54 (by decide) ?_
      refine g_icmp_ge (tgt := 82) hC dX8_put_57 (by decide) h (fun c57 h => ?_) (fun c57 h => ?_)
      · exact g_sub [1, 2, 3] rfl (k_X8_put_82 hC hO hR hf t ht1 ht2 x1 x3 r3 h3 σ h)
      · refine g_aload_n hC dX8_put_60 rfl 1 rfl ?_
        refine g_getR (cj := 13) (k := 0) hC cr8 ui_8 ht1 ht2 (by decide) fl_X8_9 rfl rfl dX8_put_61 h hf (fun a1 ea1 ka1 na1 h => ?_)
        refine g_aload_n hC dX8_put_64 rfl 1 rfl ?_
        refine g_getI (k := 1) hC cr8 ui_8 ht1 ht2 (by decide) fl_X8_15 rfl rfl dX8_put_65 ?_
        refine g_iload hC dX8_put_68 4 rfl ?_
        refine g_i2b hC dX8_put_70 ?_
        refine g_bast hC ka1 na1 dX8_put_71 h hf (fun h => ?_)
        refine g_aload_n hC dX8_put_72 rfl 1 rfl ?_
        refine g_dup hC dX8_put_73 rfl ?_
        refine g_getI (k := 1) hC cr8 ui_8 ht1 ht2 (by decide) fl_X8_15 rfl rfl dX8_put_74 ?_
        refine g_iconst (v := 1) hC dX8_put_77 (by decide) ?_
        refine g_iadd hC dX8_put_78 ?_
        refine g_putI (k := 1) hC cr8 ui_8 tyX8_ok nmX8 ht1 ht2 (by decide) fl_X8_15 rfl rfl rfl rfl dX8_put_79 ?_
        exact g_sub [1, 2, 3] rfl (k_X8_put_82 hC hO hR hf t ht1 ht2 x1 x3 r3 h3 (sI (sI σ a1 (σ.1 t 1).toNatClampNeg (vp_nar .byte x4.toInt8.toInt32)) t 1 (((sI σ a1 (σ.1 t 1).toNatClampNeg (vp_nar .byte x4.toInt8.toInt32)).1 t 1) + 1)) h)
set_option maxHeartbeats 4000000 in
set_option maxRecDepth 100000 in
theorem k_X8_put_38 {E : ET} {F : FT} {fo : Option HS} (hC : Cx E F 6 cX8_put RX8 GT) (hO : Ro F rm_X8_put) (hR : RV E F fo) (hf : fo ≠ none) (t : Nat) (ht1 : kd t = 8) (ht2 : AL E t) (x1 : Int64) (x3 : Int32) (x4 : Int32) (r3 : Int32 → HS → Option HS) (h3 : ∀ (x3 : Int32) (σ : HS), r3 x3 σ = fo → G E F 3 [(0, .ref (E.2.2.1 t)), (1, .long x1), (3, .int x3)] [] σ) (σ : HS) (h : f_X8_put_38 r3 t x1 x3 x4 σ = fo) : G E F 38 [(0, .ref (E.2.2.1 t)), (1, .long x1), (3, .int x3), (4, .int x4)] [] σ := by
    refine g_iconst (v := 1) hC dX8_put_38 (by decide) ?_
    refine g_goto (tgt := 43) hC dX8_put_39 (by decide) ?_
    exact g_sub [0, 1, 2, 3] rfl (k_X8_put_43 hC hO hR hf t ht1 ht2 x1 x3 x4 1 r3 h3 σ h)
set_option maxHeartbeats 4000000 in
set_option maxRecDepth 100000 in
theorem k_X8_put_42 {E : ET} {F : FT} {fo : Option HS} (hC : Cx E F 6 cX8_put RX8 GT) (hO : Ro F rm_X8_put) (hR : RV E F fo) (hf : fo ≠ none) (t : Nat) (ht1 : kd t = 8) (ht2 : AL E t) (x1 : Int64) (x3 : Int32) (x4 : Int32) (r3 : Int32 → HS → Option HS) (h3 : ∀ (x3 : Int32) (σ : HS), r3 x3 σ = fo → G E F 3 [(0, .ref (E.2.2.1 t)), (1, .long x1), (3, .int x3)] [] σ) (σ : HS) (h : f_X8_put_42 r3 t x1 x3 x4 σ = fo) : G E F 42 [(0, .ref (E.2.2.1 t)), (1, .long x1), (3, .int x3), (4, .int x4)] [] σ := by
    refine g_iconst (v := 0) hC dX8_put_42 (by decide) ?_
    exact g_sub [0, 1, 2, 3] rfl (k_X8_put_43 hC hO hR hf t ht1 ht2 x1 x3 x4 0 r3 h3 σ h)
set_option maxHeartbeats 4000000 in
set_option maxRecDepth 100000 in
theorem k_X8_put_3 {E : ET} {F : FT} {fo : Option HS} (hC : Cx E F 6 cX8_put RX8 GT) (hO : Ro F rm_X8_put) (hR : RV E F fo) (hf : fo ≠ none) (t : Nat) (ht1 : kd t = 8) (ht2 : AL E t) (x1 : Int64) : ∀ (n : Nat) (x3 : Int32) (σ : HS), f_X8_put_3 t x1 n x3 σ = fo → G E F 3 [(0, .ref (E.2.2.1 t)), (1, .long x1), (3, .int x3)] [] σ := by
  intro n
  induction n with
  | zero =>
    intro x3 σ h
    exact absurd (h.symm.trans rfl) hf
  | succ n ih =>
    intro x3 σ h
    refine g_iload_n hC dX8_put_3 rfl 2 rfl ?_
    refine g_if_lt (tgt := 88) hC dX8_put_4 (by decide) h (fun c4 h => ?_) (fun c4 h => ?_)
    · exact g_vret hC hR dX8_put_88 h
    · refine g_lload_n hC dX8_put_7 rfl 1 rfl ?_
      refine g_iload_n hC dX8_put_8 rfl 2 rfl ?_
      refine g_lushr hC dX8_put_9 ?_
      refine g_l2i hC dX8_put_10 ?_
      refine g_sipush (v := 255) hC dX8_put_11 (by decide) ?_
      refine g_iand hC dX8_put_14 ?_
      refine g_istore (lv' := [(4, .int ((((x1.toUInt64 >>> (x3.toInt64.toUInt64 &&& Int64.toUInt64 63)).toInt64).toInt32) &&& 255)), (0, .ref (E.2.2.1 t)), (1, .long x1), (3, .int x3)]) hC dX8_put_15 (by decide) rfl ?_
      refine g_iload hC dX8_put_17 0 rfl ?_
      refine g_bipush (v := 10) hC dX8_put_19 (by decide) ?_
      refine g_icmp_eq (tgt := 38) hC dX8_put_21 (by decide) h (fun c21 h => ?_) (fun c21 h => ?_)
      · exact g_sub [1, 2, 3, 0] rfl (k_X8_put_38 hC hO hR hf t ht1 ht2 x1 x3 ((((x1.toUInt64 >>> (x3.toInt64.toUInt64 &&& Int64.toUInt64 63)).toInt64).toInt32) &&& 255) (f_X8_put_3 t x1 n) ih σ h)
      · refine g_iload hC dX8_put_24 0 rfl ?_
        refine g_bipush (v := 32) hC dX8_put_26 (by decide) ?_
        refine g_icmp_lt (tgt := 42) hC dX8_put_28 (by decide) h (fun c28 h => ?_) (fun c28 h => ?_)
        · exact g_sub [1, 2, 3, 0] rfl (k_X8_put_42 hC hO hR hf t ht1 ht2 x1 x3 ((((x1.toUInt64 >>> (x3.toInt64.toUInt64 &&& Int64.toUInt64 63)).toInt64).toInt32) &&& 255) (f_X8_put_3 t x1 n) ih σ h)
        · refine g_iload hC dX8_put_31 0 rfl ?_
          refine g_bipush (v := 126) hC dX8_put_33 (by decide) ?_
          refine g_icmp_gt (tgt := 42) hC dX8_put_35 (by decide) h (fun c35 h => ?_) (fun c35 h => ?_)
          · exact g_sub [1, 2, 3, 0] rfl (k_X8_put_42 hC hO hR hf t ht1 ht2 x1 x3 ((((x1.toUInt64 >>> (x3.toInt64.toUInt64 &&& Int64.toUInt64 63)).toInt64).toInt32) &&& 255) (f_X8_put_3 t x1 n) ih σ h)
          · exact g_sub [1, 2, 3, 0] rfl (k_X8_put_38 hC hO hR hf t ht1 ht2 x1 x3 ((((x1.toUInt64 >>> (x3.toInt64.toUInt64 &&& Int64.toUInt64 63)).toInt64).toInt32) &&& 255) (f_X8_put_3 t x1 n) ih σ h)
set_option maxHeartbeats 4000000 in
set_option maxRecDepth 100000 in
theorem k_X8_put_0 {E : ET} {F : FT} {fo : Option HS} (hC : Cx E F 6 cX8_put RX8 GT) (hO : Ro F rm_X8_put) (hR : RV E F fo) (hf : fo ≠ none) (t : Nat) (ht1 : kd t = 8) (ht2 : AL E t) (x1 : Int64) (σ : HS) (h : f_X8_put t x1 σ = fo) : G E F 0 [(0, .ref (E.2.2.1 t)), (1, .long x1)] [] σ := by
    refine g_bipush (v := 56) hC dX8_put_0 (by decide) ?_
    refine g_istore_n (lv' := [(3, .int 56), (0, .ref (E.2.2.1 t)), (1, .long x1)]) hC dX8_put_2 rfl (by decide) rfl ?_
    exact g_sub [1, 2, 0] rfl (k_X8_put_3 hC hO hR hf t ht1 ht2 x1 FU 56 σ h)
theorem xk_X8_put (R : Room) (h1 : 0 + 1 ≤ R.frames) (h2 : 37 ≤ R.locals) : xw R yX8_put w_X8_put GT cX8_put 6 none rm_X8_put 1 := ⟨rfl, rfl, rfl, h1, h2, ⟨by decide, by decide⟩, by decide +kernel⟩
theorem c_X8_put (E : ET) (hE : EO E) (t : Nat) (ht1 : kd t = 8) (ht2 : AL E t) (x1 : Int64) (σ : HS) (hn : f_X8_put t x1 σ ≠ none) : CoV E yX8_put w_X8_put rm_X8_put [.ref (E.2.2.1 t), .long x1] σ (f_X8_put t x1 σ) := CoV.of (lv := [(0, .ref (E.2.2.1 t)), (1, .long x1)]) hE (plainFor_of_name (by decide)) rfl (Nat.le_of_ble_eq_true rfl) rfl (fun F hC hO hR => k_X8_put_0 hC hO hR hn t ht1 ht2 x1 σ rfl)
def rm_X9_tell : Room := { frames := 0, cells := 0, slots := 0, locals := 0 }
theorem fl_X9_11 : Cond.fieldLink RX9 11 "EveryMeasure$Things" (TX9 0).2.1 (TX9 0).2.2.1 ∈ GT := gtr_4 _ (List.mem_of_getElem? (i := 8) rfl)
set_option maxHeartbeats 4000000 in
set_option maxRecDepth 100000 in
theorem k_X9_tell_2 {E : ET} {F : FT} {fo : Option HS} (hC : Cx E F 4 cX9_tell RX9 GT) (hO : Ro F rm_X9_tell) (hR : RV E F fo) (hf : fo ≠ none) (t : Nat) (ht1 : kd t = 9) (ht2 : AL E t) (x1 : Int32) (x2 : Nat) (hx2a : kd x2 = 14) (hx2b : AL E x2) : ∀ (n : Nat) (x3 : Int32) (σ : HS), f_X9_tell_2 t x1 x2 n x3 σ = fo → G E F 2 [(0, .ref (E.2.2.1 t)), (1, .int x1), (2, .ref (E.2.2.1 x2)), (3, .int x3)] [] σ := by
  intro n
  induction n with
  | zero =>
    intro x3 σ h
    exact absurd (h.symm.trans rfl) hf
  | succ n ih =>
    intro x3 σ h
    refine g_iload_n hC dX9_tell_2 rfl 3 rfl ?_
    refine g_iconst (v := 4) hC dX9_tell_3 (by decide) ?_
    refine g_icmp_ge (tgt := 24) hC dX9_tell_4 (by decide) h (fun c4 h => ?_) (fun c4 h => ?_)
    · refine g_aload_n hC dX9_tell_24 rfl 0 rfl ?_
      refine g_dup hC dX9_tell_25 rfl ?_
      refine g_getI (k := 3) hC cr9 ui_9 ht1 ht2 (by decide) fl_X9_23 rfl rfl dX9_tell_26 ?_
      refine g_iconst (v := 1) hC dX9_tell_29 (by decide) ?_
      refine g_iload_n hC dX9_tell_30 rfl 1 rfl ?_
      refine g_ishl hC dX9_tell_31 ?_
      refine g_ior hC dX9_tell_32 ?_
      refine g_putI (k := 3) hC cr9 ui_9 tyX9_ok nmX9 ht1 ht2 (by decide) fl_X9_23 rfl rfl rfl rfl dX9_tell_33 ?_
      exact g_vret hC hR dX9_tell_36 h
    · refine g_aload_n hC dX9_tell_7 rfl 0 rfl ?_
      refine g_getR (cj := 18) (k := 0) hC cr9 ui_9 ht1 ht2 (by decide) fl_X9_11 rfl rfl dX9_tell_8 h hf (fun a1 ea1 ka1 na1 h => ?_)
      refine g_iload_n hC dX9_tell_11 rfl 1 rfl ?_
      refine g_aaldI (cj := 14) hC ka1 na1 dX9_tell_12 h hf (fun a2 ea2 ka2 na2 h => ?_)
      refine g_iload_n hC dX9_tell_13 rfl 3 rfl ?_
      refine g_aload_n hC dX9_tell_14 rfl 2 rfl ?_
      refine g_iload_n hC dX9_tell_15 rfl 3 rfl ?_
      refine g_iald hC hx2a hx2b dX9_tell_16 h hf (fun h => ?_)
      refine g_iast hC ka2 na2 dX9_tell_17 h hf (fun h => ?_)
      refine g_iinc (v := x3 + 1) (lv' := [(3, .int (x3 + 1)), (0, .ref (E.2.2.1 t)), (1, .int x1), (2, .ref (E.2.2.1 x2))]) hC dX9_tell_18 3 rfl rfl (by decide) rfl ?_
      refine g_goto (tgt := 2) hC dX9_tell_21 (by decide) ?_
      exact g_sub [1, 2, 3, 0] rfl (ih (x3 + 1) (sI σ a2 x3.toNatClampNeg (σ.1 x2 x3.toNatClampNeg)) h)
set_option maxHeartbeats 4000000 in
set_option maxRecDepth 100000 in
theorem k_X9_tell_0 {E : ET} {F : FT} {fo : Option HS} (hC : Cx E F 4 cX9_tell RX9 GT) (hO : Ro F rm_X9_tell) (hR : RV E F fo) (hf : fo ≠ none) (t : Nat) (ht1 : kd t = 9) (ht2 : AL E t) (x1 : Int32) (x2 : Nat) (hx2a : kd x2 = 14) (hx2b : AL E x2) (σ : HS) (h : f_X9_tell t x1 x2 σ = fo) : G E F 0 [(0, .ref (E.2.2.1 t)), (1, .int x1), (2, .ref (E.2.2.1 x2))] [] σ := by
    refine g_iconst (v := 0) hC dX9_tell_0 (by decide) ?_
    refine g_istore_n (lv' := [(3, .int 0), (0, .ref (E.2.2.1 t)), (1, .int x1), (2, .ref (E.2.2.1 x2))]) hC dX9_tell_1 rfl (by decide) rfl ?_
    exact g_sub [1, 2, 3, 0] rfl (k_X9_tell_2 hC hO hR hf t ht1 ht2 x1 x2 hx2a hx2b FU 0 σ h)
theorem xk_X9_tell (R : Room) (h1 : 0 + 1 ≤ R.frames) (h2 : 35 ≤ R.locals) : xw R yX9_tell w_X9_tell GT cX9_tell 4 none rm_X9_tell 2 := ⟨rfl, rfl, rfl, h1, h2, ⟨by decide, by decide⟩, by decide +kernel⟩
theorem c_X9_tell (E : ET) (hE : EO E) (t : Nat) (ht1 : kd t = 9) (ht2 : AL E t) (x1 : Int32) (x2 : Nat) (hx2a : kd x2 = 14) (hx2b : AL E x2) (σ : HS) (hn : f_X9_tell t x1 x2 σ ≠ none) : CoV E yX9_tell w_X9_tell rm_X9_tell [.ref (E.2.2.1 t), .int x1, .ref (E.2.2.1 x2)] σ (f_X9_tell t x1 x2 σ) := CoV.of (lv := [(0, .ref (E.2.2.1 t)), (1, .int x1), (2, .ref (E.2.2.1 x2))]) hE (plainFor_of_name (by decide)) rfl (Nat.le_of_ble_eq_true rfl) rfl (fun F hC hO hR => k_X9_tell_0 hC hO hR hn t ht1 ht2 x1 x2 hx2a hx2b σ rfl)
def rm_X9_valueBy : Room := { frames := 1, cells := 0, slots := 0, locals := 33 }
theorem fl_X9_30 : Cond.fieldLink RX9 30 "EveryMeasure$Choice" (TX0 0).2.1 (TX0 0).2.2.1 ∈ GT := gtr_23 _ (List.mem_of_getElem? (i := 5) rfl)
theorem fl_X9_36 : Cond.fieldLink RX9 36 "EveryMeasure$Choice" (TX0 2).2.1 (TX0 2).2.2.1 ∈ GT := gtr_23 _ (List.mem_of_getElem? (i := 6) rfl)
theorem fl_X9_39 : Cond.fieldLink RX9 39 "EveryMeasure$Choice" (TX0 1).2.1 (TX0 1).2.2.1 ∈ GT := gtr_23 _ (List.mem_of_getElem? (i := 7) rfl)
theorem gc_X9_42 : GoodIn GT (va_wsS RX9 42 yJ9_min_7cf53 w_J9_min_7cf53) := gi_S (gtr_23 _ (List.mem_of_getElem? (i := 8) rfl)) (gtr_14 _ (List.mem_of_getElem? (i := 6) rfl)) (gtr_49 _ (List.mem_of_getElem? (i := 7) rfl)) wc_J9_min_7cf53
set_option maxHeartbeats 4000000 in
set_option maxRecDepth 100000 in
theorem k_X9_valueBy_126 {E : ET} {F : FT} {fo : Option HS} (hC : Cx E F 6 cX9_valueBy RX9 GT) (hO : Ro F rm_X9_valueBy) (hR : RV E F fo) (hf : fo ≠ none) (t : Nat) (ht1 : kd t = 9) (ht2 : AL E t) (x1 : Nat) (hx1a : kd x1 = 0) (hx1b : AL E x1) (x2 : Int32) (x3 : Int32) (x4 : Int32) (s0 : Int32) (s1 : Int32) (s2 : Nat) (hs2a : kd s2 = 14) (hs2b : AL E s2) (r10 : Int32 → HS → Option HS) (h10 : ∀ (x3 : Int32) (σ : HS), r10 x3 σ = fo → G E F 10 [(0, .ref (E.2.2.1 t)), (1, .ref (E.2.2.1 x1)), (2, .int x2), (3, .int x3)] [] σ) (r19 : Int32 → HS → Option HS) (h19 : ∀ (x4 : Int32) (σ : HS), r19 x4 σ = fo → G E F 19 [(0, .ref (E.2.2.1 t)), (1, .ref (E.2.2.1 x1)), (2, .int x2), (3, .int x3), (4, .int x4)] [] σ) (σ : HS) (h : f_X9_valueBy_126 r10 r19 t x1 x2 x3 x4 s0 s1 s2 σ = fo) : G E F 126 [(0, .ref (E.2.2.1 t)), (1, .ref (E.2.2.1 x1)), (2, .int x2), (3, .int x3), (4, .int x4)] [.int s0, .int s1, .ref (E.2.2.1 s2)] σ := by
    refine g_iast hC hs2a hs2b dX9_valueBy_126 h hf (fun h => ?_)
    refine g_iinc (v := x4 + 1) (lv' := [(4, .int (x4 + 1)), (0, .ref (E.2.2.1 t)), (1, .ref (E.2.2.1 x1)), (2, .int x2), (3, .int x3)]) hC dX9_valueBy_127 4 rfl rfl (by decide) rfl ?_
    refine g_goto (tgt := 19) hC dX9_valueBy_130 (by decide) ?_
    exact g_sub [1, 2, 3, 4, 0] rfl (h19 (x4 + 1) (sI σ s2 s1.toNatClampNeg s0) h)
set_option maxHeartbeats 4000000 in
set_option maxRecDepth 100000 in
theorem k_X9_valueBy_90 {E : ET} {F : FT} {fo : Option HS} (hC : Cx E F 6 cX9_valueBy RX9 GT) (hO : Ro F rm_X9_valueBy) (hR : RV E F fo) (hf : fo ≠ none) (t : Nat) (ht1 : kd t = 9) (ht2 : AL E t) (x1 : Nat) (hx1a : kd x1 = 0) (hx1b : AL E x1) (x2 : Int32) (x3 : Int32) (x4 : Int32) (x5 : Int32) (r10 : Int32 → HS → Option HS) (h10 : ∀ (x3 : Int32) (σ : HS), r10 x3 σ = fo → G E F 10 [(0, .ref (E.2.2.1 t)), (1, .ref (E.2.2.1 x1)), (2, .int x2), (3, .int x3)] [] σ) (r19 : Int32 → HS → Option HS) (h19 : ∀ (x4 : Int32) (σ : HS), r19 x4 σ = fo → G E F 19 [(0, .ref (E.2.2.1 t)), (1, .ref (E.2.2.1 x1)), (2, .int x2), (3, .int x3), (4, .int x4)] [] σ) (σ : HS) (h : f_X9_valueBy_90 r10 r19 t x1 x2 x3 x4 x5 σ = fo) : G E F 90 [(0, .ref (E.2.2.1 t)), (1, .ref (E.2.2.1 x1)), (2, .int x2), (3, .int x3), (4, .int x4), (5, .int x5)] [] σ := by
    refine g_aload_n hC dX9_valueBy_90 rfl 0 rfl ?_
    refine g_getR (cj := 18) (k := 1) hC cr9 ui_9 ht1 ht2 (by decide) fl_X9_16 rfl rfl dX9_valueBy_91 h hf (fun a1 ea1 ka1 na1 h => ?_)
    refine g_iload_n hC dX9_valueBy_94 rfl 3 rfl ?_
    refine g_aaldI (cj := 14) hC ka1 na1 dX9_valueBy_95 h hf (fun a2 ea2 ka2 na2 h => ?_)
    refine g_iload hC dX9_valueBy_96 4 rfl ?_
    refine g_aload_n hC dX9_valueBy_98 rfl 1 rfl ?_
    refine g_getR (cj := 14) (k := 1) hC cr0 ui_0 hx1a hx1b (by decide) fl_X9_39 rfl rfl dX9_valueBy_99 h hf (fun a3 ea3 ka3 na3 h => ?_)
    refine g_iload hC dX9_valueBy_102 4 rfl ?_
    refine g_iald hC ka3 na3 dX9_valueBy_104 h hf (fun h => ?_)
    refine g_iconst (v := (-1)) hC dX9_valueBy_105 (by decide) ?_
    refine g_icmp_ne (tgt := 114) hC dX9_valueBy_106 (by decide) h (fun c106 h => ?_) (fun c106 h => ?_)
    · refine g_iload hC dX9_valueBy_114 5 rfl ?_
      refine g_aload_n hC dX9_valueBy_116 rfl 1 rfl ?_
      refine g_getR (cj := 14) (k := 1) hC cr0 ui_0 hx1a hx1b (by decide) fl_X9_39 rfl rfl dX9_valueBy_117 h hf (fun a4 ea4 ka4 na4 h => ?_)
      refine g_iload hC dX9_valueBy_120 4 rfl ?_
      refine g_iald hC ka4 na4 dX9_valueBy_122 h hf (fun h => ?_)
      obtain ⟨q5, hq5, h⟩ := bd_of h hf
      refine g_cSI (As := [.int x5, .int (σ.1 a4 x4.toNatClampNeg)]) hC hO (c_J9_min_7cf53 _ hC.2.2.2.2.2.2.1 x5 (σ.1 a4 x4.toNatClampNeg) σ (nn_of hq5)) gc_X9_42 (xk_J9_min_7cf53 _ (Nat.le_of_ble_eq_true rfl) (Nat.le_of_ble_eq_true rfl)) rfl (Nat.le_of_ble_eq_true rfl) dX9_valueBy_123 hq5 ?_
      exact g_sub [0, 1, 2, 3, 4] rfl (k_X9_valueBy_126 hC hO hR hf t ht1 ht2 x1 hx1a hx1b x2 x3 x4 q5.1 x4 a2 ka2 na2 r10 h10 r19 h19 q5.2 h)
    · refine g_iload hC dX9_valueBy_109 5 rfl ?_
      refine g_goto (tgt := 126) hC dX9_valueBy_111 (by decide) ?_
      exact g_sub [0, 1, 2, 3, 4] rfl (k_X9_valueBy_126 hC hO hR hf t ht1 ht2 x1 hx1a hx1b x2 x3 x4 x5 x4 a2 ka2 na2 r10 h10 r19 h19 σ h)
set_option maxHeartbeats 4000000 in
set_option maxRecDepth 100000 in
theorem k_X9_valueBy_64 {E : ET} {F : FT} {fo : Option HS} (hC : Cx E F 6 cX9_valueBy RX9 GT) (hO : Ro F rm_X9_valueBy) (hR : RV E F fo) (hf : fo ≠ none) (t : Nat) (ht1 : kd t = 9) (ht2 : AL E t) (x1 : Nat) (hx1a : kd x1 = 0) (hx1b : AL E x1) (x2 : Int32) (x3 : Int32) (x4 : Int32) (x5 : Int32) (r10 : Int32 → HS → Option HS) (h10 : ∀ (x3 : Int32) (σ : HS), r10 x3 σ = fo → G E F 10 [(0, .ref (E.2.2.1 t)), (1, .ref (E.2.2.1 x1)), (2, .int x2), (3, .int x3)] [] σ) (r19 : Int32 → HS → Option HS) (h19 : ∀ (x4 : Int32) (σ : HS), r19 x4 σ = fo → G E F 19 [(0, .ref (E.2.2.1 t)), (1, .ref (E.2.2.1 x1)), (2, .int x2), (3, .int x3), (4, .int x4)] [] σ) (σ : HS) (h : f_X9_valueBy_64 r10 r19 t x1 x2 x3 x4 x5 σ = fo) : G E F 64 [(0, .ref (E.2.2.1 t)), (1, .ref (E.2.2.1 x1)), (2, .int x2), (3, .int x3), (4, .int x4), (5, .int x5)] [] σ := by
    refine g_iload hC dX9_valueBy_64 5 rfl ?_
    refine g_aload_n hC dX9_valueBy_66 rfl 1 rfl ?_
    refine g_getR (cj := 14) (k := 2) hC cr0 ui_0 hx1a hx1b (by decide) fl_X9_36 rfl rfl dX9_valueBy_67 h hf (fun a1 ea1 ka1 na1 h => ?_)
    refine g_iload hC dX9_valueBy_70 4 rfl ?_
    refine g_iald hC ka1 na1 dX9_valueBy_72 h hf (fun h => ?_)
    refine g_icmp_ge (tgt := 90) hC dX9_valueBy_73 (by decide) h (fun c73 h => ?_) (fun c73 h => ?_)
    · exact g_sub [0, 1, 2, 3, 4, 5] rfl (k_X9_valueBy_90 hC hO hR hf t ht1 ht2 x1 hx1a hx1b x2 x3 x4 x5 r10 h10 r19 h19 σ h)
    · refine g_aload_n hC dX9_valueBy_76 rfl 0 rfl ?_
      refine g_dup hC dX9_valueBy_77 rfl ?_
      refine g_getI (k := 4) hC cr9 ui_9 ht1 ht2 (by decide) fl_X9_27 rfl rfl dX9_valueBy_78 ?_
      refine g_iconst (v := 1) hC dX9_valueBy_81 (by decide) ?_
      refine g_iload_n hC dX9_valueBy_82 rfl 3 rfl ?_
      refine g_ishl hC dX9_valueBy_83 ?_
      refine g_iconst (v := (-1)) hC dX9_valueBy_84 (by decide) ?_
      refine g_ixor hC dX9_valueBy_85 ?_
      refine g_iand hC dX9_valueBy_86 ?_
      refine g_putI (k := 4) hC cr9 ui_9 tyX9_ok nmX9 ht1 ht2 (by decide) fl_X9_27 rfl rfl rfl rfl dX9_valueBy_87 ?_
      exact g_sub [0, 1, 2, 3, 4, 5] rfl (k_X9_valueBy_90 hC hO hR hf t ht1 ht2 x1 hx1a hx1b x2 x3 x4 x5 r10 h10 r19 h19 (sI σ t 4 ((σ.1 t 4) &&& (((1 : Int32) <<< (x3 &&& 31)) ^^^ (-1)))) h)
set_option maxHeartbeats 4000000 in
set_option maxRecDepth 100000 in
theorem k_X9_valueBy_44 {E : ET} {F : FT} {fo : Option HS} (hC : Cx E F 6 cX9_valueBy RX9 GT) (hO : Ro F rm_X9_valueBy) (hR : RV E F fo) (hf : fo ≠ none) (t : Nat) (ht1 : kd t = 9) (ht2 : AL E t) (x1 : Nat) (hx1a : kd x1 = 0) (hx1b : AL E x1) (x2 : Int32) (x3 : Int32) (x4 : Int32) (s0 : Int32) (r10 : Int32 → HS → Option HS) (h10 : ∀ (x3 : Int32) (σ : HS), r10 x3 σ = fo → G E F 10 [(0, .ref (E.2.2.1 t)), (1, .ref (E.2.2.1 x1)), (2, .int x2), (3, .int x3)] [] σ) (r19 : Int32 → HS → Option HS) (h19 : ∀ (x4 : Int32) (σ : HS), r19 x4 σ = fo → G E F 19 [(0, .ref (E.2.2.1 t)), (1, .ref (E.2.2.1 x1)), (2, .int x2), (3, .int x3), (4, .int x4)] [] σ) (σ : HS) (h : f_X9_valueBy_44 r10 r19 t x1 x2 x3 x4 s0 σ = fo) : G E F 44 [(0, .ref (E.2.2.1 t)), (1, .ref (E.2.2.1 x1)), (2, .int x2), (3, .int x3), (4, .int x4)] [.int s0] σ := by
    refine g_istore (lv' := [(5, .int s0), (0, .ref (E.2.2.1 t)), (1, .ref (E.2.2.1 x1)), (2, .int x2), (3, .int x3), (4, .int x4)]) hC dX9_valueBy_44 (by decide) rfl ?_
    refine g_aload_n hC dX9_valueBy_46 rfl 2 rfl ?_
    refine g_getR (cj := 14) (k := 0) hC cr0 ui_0 hx1a hx1b (by decide) fl_X9_30 rfl rfl dX9_valueBy_47 h hf (fun a1 ea1 ka1 na1 h => ?_)
    refine g_iload hC dX9_valueBy_50 5 rfl ?_
    refine g_iald hC ka1 na1 dX9_valueBy_52 h hf (fun h => ?_)
    refine g_iconst (v := (-1)) hC dX9_valueBy_53 (by decide) ?_
    refine g_icmp_eq (tgt := 64) hC dX9_valueBy_54 (by decide) h (fun c54 h => ?_) (fun c54 h => ?_)
    · exact g_sub [1, 2, 3, 4, 5, 0] rfl (k_X9_valueBy_64 hC hO hR hf t ht1 ht2 x1 hx1a hx1b x2 x3 x4 s0 r10 h10 r19 h19 σ h)
    · refine g_bipush (v := 100) hC dX9_valueBy_57 (by decide) ?_
      refine g_iload hC dX9_valueBy_59 0 rfl ?_
      refine g_isub hC dX9_valueBy_61 ?_
      refine g_istore (lv' := [(5, .int ((100 : Int32) - s0)), (0, .ref (E.2.2.1 t)), (1, .ref (E.2.2.1 x1)), (2, .int x2), (3, .int x3), (4, .int x4)]) hC dX9_valueBy_62 (by decide) rfl ?_
      exact g_sub [1, 2, 3, 4, 5, 0] rfl (k_X9_valueBy_64 hC hO hR hf t ht1 ht2 x1 hx1a hx1b x2 x3 x4 ((100 : Int32) - s0) r10 h10 r19 h19 σ h)
set_option maxHeartbeats 4000000 in
set_option maxRecDepth 100000 in
theorem k_X9_valueBy_19 {E : ET} {F : FT} {fo : Option HS} (hC : Cx E F 6 cX9_valueBy RX9 GT) (hO : Ro F rm_X9_valueBy) (hR : RV E F fo) (hf : fo ≠ none) (t : Nat) (ht1 : kd t = 9) (ht2 : AL E t) (x1 : Nat) (hx1a : kd x1 = 0) (hx1b : AL E x1) (x2 : Int32) (x3 : Int32) (r10 : Int32 → HS → Option HS) (h10 : ∀ (x3 : Int32) (σ : HS), r10 x3 σ = fo → G E F 10 [(0, .ref (E.2.2.1 t)), (1, .ref (E.2.2.1 x1)), (2, .int x2), (3, .int x3)] [] σ) : ∀ (n : Nat) (x4 : Int32) (σ : HS), f_X9_valueBy_19 t x1 x2 x3 r10 n x4 σ = fo → G E F 19 [(0, .ref (E.2.2.1 t)), (1, .ref (E.2.2.1 x1)), (2, .int x2), (3, .int x3), (4, .int x4)] [] σ := by
  intro n
  induction n with
  | zero =>
    intro x4 σ h
    exact absurd (h.symm.trans rfl) hf
  | succ n ih =>
    intro x4 σ h
    refine g_iload hC dX9_valueBy_19 4 rfl ?_
    refine g_iconst (v := 4) hC dX9_valueBy_21 (by decide) ?_
    refine g_icmp_ge (tgt := 133) hC dX9_valueBy_22 (by decide) h (fun c22 h => ?_) (fun c22 h => ?_)
    · refine g_iinc (v := x3 + 1) (lv' := [(3, .int (x3 + 1)), (0, .ref (E.2.2.1 t)), (1, .ref (E.2.2.1 x1)), (2, .int x2), (4, .int x4)]) hC dX9_valueBy_133 3 rfl rfl (by decide) rfl ?_
      refine g_goto (tgt := 10) hC dX9_valueBy_136 (by decide) ?_
      exact g_sub [1, 2, 3, 0] rfl (h10 (x3 + 1) σ h)
    · refine g_iload hC dX9_valueBy_25 4 rfl ?_
      refine g_iload_n hC dX9_valueBy_27 rfl 2 rfl ?_
      refine g_icmp_ge (tgt := 43) hC dX9_valueBy_28 (by decide) h (fun c28 h => ?_) (fun c28 h => ?_)
      · refine g_iconst (v := 0) hC dX9_valueBy_43 (by decide) ?_
        exact g_sub [0, 1, 2, 3, 4] rfl (k_X9_valueBy_44 hC hO hR hf t ht1 ht2 x1 hx1a hx1b x2 x3 x4 0 r10 h10 (f_X9_valueBy_19 t x1 x2 x3 r10 n) ih σ h)
      · refine g_aload_n hC dX9_valueBy_31 rfl 0 rfl ?_
        refine g_getR (cj := 18) (k := 0) hC cr9 ui_9 ht1 ht2 (by decide) fl_X9_11 rfl rfl dX9_valueBy_32 h hf (fun a1 ea1 ka1 na1 h => ?_)
        refine g_iload_n hC dX9_valueBy_35 rfl 3 rfl ?_
        refine g_aaldI (cj := 14) hC ka1 na1 dX9_valueBy_36 h hf (fun a2 ea2 ka2 na2 h => ?_)
        refine g_iload hC dX9_valueBy_37 4 rfl ?_
        refine g_iald hC ka2 na2 dX9_valueBy_39 h hf (fun h => ?_)
        refine g_goto (tgt := 44) hC dX9_valueBy_40 (by decide) ?_
        exact g_sub [0, 1, 2, 3, 4] rfl (k_X9_valueBy_44 hC hO hR hf t ht1 ht2 x1 hx1a hx1b x2 x3 x4 (σ.1 a2 x4.toNatClampNeg) r10 h10 (f_X9_valueBy_19 t x1 x2 x3 r10 n) ih σ h)
set_option maxHeartbeats 4000000 in
set_option maxRecDepth 100000 in
theorem k_X9_valueBy_10 {E : ET} {F : FT} {fo : Option HS} (hC : Cx E F 6 cX9_valueBy RX9 GT) (hO : Ro F rm_X9_valueBy) (hR : RV E F fo) (hf : fo ≠ none) (t : Nat) (ht1 : kd t = 9) (ht2 : AL E t) (x1 : Nat) (hx1a : kd x1 = 0) (hx1b : AL E x1) (x2 : Int32) : ∀ (n : Nat) (x3 : Int32) (σ : HS), f_X9_valueBy_10 t x1 x2 n x3 σ = fo → G E F 10 [(0, .ref (E.2.2.1 t)), (1, .ref (E.2.2.1 x1)), (2, .int x2), (3, .int x3)] [] σ := by
  intro n
  induction n with
  | zero =>
    intro x3 σ h
    exact absurd (h.symm.trans rfl) hf
  | succ n ih =>
    intro x3 σ h
    refine g_iload_n hC dX9_valueBy_10 rfl 3 rfl ?_
    refine g_bipush (v := 8) hC dX9_valueBy_11 (by decide) ?_
    refine g_icmp_ge (tgt := 139) hC dX9_valueBy_13 (by decide) h (fun c13 h => ?_) (fun c13 h => ?_)
    · exact g_vret hC hR dX9_valueBy_139 h
    · refine g_iconst (v := 0) hC dX9_valueBy_16 (by decide) ?_
      refine g_istore (lv' := [(4, .int 0), (0, .ref (E.2.2.1 t)), (1, .ref (E.2.2.1 x1)), (2, .int x2), (3, .int x3)]) hC dX9_valueBy_17 (by decide) rfl ?_
      exact g_sub [1, 2, 3, 4, 0] rfl (k_X9_valueBy_19 hC hO hR hf t ht1 ht2 x1 hx1a hx1b x2 x3 (f_X9_valueBy_10 t x1 x2 n) ih FU 0 σ h)
set_option maxHeartbeats 4000000 in
set_option maxRecDepth 100000 in
theorem k_X9_valueBy_0 {E : ET} {F : FT} {fo : Option HS} (hC : Cx E F 6 cX9_valueBy RX9 GT) (hO : Ro F rm_X9_valueBy) (hR : RV E F fo) (hf : fo ≠ none) (t : Nat) (ht1 : kd t = 9) (ht2 : AL E t) (x1 : Nat) (hx1a : kd x1 = 0) (hx1b : AL E x1) (x2 : Int32) (σ : HS) (h : f_X9_valueBy t x1 x2 σ = fo) : G E F 0 [(0, .ref (E.2.2.1 t)), (1, .ref (E.2.2.1 x1)), (2, .int x2)] [] σ := by
    refine g_aload_n hC dX9_valueBy_0 rfl 0 rfl ?_
    refine g_aload_n hC dX9_valueBy_1 rfl 0 rfl ?_
    refine g_getI (k := 3) hC cr9 ui_9 ht1 ht2 (by decide) fl_X9_23 rfl rfl dX9_valueBy_2 ?_
    refine g_putI (k := 4) hC cr9 ui_9 tyX9_ok nmX9 ht1 ht2 (by decide) fl_X9_27 rfl rfl rfl rfl dX9_valueBy_5 ?_
    refine g_iconst (v := 0) hC dX9_valueBy_8 (by decide) ?_
    refine g_istore_n (lv' := [(3, .int 0), (0, .ref (E.2.2.1 t)), (1, .ref (E.2.2.1 x1)), (2, .int x2)]) hC dX9_valueBy_9 rfl (by decide) rfl ?_
    exact g_sub [1, 2, 3, 0] rfl (k_X9_valueBy_10 hC hO hR hf t ht1 ht2 x1 hx1a hx1b x2 FU 0 (sI σ t 4 (σ.1 t 3)) h)
theorem xk_X9_valueBy (R : Room) (h1 : 1 + 1 ≤ R.frames) (h2 : 70 ≤ R.locals) : xw R yX9_valueBy w_X9_valueBy GT cX9_valueBy 6 none rm_X9_valueBy 2 := ⟨rfl, rfl, rfl, h1, h2, ⟨by decide, by decide⟩, by decide +kernel⟩
theorem c_X9_valueBy (E : ET) (hE : EO E) (t : Nat) (ht1 : kd t = 9) (ht2 : AL E t) (x1 : Nat) (hx1a : kd x1 = 0) (hx1b : AL E x1) (x2 : Int32) (σ : HS) (hn : f_X9_valueBy t x1 x2 σ ≠ none) : CoV E yX9_valueBy w_X9_valueBy rm_X9_valueBy [.ref (E.2.2.1 t), .ref (E.2.2.1 x1), .int x2] σ (f_X9_valueBy t x1 x2 σ) := CoV.of (lv := [(0, .ref (E.2.2.1 t)), (1, .ref (E.2.2.1 x1)), (2, .int x2)]) hE (plainFor_of_name (by decide)) rfl (Nat.le_of_ble_eq_true rfl) rfl (fun F hC hO hR => k_X9_valueBy_0 hC hO hR hn t ht1 ht2 x1 hx1a hx1b x2 σ rfl)
def rm_X9_topOf : Room := { frames := 1, cells := 0, slots := 0, locals := 37 }
theorem fl_X9_19 : Cond.fieldLink RX9 19 "EveryMeasure$Things" (TX9 2).2.1 (TX9 2).2.2.1 ∈ GT := gtr_4 _ (List.mem_of_getElem? (i := 10) rfl)
theorem gc_X9_48 : GoodIn GT (va_wsS RX9 48 yX9_greatestOf w_X9_greatestOf) := gi_S (gtr_56 _ (List.mem_of_getElem? (i := 11) rfl)) (gtr_40 _ (List.mem_of_getElem? (i := 20) rfl)) (gtr_2 _ (List.mem_of_getElem? (i := 0) rfl)) wc_X9_greatestOf
set_option maxHeartbeats 4000000 in
set_option maxRecDepth 100000 in
theorem k_X9_topOf_2 {E : ET} {F : FT} {fo : Option (Int32 × HS)} (hC : Cx E F 4 cX9_topOf RX9 GT) (hO : Ro F rm_X9_topOf) (hR : RI E F .int fo) (hf : fo ≠ none) (t : Nat) (ht1 : kd t = 9) (ht2 : AL E t) (x1 : Int32) (x2 : Int32) : ∀ (n : Nat) (x3 : Int32) (σ : HS), f_X9_topOf_2 t x1 x2 n x3 σ = fo → G E F 2 [(0, .ref (E.2.2.1 t)), (1, .int x1), (2, .int x2), (3, .int x3)] [] σ := by
  intro n
  induction n with
  | zero =>
    intro x3 σ h
    exact absurd (h.symm.trans rfl) hf
  | succ n ih =>
    intro x3 σ h
    refine g_iload_n hC dX9_topOf_2 rfl 3 rfl ?_
    refine g_bipush (v := 8) hC dX9_topOf_3 (by decide) ?_
    refine g_icmp_ge (tgt := 29) hC dX9_topOf_5 (by decide) h (fun c5 h => ?_) (fun c5 h => ?_)
    · refine g_iload_n hC dX9_topOf_29 rfl 1 rfl ?_
      refine g_aload_n hC dX9_topOf_30 rfl 0 rfl ?_
      refine g_getR (cj := 15) (k := 2) hC cr9 ui_9 ht1 ht2 (by decide) fl_X9_19 rfl rfl dX9_topOf_31 h hf (fun a1 ea1 ka1 na1 h => ?_)
      obtain ⟨q2, hq2, h⟩ := bd_of h hf
      refine g_cSI (As := [.int x1, .ref (E.2.2.1 a1)]) hC hO (c_X9_greatestOf _ hC.2.2.2.2.2.2.1 x1 a1 ka1 na1 σ (nn_of hq2)) gc_X9_48 (xk_X9_greatestOf _ (Nat.le_of_ble_eq_true rfl) (Nat.le_of_ble_eq_true rfl)) rfl (Nat.le_of_ble_eq_true rfl) dX9_topOf_34 hq2 ?_
      exact g_iret hC hR dX9_topOf_37 rfl h
    · refine g_aload_n hC dX9_topOf_8 rfl 0 rfl ?_
      refine g_getR (cj := 15) (k := 2) hC cr9 ui_9 ht1 ht2 (by decide) fl_X9_19 rfl rfl dX9_topOf_9 h hf (fun a3 ea3 ka3 na3 h => ?_)
      refine g_iload_n hC dX9_topOf_12 rfl 3 rfl ?_
      refine g_aload_n hC dX9_topOf_13 rfl 0 rfl ?_
      refine g_getR (cj := 18) (k := 1) hC cr9 ui_9 ht1 ht2 (by decide) fl_X9_16 rfl rfl dX9_topOf_14 h hf (fun a4 ea4 ka4 na4 h => ?_)
      refine g_iload_n hC dX9_topOf_17 rfl 3 rfl ?_
      refine g_aaldI (cj := 14) hC ka4 na4 dX9_topOf_18 h hf (fun a5 ea5 ka5 na5 h => ?_)
      refine g_iload_n hC dX9_topOf_19 rfl 2 rfl ?_
      refine g_iald hC ka5 na5 dX9_topOf_20 h hf (fun h => ?_)
      refine g_i2l hC dX9_topOf_21 ?_
      refine g_last hC ka3 na3 dX9_topOf_22 h hf (fun h => ?_)
      refine g_iinc (v := x3 + 1) (lv' := [(3, .int (x3 + 1)), (0, .ref (E.2.2.1 t)), (1, .int x1), (2, .int x2)]) hC dX9_topOf_23 3 rfl rfl (by decide) rfl ?_
      refine g_goto (tgt := 2) hC dX9_topOf_26 (by decide) ?_
      exact g_sub [1, 2, 3, 0] rfl (ih (x3 + 1) (sJ σ a3 x3.toNatClampNeg ((σ.1 a5 x2.toNatClampNeg).toInt64)) h)
set_option maxHeartbeats 4000000 in
set_option maxRecDepth 100000 in
theorem k_X9_topOf_0 {E : ET} {F : FT} {fo : Option (Int32 × HS)} (hC : Cx E F 4 cX9_topOf RX9 GT) (hO : Ro F rm_X9_topOf) (hR : RI E F .int fo) (hf : fo ≠ none) (t : Nat) (ht1 : kd t = 9) (ht2 : AL E t) (x1 : Int32) (x2 : Int32) (σ : HS) (h : f_X9_topOf t x1 x2 σ = fo) : G E F 0 [(0, .ref (E.2.2.1 t)), (1, .int x1), (2, .int x2)] [] σ := by
    refine g_iconst (v := 0) hC dX9_topOf_0 (by decide) ?_
    refine g_istore_n (lv' := [(3, .int 0), (0, .ref (E.2.2.1 t)), (1, .int x1), (2, .int x2)]) hC dX9_topOf_1 rfl (by decide) rfl ?_
    exact g_sub [1, 2, 3, 0] rfl (k_X9_topOf_2 hC hO hR hf t ht1 ht2 x1 x2 FU 0 σ h)
theorem xk_X9_topOf (R : Room) (h1 : 1 + 1 ≤ R.frames) (h2 : 72 ≤ R.locals) : xw R yX9_topOf w_X9_topOf GT cX9_topOf 4 (some .int) rm_X9_topOf 2 := ⟨rfl, rfl, rfl, h1, h2, ⟨by decide, by decide⟩, by decide +kernel⟩
theorem c_X9_topOf (E : ET) (hE : EO E) (t : Nat) (ht1 : kd t = 9) (ht2 : AL E t) (x1 : Int32) (x2 : Int32) (σ : HS) (hn : f_X9_topOf t x1 x2 σ ≠ none) : CoI E yX9_topOf w_X9_topOf rm_X9_topOf [.ref (E.2.2.1 t), .int x1, .int x2] σ (f_X9_topOf t x1 x2 σ) := CoI.of (lv := [(0, .ref (E.2.2.1 t)), (1, .int x1), (2, .int x2)]) hE (plainFor_of_name (by decide)) rfl (Nat.le_of_ble_eq_true rfl) rfl (fun F hC hO hR => k_X9_topOf_0 hC hO hR hn t ht1 ht2 x1 x2 σ rfl)
def rm_X9_leastValue : Room := { frames := 1, cells := 0, slots := 0, locals := 33 }
set_option maxHeartbeats 4000000 in
set_option maxRecDepth 100000 in
theorem k_X9_leastValue_6 {E : ET} {F : FT} {fo : Option (Int32 × HS)} (hC : Cx E F 5 cX9_leastValue RX9 GT) (hO : Ro F rm_X9_leastValue) (hR : RI E F .int fo) (hf : fo ≠ none) (t : Nat) (ht1 : kd t = 9) (ht2 : AL E t) (x1 : Int32) (x2 : Int32) : ∀ (n : Nat) (x3 : Int32) (x4 : Int32) (σ : HS), f_X9_leastValue_6 t x1 x2 n x3 x4 σ = fo → G E F 6 [(0, .ref (E.2.2.1 t)), (1, .int x1), (2, .int x2), (3, .int x3), (4, .int x4)] [] σ := by
  intro n
  induction n with
  | zero =>
    intro x3 x4 σ h
    exact absurd (h.symm.trans rfl) hf
  | succ n ih =>
    intro x3 x4 σ h
    refine g_iload hC dX9_leastValue_6 4 rfl ?_
    refine g_iload_n hC dX9_leastValue_8 rfl 2 rfl ?_
    refine g_icmp_ge (tgt := 32) hC dX9_leastValue_9 (by decide) h (fun c9 h => ?_) (fun c9 h => ?_)
    · refine g_iload_n hC dX9_leastValue_32 rfl 3 rfl ?_
      exact g_iret hC hR dX9_leastValue_33 rfl h
    · refine g_iload_n hC dX9_leastValue_12 rfl 3 rfl ?_
      refine g_aload_n hC dX9_leastValue_13 rfl 0 rfl ?_
      refine g_getR (cj := 18) (k := 1) hC cr9 ui_9 ht1 ht2 (by decide) fl_X9_16 rfl rfl dX9_leastValue_14 h hf (fun a1 ea1 ka1 na1 h => ?_)
      refine g_iload_n hC dX9_leastValue_17 rfl 1 rfl ?_
      refine g_aaldI (cj := 14) hC ka1 na1 dX9_leastValue_18 h hf (fun a2 ea2 ka2 na2 h => ?_)
      refine g_iload hC dX9_leastValue_19 4 rfl ?_
      refine g_iald hC ka2 na2 dX9_leastValue_21 h hf (fun h => ?_)
      obtain ⟨q3, hq3, h⟩ := bd_of h hf
      refine g_cSI (As := [.int x3, .int (σ.1 a2 x4.toNatClampNeg)]) hC hO (c_J9_min_7cf53 _ hC.2.2.2.2.2.2.1 x3 (σ.1 a2 x4.toNatClampNeg) σ (nn_of hq3)) gc_X9_42 (xk_J9_min_7cf53 _ (Nat.le_of_ble_eq_true rfl) (Nat.le_of_ble_eq_true rfl)) rfl (Nat.le_of_ble_eq_true rfl) dX9_leastValue_22 hq3 ?_
      refine g_istore_n (lv' := [(3, .int q3.1), (0, .ref (E.2.2.1 t)), (1, .int x1), (2, .int x2), (4, .int x4)]) hC dX9_leastValue_25 rfl (by decide) rfl ?_
      refine g_iinc (v := x4 + 1) (lv' := [(4, .int (x4 + 1)), (3, .int q3.1), (0, .ref (E.2.2.1 t)), (1, .int x1), (2, .int x2)]) hC dX9_leastValue_26 4 rfl rfl (by decide) rfl ?_
      refine g_goto (tgt := 6) hC dX9_leastValue_29 (by decide) ?_
      exact g_sub [2, 3, 4, 1, 0] rfl (ih q3.1 (x4 + 1) q3.2 h)
set_option maxHeartbeats 4000000 in
set_option maxRecDepth 100000 in
theorem k_X9_leastValue_0 {E : ET} {F : FT} {fo : Option (Int32 × HS)} (hC : Cx E F 5 cX9_leastValue RX9 GT) (hO : Ro F rm_X9_leastValue) (hR : RI E F .int fo) (hf : fo ≠ none) (t : Nat) (ht1 : kd t = 9) (ht2 : AL E t) (x1 : Int32) (x2 : Int32) (σ : HS) (h : f_X9_leastValue t x1 x2 σ = fo) : G E F 0 [(0, .ref (E.2.2.1 t)), (1, .int x1), (2, .int x2)] [] σ := by
    refine g_bipush (v := 100) hC dX9_leastValue_0 (by decide) ?_
    refine g_istore_n (lv' := [(3, .int 100), (0, .ref (E.2.2.1 t)), (1, .int x1), (2, .int x2)]) hC dX9_leastValue_2 rfl (by decide) rfl ?_
    refine g_iconst (v := 0) hC dX9_leastValue_3 (by decide) ?_
    refine g_istore (lv' := [(4, .int 0), (3, .int 100), (0, .ref (E.2.2.1 t)), (1, .int x1), (2, .int x2)]) hC dX9_leastValue_4 (by decide) rfl ?_
    exact g_sub [2, 3, 4, 1, 0] rfl (k_X9_leastValue_6 hC hO hR hf t ht1 ht2 x1 x2 FU 100 0 σ h)
theorem xk_X9_leastValue (R : Room) (h1 : 1 + 1 ≤ R.frames) (h2 : 69 ≤ R.locals) : xw R yX9_leastValue w_X9_leastValue GT cX9_leastValue 5 (some .int) rm_X9_leastValue 2 := ⟨rfl, rfl, rfl, h1, h2, ⟨by decide, by decide⟩, by decide +kernel⟩
theorem c_X9_leastValue (E : ET) (hE : EO E) (t : Nat) (ht1 : kd t = 9) (ht2 : AL E t) (x1 : Int32) (x2 : Int32) (σ : HS) (hn : f_X9_leastValue t x1 x2 σ ≠ none) : CoI E yX9_leastValue w_X9_leastValue rm_X9_leastValue [.ref (E.2.2.1 t), .int x1, .int x2] σ (f_X9_leastValue t x1 x2 σ) := CoI.of (lv := [(0, .ref (E.2.2.1 t)), (1, .int x1), (2, .int x2)]) hE (plainFor_of_name (by decide)) rfl (Nat.le_of_ble_eq_true rfl) rfl (fun F hC hO hR => k_X9_leastValue_0 hC hO hR hn t ht1 ht2 x1 x2 σ rfl)
def rm_X9_bestAtWorst : Room := { frames := 2, cells := 0, slots := 0, locals := 69 }
theorem wc_X9_leastValue : Cond.code yX9_leastValue cX9_leastValue 5 (some .int) ∈ GT := gtr_56 _ (List.mem_of_getElem? (i := 10) rfl)
theorem gc_X9_52 : GoodIn GT (wsV RX9 52 RX9 yX9_leastValue w_X9_leastValue) := gi_V (gtr_56 _ (List.mem_of_getElem? (i := 7) rfl)) (gtr_56 _ (List.mem_of_getElem? (i := 8) rfl)) (gtr_56 _ (List.mem_of_getElem? (i := 9) rfl)) (gtr_2 _ (List.mem_of_getElem? (i := 0) rfl)) wc_X9_leastValue
set_option maxHeartbeats 4000000 in
set_option maxRecDepth 100000 in
theorem k_X9_bestAtWorst_2 {E : ET} {F : FT} {fo : Option (Int32 × HS)} (hC : Cx E F 3 cX9_bestAtWorst RX9 GT) (hO : Ro F rm_X9_bestAtWorst) (hR : RI E F .int fo) (hf : fo ≠ none) (t : Nat) (ht1 : kd t = 9) (ht2 : AL E t) (x1 : Int32) : ∀ (n : Nat) (x2 : Int32) (σ : HS), f_X9_bestAtWorst_2 t x1 n x2 σ = fo → G E F 2 [(0, .ref (E.2.2.1 t)), (1, .int x1), (2, .int x2)] [] σ := by
  intro n
  induction n with
  | zero =>
    intro x2 σ h
    exact absurd (h.symm.trans rfl) hf
  | succ n ih =>
    intro x2 σ h
    refine g_iload_n hC dX9_bestAtWorst_2 rfl 2 rfl ?_
    refine g_bipush (v := 8) hC dX9_bestAtWorst_3 (by decide) ?_
    refine g_icmp_ge (tgt := 27) hC dX9_bestAtWorst_5 (by decide) h (fun c5 h => ?_) (fun c5 h => ?_)
    · refine g_aload_n hC dX9_bestAtWorst_27 rfl 0 rfl ?_
      refine g_getI (k := 4) hC cr9 ui_9 ht1 ht2 (by decide) fl_X9_27 rfl rfl dX9_bestAtWorst_28 ?_
      refine g_aload_n hC dX9_bestAtWorst_31 rfl 0 rfl ?_
      refine g_getR (cj := 15) (k := 2) hC cr9 ui_9 ht1 ht2 (by decide) fl_X9_19 rfl rfl dX9_bestAtWorst_32 h hf (fun a1 ea1 ka1 na1 h => ?_)
      obtain ⟨q2, hq2, h⟩ := bd_of h hf
      refine g_cSI (As := [.int (σ.1 t 4), .ref (E.2.2.1 a1)]) hC hO (c_X9_greatestOf _ hC.2.2.2.2.2.2.1 (σ.1 t 4) a1 ka1 na1 σ (nn_of hq2)) gc_X9_48 (xk_X9_greatestOf _ (Nat.le_of_ble_eq_true rfl) (Nat.le_of_ble_eq_true rfl)) rfl (Nat.le_of_ble_eq_true rfl) dX9_bestAtWorst_35 hq2 ?_
      exact g_iret hC hR dX9_bestAtWorst_38 rfl h
    · refine g_aload_n hC dX9_bestAtWorst_8 rfl 0 rfl ?_
      refine g_getR (cj := 15) (k := 2) hC cr9 ui_9 ht1 ht2 (by decide) fl_X9_19 rfl rfl dX9_bestAtWorst_9 h hf (fun a3 ea3 ka3 na3 h => ?_)
      refine g_iload_n hC dX9_bestAtWorst_12 rfl 2 rfl ?_
      refine g_aload_n hC dX9_bestAtWorst_13 rfl 0 rfl ?_
      refine g_iload_n hC dX9_bestAtWorst_14 rfl 2 rfl ?_
      refine g_iload_n hC dX9_bestAtWorst_15 rfl 1 rfl ?_
      obtain ⟨q4, hq4, h⟩ := bd_of h hf
      refine g_cVI (As := [.int x2, .int x1]) hC hO (c_X9_leastValue _ hC.2.2.2.2.2.2.1 t ht1 ht2 x2 x1 σ (nn_of hq4)) gc_X9_52 (xk_X9_leastValue _ (Nat.le_of_ble_eq_true rfl) (Nat.le_of_ble_eq_true rfl)) cr9 ht1 ht2 rfl (Nat.le_of_ble_eq_true rfl) dX9_bestAtWorst_16 hq4 ?_
      refine g_i2l hC dX9_bestAtWorst_19 ?_
      refine g_last hC ka3 na3 dX9_bestAtWorst_20 h hf (fun h => ?_)
      refine g_iinc (v := x2 + 1) (lv' := [(2, .int (x2 + 1)), (0, .ref (E.2.2.1 t)), (1, .int x1)]) hC dX9_bestAtWorst_21 2 rfl rfl (by decide) rfl ?_
      refine g_goto (tgt := 2) hC dX9_bestAtWorst_24 (by decide) ?_
      exact g_sub [1, 2, 0] rfl (ih (x2 + 1) (sJ q4.2 a3 x2.toNatClampNeg q4.1.toInt64) h)
set_option maxHeartbeats 4000000 in
set_option maxRecDepth 100000 in
theorem k_X9_bestAtWorst_0 {E : ET} {F : FT} {fo : Option (Int32 × HS)} (hC : Cx E F 3 cX9_bestAtWorst RX9 GT) (hO : Ro F rm_X9_bestAtWorst) (hR : RI E F .int fo) (hf : fo ≠ none) (t : Nat) (ht1 : kd t = 9) (ht2 : AL E t) (x1 : Int32) (σ : HS) (h : f_X9_bestAtWorst t x1 σ = fo) : G E F 0 [(0, .ref (E.2.2.1 t)), (1, .int x1)] [] σ := by
    refine g_iconst (v := 0) hC dX9_bestAtWorst_0 (by decide) ?_
    refine g_istore_n (lv' := [(2, .int 0), (0, .ref (E.2.2.1 t)), (1, .int x1)]) hC dX9_bestAtWorst_1 rfl (by decide) rfl ?_
    exact g_sub [1, 2, 0] rfl (k_X9_bestAtWorst_2 hC hO hR hf t ht1 ht2 x1 FU 0 σ h)
theorem xk_X9_bestAtWorst (R : Room) (h1 : 2 + 1 ≤ R.frames) (h2 : 103 ≤ R.locals) : xw R yX9_bestAtWorst w_X9_bestAtWorst GT cX9_bestAtWorst 3 (some .int) rm_X9_bestAtWorst 1 := ⟨rfl, rfl, rfl, h1, h2, ⟨by decide, by decide⟩, by decide +kernel⟩
theorem c_X9_bestAtWorst (E : ET) (hE : EO E) (t : Nat) (ht1 : kd t = 9) (ht2 : AL E t) (x1 : Int32) (σ : HS) (hn : f_X9_bestAtWorst t x1 σ ≠ none) : CoI E yX9_bestAtWorst w_X9_bestAtWorst rm_X9_bestAtWorst [.ref (E.2.2.1 t), .int x1] σ (f_X9_bestAtWorst t x1 σ) := CoI.of (lv := [(0, .ref (E.2.2.1 t)), (1, .int x1)]) hE (plainFor_of_name (by decide)) rfl (Nat.le_of_ble_eq_true rfl) rfl (fun F hC hO hR => k_X9_bestAtWorst_0 hC hO hR hn t ht1 ht2 x1 σ rfl)
def rm_X10_theyCan : Room := { frames := 0, cells := 0, slots := 0, locals := 0 }
theorem fl_X10_23 : Cond.fieldLink RX10 23 "EveryMeasure$Weights" (TX10 2).2.1 (TX10 2).2.2.1 ∈ GT := gtr_4 _ (List.mem_of_getElem? (i := 23) rfl)
theorem fl_X10_34 : Cond.fieldLink RX10 34 "EveryMeasure$Cone" (TX1 5).2.1 (TX1 5).2.2.1 ∈ GT := gtr_35 _ (List.mem_of_getElem? (i := 4) rfl)
set_option maxHeartbeats 4000000 in
set_option maxRecDepth 100000 in
theorem k_X10_theyCan_15 {E : ET} {F : FT} {fo : Option (Int32 × HS)} (hC : Cx E F 1 cX10_theyCan RX10 GT) (hO : Ro F rm_X10_theyCan) (hR : RI E F .boolean fo) (hf : fo ≠ none) (s0 : Int32) (σ : HS) (h : f_X10_theyCan_15 s0 σ = fo) : G E F 15 [] [.int s0] σ := by
    obtain ⟨hz, h⟩ := zr_of h hf
    exact g_iret hC hR dX10_theyCan_15 hz h
set_option maxHeartbeats 4000000 in
set_option maxRecDepth 100000 in
theorem k_X10_theyCan_0 {E : ET} {F : FT} {fo : Option (Int32 × HS)} (hC : Cx E F 1 cX10_theyCan RX10 GT) (hO : Ro F rm_X10_theyCan) (hR : RI E F .boolean fo) (hf : fo ≠ none) (t : Nat) (ht1 : kd t = 10) (ht2 : AL E t) (σ : HS) (h : f_X10_theyCan t σ = fo) : G E F 0 [(0, .ref (E.2.2.1 t))] [] σ := by
    refine g_aload_n hC dX10_theyCan_0 rfl 0 rfl ?_
    refine g_getR (cj := 1) (k := 2) hC cr10 ui_10 ht1 ht2 (by decide) fl_X10_23 rfl rfl dX10_theyCan_1 h hf (fun a1 ea1 ka1 na1 h => ?_)
    refine g_getI (k := 5) hC cr1 ui_1 ka1 na1 (by decide) fl_X10_34 rfl rfl dX10_theyCan_4 ?_
    refine g_if_le (tgt := 14) hC dX10_theyCan_7 (by decide) h (fun c7 h => ?_) (fun c7 h => ?_)
    · refine g_iconst (v := 0) hC dX10_theyCan_14 (by decide) ?_
      exact g_sub [] rfl (k_X10_theyCan_15 hC hO hR hf 0 σ h)
    · refine g_iconst (v := 1) hC dX10_theyCan_10 (by decide) ?_
      refine g_goto (tgt := 15) hC dX10_theyCan_11 (by decide) ?_
      exact g_sub [] rfl (k_X10_theyCan_15 hC hO hR hf 1 σ h)
theorem xk_X10_theyCan (R : Room) (h1 : 0 + 1 ≤ R.frames) (h2 : 32 ≤ R.locals) : xw R yX10_theyCan w_X10_theyCan GT cX10_theyCan 1 (some .boolean) rm_X10_theyCan 0 := ⟨rfl, rfl, rfl, h1, h2, ⟨by decide, by decide⟩, by decide +kernel⟩
theorem c_X10_theyCan (E : ET) (hE : EO E) (t : Nat) (ht1 : kd t = 10) (ht2 : AL E t) (σ : HS) (hn : f_X10_theyCan t σ ≠ none) : CoI E yX10_theyCan w_X10_theyCan rm_X10_theyCan [.ref (E.2.2.1 t)] σ (f_X10_theyCan t σ) := CoI.of (lv := [(0, .ref (E.2.2.1 t))]) hE (plainFor_of_name (by decide)) rfl (Nat.le_of_ble_eq_true rfl) rfl (fun F hC hO hR => k_X10_theyCan_0 hC hO hR hn t ht1 ht2 σ rfl)
def rm_X10_cutBy : Room := { frames := 3, cells := 0, slots := 0, locals := 126 }
theorem fl_X10_26 : Cond.fieldLink RX10 26 "EveryMeasure$Weights" (TX10 3).2.1 (TX10 3).2.2.1 ∈ GT := gtr_5 _ (List.mem_of_getElem? (i := 0) rfl)
theorem fl_X10_19 : Cond.fieldLink RX10 19 "EveryMeasure$Weights" (TX10 1).2.1 (TX10 1).2.2.1 ∈ GT := gtr_4 _ (List.mem_of_getElem? (i := 22) rfl)
theorem gc_X10_58 : GoodIn GT (wsV RX10 58 RX1 yX1_become w_X1_become) := gi_V (gtr_24 _ (List.mem_of_getElem? (i := 11) rfl)) (gtr_24 _ (List.mem_of_getElem? (i := 12) rfl)) (gtr_24 _ (List.mem_of_getElem? (i := 13) rfl)) (gtr_4 _ (List.mem_of_getElem? (i := 21) rfl)) wc_X1_become
theorem fl_X10_11 : Cond.fieldLink RX10 11 "EveryMeasure$Weights" (TX10 0).2.1 (TX10 0).2.2.1 ∈ GT := gtr_4 _ (List.mem_of_getElem? (i := 18) rfl)
theorem gc_X10_65 : GoodIn GT (wsV RX10 65 RX1 yX1_becomeCut w_X1_becomeCut) := gi_V (gtr_24 _ (List.mem_of_getElem? (i := 23) rfl)) (gtr_25 _ (List.mem_of_getElem? (i := 0) rfl)) (gtr_25 _ (List.mem_of_getElem? (i := 1) rfl)) (gtr_4 _ (List.mem_of_getElem? (i := 21) rfl)) wc_X1_becomeCut
set_option maxHeartbeats 4000000 in
set_option maxRecDepth 100000 in
theorem k_X10_cutBy_57 {E : ET} {F : FT} {fo : Option (Nat × HS)} (hC : Cx E F 4 cX10_cutBy RX10 GT) (hO : Ro F rm_X10_cutBy) (hR : RR E F fo) (hf : fo ≠ none) (t : Nat) (ht1 : kd t = 10) (ht2 : AL E t) (x1 : Int32) (x2 : Int32) (x3 : Int32) (r17 : Int32 → Int32 → HS → Option (Nat × HS)) (h17 : ∀ (x2 : Int32) (x3 : Int32) (σ : HS), r17 x2 x3 σ = fo → G E F 17 [(0, .ref (E.2.2.1 t)), (1, .int x1), (2, .int x2), (3, .int x3)] [] σ) (σ : HS) (h : f_X10_cutBy_57 r17 t x1 x2 x3 σ = fo) : G E F 57 [(0, .ref (E.2.2.1 t)), (1, .int x1), (2, .int x2), (3, .int x3)] [] σ := by
    refine g_iinc (v := x3 + 1) (lv' := [(3, .int (x3 + 1)), (0, .ref (E.2.2.1 t)), (1, .int x1), (2, .int x2)]) hC dX10_cutBy_57 3 rfl rfl (by decide) rfl ?_
    refine g_goto (tgt := 17) hC dX10_cutBy_60 (by decide) ?_
    exact g_sub [1, 2, 3, 0] rfl (h17 x2 (x3 + 1) σ h)
set_option maxHeartbeats 4000000 in
set_option maxRecDepth 100000 in
theorem k_X10_cutBy_17 {E : ET} {F : FT} {fo : Option (Nat × HS)} (hC : Cx E F 4 cX10_cutBy RX10 GT) (hO : Ro F rm_X10_cutBy) (hR : RR E F fo) (hf : fo ≠ none) (t : Nat) (ht1 : kd t = 10) (ht2 : AL E t) (x1 : Int32) : ∀ (n : Nat) (x2 : Int32) (x3 : Int32) (σ : HS), f_X10_cutBy_17 t x1 n x2 x3 σ = fo → G E F 17 [(0, .ref (E.2.2.1 t)), (1, .int x1), (2, .int x2), (3, .int x3)] [] σ := by
  intro n
  induction n with
  | zero =>
    intro x2 x3 σ h
    exact absurd (h.symm.trans rfl) hf
  | succ n ih =>
    intro x2 x3 σ h
    refine g_iload_n hC dX10_cutBy_17 rfl 3 rfl ?_
    refine g_bipush (v := 12) hC dX10_cutBy_18 (by decide) ?_
    refine g_icmp_ge (tgt := 63) hC dX10_cutBy_20 (by decide) h (fun c20 h => ?_) (fun c20 h => ?_)
    · refine g_aload_n hC dX10_cutBy_63 rfl 0 rfl ?_
      refine g_getR (cj := 17) (k := 3) hC cr10 ui_10 ht1 ht2 (by decide) fl_X10_26 rfl rfl dX10_cutBy_64 h hf (fun a1 ea1 ka1 na1 h => ?_)
      refine g_iload_n hC dX10_cutBy_67 rfl 2 rfl ?_
      refine g_aaldC (cj := 1) hC ka1 na1 dX10_cutBy_68 h hf (fun a2 ea2 ka2 na2 h => ?_)
      exact g_aret hC hR na2 dX10_cutBy_69 h
    · refine g_iload_n hC dX10_cutBy_23 rfl 1 rfl ?_
      refine g_iconst (v := 1) hC dX10_cutBy_24 (by decide) ?_
      refine g_iload_n hC dX10_cutBy_25 rfl 3 rfl ?_
      refine g_ishl hC dX10_cutBy_26 ?_
      refine g_iand hC dX10_cutBy_27 ?_
      refine g_if_eq (tgt := 57) hC dX10_cutBy_28 (by decide) h (fun c28 h => ?_) (fun c28 h => ?_)
      · exact g_sub [0, 1, 2, 3] rfl (k_X10_cutBy_57 hC hO hR hf t ht1 ht2 x1 x2 x3 (f_X10_cutBy_17 t x1 n) ih σ h)
      · refine g_aload_n hC dX10_cutBy_31 rfl 0 rfl ?_
        refine g_getR (cj := 17) (k := 3) hC cr10 ui_10 ht1 ht2 (by decide) fl_X10_26 rfl rfl dX10_cutBy_32 h hf (fun a3 ea3 ka3 na3 h => ?_)
        refine g_iload_n hC dX10_cutBy_35 rfl 2 rfl ?_
        refine g_iconst (v := 1) hC dX10_cutBy_36 (by decide) ?_
        refine g_iadd hC dX10_cutBy_37 ?_
        refine g_aaldC (cj := 1) hC ka3 na3 dX10_cutBy_38 h hf (fun a4 ea4 ka4 na4 h => ?_)
        refine g_aload_n hC dX10_cutBy_39 rfl 0 rfl ?_
        refine g_getR (cj := 17) (k := 3) hC cr10 ui_10 ht1 ht2 (by decide) fl_X10_26 rfl rfl dX10_cutBy_40 h hf (fun a5 ea5 ka5 na5 h => ?_)
        refine g_iload_n hC dX10_cutBy_43 rfl 2 rfl ?_
        refine g_aaldC (cj := 1) hC ka5 na5 dX10_cutBy_44 h hf (fun a6 ea6 ka6 na6 h => ?_)
        refine g_aload_n hC dX10_cutBy_45 rfl 0 rfl ?_
        refine g_getR (cj := 18) (k := 0) hC cr10 ui_10 ht1 ht2 (by decide) fl_X10_11 rfl rfl dX10_cutBy_46 h hf (fun a7 ea7 ka7 na7 h => ?_)
        refine g_iload_n hC dX10_cutBy_49 rfl 3 rfl ?_
        refine g_aaldI (cj := 14) hC ka7 na7 dX10_cutBy_50 h hf (fun a8 ea8 ka8 na8 h => ?_)
        obtain ⟨q9, hq9, h⟩ := bd_of h hf
        refine g_cVV (As := [.ref (E.2.2.1 a6), .ref (E.2.2.1 a8)]) hC hO (c_X1_becomeCut _ hC.2.2.2.2.2.2.1 a4 ka4 na4 a6 ka6 na6 a8 ka8 na8 σ (nn_of hq9)) gc_X10_65 (xk_X1_becomeCut _ (Nat.le_of_ble_eq_true rfl) (Nat.le_of_ble_eq_true rfl)) cr1 ka4 na4 rfl (Nat.le_of_ble_eq_true rfl) dX10_cutBy_51 hq9 ?_
        refine g_iinc (v := x2 + 1) (lv' := [(2, .int (x2 + 1)), (0, .ref (E.2.2.1 t)), (1, .int x1), (3, .int x3)]) hC dX10_cutBy_54 2 rfl rfl (by decide) rfl ?_
        exact g_sub [1, 2, 0, 3] rfl (k_X10_cutBy_57 hC hO hR hf t ht1 ht2 x1 (x2 + 1) x3 (f_X10_cutBy_17 t x1 n) ih q9 h)
set_option maxHeartbeats 4000000 in
set_option maxRecDepth 100000 in
theorem k_X10_cutBy_0 {E : ET} {F : FT} {fo : Option (Nat × HS)} (hC : Cx E F 4 cX10_cutBy RX10 GT) (hO : Ro F rm_X10_cutBy) (hR : RR E F fo) (hf : fo ≠ none) (t : Nat) (ht1 : kd t = 10) (ht2 : AL E t) (x1 : Int32) (σ : HS) (h : f_X10_cutBy t x1 σ = fo) : G E F 0 [(0, .ref (E.2.2.1 t)), (1, .int x1)] [] σ := by
    refine g_aload_n hC dX10_cutBy_0 rfl 0 rfl ?_
    refine g_getR (cj := 17) (k := 3) hC cr10 ui_10 ht1 ht2 (by decide) fl_X10_26 rfl rfl dX10_cutBy_1 h hf (fun a1 ea1 ka1 na1 h => ?_)
    refine g_iconst (v := 0) hC dX10_cutBy_4 (by decide) ?_
    refine g_aaldC (cj := 1) hC ka1 na1 dX10_cutBy_5 h hf (fun a2 ea2 ka2 na2 h => ?_)
    refine g_aload_n hC dX10_cutBy_6 rfl 0 rfl ?_
    refine g_getR (cj := 1) (k := 1) hC cr10 ui_10 ht1 ht2 (by decide) fl_X10_19 rfl rfl dX10_cutBy_7 h hf (fun a3 ea3 ka3 na3 h => ?_)
    obtain ⟨q4, hq4, h⟩ := bd_of h hf
    refine g_cVV (As := [.ref (E.2.2.1 a3)]) hC hO (c_X1_become _ hC.2.2.2.2.2.2.1 a2 ka2 na2 a3 ka3 na3 σ (nn_of hq4)) gc_X10_58 (xk_X1_become _ (Nat.le_of_ble_eq_true rfl) (Nat.le_of_ble_eq_true rfl)) cr1 ka2 na2 rfl (Nat.le_of_ble_eq_true rfl) dX10_cutBy_10 hq4 ?_
    refine g_iconst (v := 0) hC dX10_cutBy_13 (by decide) ?_
    refine g_istore_n (lv' := [(2, .int 0), (0, .ref (E.2.2.1 t)), (1, .int x1)]) hC dX10_cutBy_14 rfl (by decide) rfl ?_
    refine g_iconst (v := 0) hC dX10_cutBy_15 (by decide) ?_
    refine g_istore_n (lv' := [(3, .int 0), (2, .int 0), (0, .ref (E.2.2.1 t)), (1, .int x1)]) hC dX10_cutBy_16 rfl (by decide) rfl ?_
    exact g_sub [2, 3, 1, 0] rfl (k_X10_cutBy_17 hC hO hR hf t ht1 ht2 x1 FU 0 0 q4 h)
theorem xk_X10_cutBy (R : Room) (h1 : 3 + 1 ≤ R.frames) (h2 : 161 ≤ R.locals) : xw R yX10_cutBy w_X10_cutBy GT cX10_cutBy 4 (some (.object "EveryMeasure$Cone")) rm_X10_cutBy 1 := ⟨rfl, rfl, rfl, h1, h2, ⟨by decide, by decide⟩, by decide +kernel⟩
theorem c_X10_cutBy (E : ET) (hE : EO E) (t : Nat) (ht1 : kd t = 10) (ht2 : AL E t) (x1 : Int32) (σ : HS) (hn : f_X10_cutBy t x1 σ ≠ none) : CoR E yX10_cutBy w_X10_cutBy rm_X10_cutBy [.ref (E.2.2.1 t), .int x1] σ (f_X10_cutBy t x1 σ) := CoR.of (lv := [(0, .ref (E.2.2.1 t)), (1, .int x1)]) (by first | exact Or.inl ⟨_, rfl⟩ | exact Or.inr ⟨_, rfl⟩) hE (plainFor_of_name (by decide)) rfl (Nat.le_of_ble_eq_true rfl) rfl (fun F hC hO hR => k_X10_cutBy_0 hC hO hR hn t ht1 ht2 x1 σ rfl)
def rm_X10_workOut : Room := { frames := 4, cells := 0, slots := 0, locals := 161 }
theorem fl_X10_37 : Cond.fieldLink RX10 37 "EveryMeasure$Choice" (TX0 9).2.1 (TX0 9).2.2.1 ∈ GT := gtr_23 _ (List.mem_of_getElem? (i := 13) rfl)
theorem gc_X10_46 : GoodIn GT (wsV RX10 46 RX0 yX0_sayingsOf w_X0_sayingsOf) := gi_V (gtr_23 _ (List.mem_of_getElem? (i := 23) rfl)) (gtr_24 _ (List.mem_of_getElem? (i := 0) rfl)) (gtr_24 _ (List.mem_of_getElem? (i := 1) rfl)) (gtr_3 _ (List.mem_of_getElem? (i := 9) rfl)) wc_X0_sayingsOf
theorem fl_X10_30 : Cond.fieldLink RX10 30 "EveryMeasure$Weights" (TX10 4).2.1 (TX10 4).2.2.1 ∈ GT := gtr_5 _ (List.mem_of_getElem? (i := 1) rfl)
theorem wc_X1_becomeWhole : Cond.code yX1_becomeWhole cX1_becomeWhole 4 none ∈ GT := gtr_24 _ (List.mem_of_getElem? (i := 6) rfl)
theorem gc_X10_50 : GoodIn GT (wsV RX10 50 RX1 yX1_becomeWhole w_X1_becomeWhole) := gi_V (gtr_24 _ (List.mem_of_getElem? (i := 3) rfl)) (gtr_24 _ (List.mem_of_getElem? (i := 4) rfl)) (gtr_24 _ (List.mem_of_getElem? (i := 5) rfl)) (gtr_4 _ (List.mem_of_getElem? (i := 21) rfl)) wc_X1_becomeWhole
theorem wc_X10_cutBy : Cond.code yX10_cutBy cX10_cutBy 4 (some (.object "EveryMeasure$Cone")) ∈ GT := gtr_24 _ (List.mem_of_getElem? (i := 10) rfl)
theorem gc_X10_54 : GoodIn GT (wsV RX10 54 RX10 yX10_cutBy w_X10_cutBy) := gi_V (gtr_24 _ (List.mem_of_getElem? (i := 7) rfl)) (gtr_24 _ (List.mem_of_getElem? (i := 8) rfl)) (gtr_24 _ (List.mem_of_getElem? (i := 9) rfl)) (gtr_2 _ (List.mem_of_getElem? (i := 4) rfl)) wc_X10_cutBy
theorem wc_X1_sort : Cond.code yX1_sort cX1_sort 3 none ∈ GT := gtr_26 _ (List.mem_of_getElem? (i := 4) rfl)
theorem gc_X10_62 : GoodIn GT (wsV RX10 62 RX1 yX1_sort w_X1_sort) := gi_V (gtr_26 _ (List.mem_of_getElem? (i := 1) rfl)) (gtr_26 _ (List.mem_of_getElem? (i := 2) rfl)) (gtr_26 _ (List.mem_of_getElem? (i := 3) rfl)) (gtr_4 _ (List.mem_of_getElem? (i := 21) rfl)) wc_X1_sort
theorem wc_X0_fillRow : Cond.code yX0_fillRow cX0_fillRow 7 none ∈ GT := gtr_23 _ (List.mem_of_getElem? (i := 17) rfl)
theorem gc_X10_42 : GoodIn GT (wsV RX10 42 RX0 yX0_fillRow w_X0_fillRow) := gi_V (gtr_23 _ (List.mem_of_getElem? (i := 14) rfl)) (gtr_23 _ (List.mem_of_getElem? (i := 15) rfl)) (gtr_23 _ (List.mem_of_getElem? (i := 16) rfl)) (gtr_3 _ (List.mem_of_getElem? (i := 9) rfl)) wc_X0_fillRow
set_option maxHeartbeats 4000000 in
set_option maxRecDepth 100000 in
theorem k_X10_workOut_3 {E : ET} {F : FT} {fo : Option HS} (hC : Cx E F 6 cX10_workOut RX10 GT) (hO : Ro F rm_X10_workOut) (hR : RV E F fo) (hf : fo ≠ none) (t : Nat) (ht1 : kd t = 10) (ht2 : AL E t) (x1 : Nat) (hx1a : kd x1 = 0) (hx1b : AL E x1) (x2 : Nat) (hx2a : kd x2 = 9) (hx2b : AL E x2) (x3 : Int32) (x4 : Int32) : ∀ (n : Nat) (x5 : Int32) (σ : HS), f_X10_workOut_3 t x1 x2 x3 x4 n x5 σ = fo → G E F 3 [(0, .ref (E.2.2.1 t)), (1, .ref (E.2.2.1 x1)), (2, .ref (E.2.2.1 x2)), (3, .int x3), (4, .int x4), (5, .int x5)] [] σ := by
  intro n
  induction n with
  | zero =>
    intro x5 σ h
    exact absurd (h.symm.trans rfl) hf
  | succ n ih =>
    intro x5 σ h
    refine g_iload hC dX10_workOut_3 5 rfl ?_
    refine g_aload_n hC dX10_workOut_5 rfl 1 rfl ?_
    refine g_getI (k := 9) hC cr0 ui_0 hx1a hx1b (by decide) fl_X10_37 rfl rfl dX10_workOut_6 ?_
    refine g_icmp_ge (tgt := 34) hC dX10_workOut_9 (by decide) h (fun c9 h => ?_) (fun c9 h => ?_)
    · refine g_aload_n hC dX10_workOut_34 rfl 0 rfl ?_
      refine g_aload_n hC dX10_workOut_35 rfl 1 rfl ?_
      refine g_iload_n hC dX10_workOut_36 rfl 3 rfl ?_
      obtain ⟨q1, hq1, h⟩ := bd_of h hf
      refine g_cVI (As := [.int x3]) hC hO (c_X0_sayingsOf _ hC.2.2.2.2.2.2.1 x1 hx1a hx1b x3 σ (nn_of hq1)) gc_X10_46 (xk_X0_sayingsOf _ (Nat.le_of_ble_eq_true rfl) (Nat.le_of_ble_eq_true rfl)) cr0 hx1a hx1b rfl (Nat.le_of_ble_eq_true rfl) dX10_workOut_37 hq1 ?_
      refine g_putI (k := 4) hC cr10 ui_10 tyX10_ok nmX10 ht1 ht2 (by decide) fl_X10_30 rfl rfl rfl rfl dX10_workOut_40 ?_
      refine g_aload_n hC dX10_workOut_43 rfl 0 rfl ?_
      refine g_getR (cj := 1) (k := 1) hC cr10 ui_10 ht1 ht2 (by decide) fl_X10_19 rfl rfl dX10_workOut_44 h hf (fun a2 ea2 ka2 na2 h => ?_)
      refine g_iload hC dX10_workOut_47 4 rfl ?_
      obtain ⟨q3, hq3, h⟩ := bd_of h hf
      refine g_cVV (As := [.int x4]) hC hO (c_X1_becomeWhole _ hC.2.2.2.2.2.2.1 a2 ka2 na2 x4 (sI q1.2 t 4 q1.1) (nn_of hq3)) gc_X10_50 (xk_X1_becomeWhole _ (Nat.le_of_ble_eq_true rfl) (Nat.le_of_ble_eq_true rfl)) cr1 ka2 na2 rfl (Nat.le_of_ble_eq_true rfl) dX10_workOut_49 hq3 ?_
      refine g_aload_n hC dX10_workOut_52 rfl 0 rfl ?_
      refine g_getR (cj := 1) (k := 2) hC cr10 ui_10 ht1 ht2 (by decide) fl_X10_23 rfl rfl dX10_workOut_53 h hf (fun a4 ea4 ka4 na4 h => ?_)
      refine g_aload_n hC dX10_workOut_56 rfl 0 rfl ?_
      refine g_aload_n hC dX10_workOut_57 rfl 0 rfl ?_
      refine g_getI (k := 4) hC cr10 ui_10 ht1 ht2 (by decide) fl_X10_30 rfl rfl dX10_workOut_58 ?_
      obtain ⟨q5, hq5, h⟩ := bd_of h hf
      refine g_cVR (As := [.int (q3.1 t 4)]) hC hO (c_X10_cutBy _ hC.2.2.2.2.2.2.1 t ht1 ht2 (q3.1 t 4) q3 (nn_of hq5)) gc_X10_54 (xk_X10_cutBy _ (Nat.le_of_ble_eq_true rfl) (Nat.le_of_ble_eq_true rfl)) cr10 ht1 ht2 rfl (Nat.le_of_ble_eq_true rfl) dX10_workOut_61 hq5 (fun na6 => ?_)
      obtain ⟨a6, ea6, ka6, h⟩ := rk_of h hf
      rw [Option.some.inj ea6] at na6 ⊢
      obtain ⟨q7, hq7, h⟩ := bd_of h hf
      refine g_cVV (As := [.ref (E.2.2.1 a6)]) hC hO (c_X1_become _ hC.2.2.2.2.2.2.1 a4 ka4 na4 a6 ka6 na6 q5.2 (nn_of hq7)) gc_X10_58 (xk_X1_become _ (Nat.le_of_ble_eq_true rfl) (Nat.le_of_ble_eq_true rfl)) cr1 ka4 na4 rfl (Nat.le_of_ble_eq_true rfl) dX10_workOut_64 hq7 ?_
      refine g_aload_n hC dX10_workOut_67 rfl 0 rfl ?_
      refine g_getR (cj := 1) (k := 2) hC cr10 ui_10 ht1 ht2 (by decide) fl_X10_23 rfl rfl dX10_workOut_68 h hf (fun a8 ea8 ka8 na8 h => ?_)
      obtain ⟨q9, hq9, h⟩ := bd_of h hf
      refine g_cVV (As := []) hC hO (c_X1_sort _ hC.2.2.2.2.2.2.1 a8 ka8 na8 q7 (nn_of hq9)) gc_X10_62 (xk_X1_sort _ (Nat.le_of_ble_eq_true rfl) (Nat.le_of_ble_eq_true rfl)) cr1 ka8 na8 rfl (Nat.le_of_ble_eq_true rfl) dX10_workOut_71 hq9 ?_
      exact g_vret hC hR dX10_workOut_74 h
    · refine g_aload_n hC dX10_workOut_12 rfl 1 rfl ?_
      refine g_iload hC dX10_workOut_13 5 rfl ?_
      refine g_aload_n hC dX10_workOut_15 rfl 0 rfl ?_
      refine g_getR (cj := 18) (k := 0) hC cr10 ui_10 ht1 ht2 (by decide) fl_X10_11 rfl rfl dX10_workOut_16 h hf (fun a10 ea10 ka10 na10 h => ?_)
      refine g_iload hC dX10_workOut_19 5 rfl ?_
      refine g_aaldI (cj := 14) hC ka10 na10 dX10_workOut_21 h hf (fun a11 ea11 ka11 na11 h => ?_)
      refine g_aload_n hC dX10_workOut_22 rfl 2 rfl ?_
      refine g_iload hC dX10_workOut_23 4 rfl ?_
      obtain ⟨q12, hq12, h⟩ := bd_of h hf
      refine g_cVV (As := [.int x5, .ref (E.2.2.1 a11), .ref (E.2.2.1 x2), .int x4]) hC hO (c_X0_fillRow _ hC.2.2.2.2.2.2.1 x1 hx1a hx1b x5 a11 ka11 na11 x2 hx2a hx2b x4 σ (nn_of hq12)) gc_X10_42 (xk_X0_fillRow _ (Nat.le_of_ble_eq_true rfl) (Nat.le_of_ble_eq_true rfl)) cr0 hx1a hx1b rfl (Nat.le_of_ble_eq_true rfl) dX10_workOut_25 hq12 ?_
      refine g_iinc (v := x5 + 1) (lv' := [(5, .int (x5 + 1)), (0, .ref (E.2.2.1 t)), (1, .ref (E.2.2.1 x1)), (2, .ref (E.2.2.1 x2)), (3, .int x3), (4, .int x4)]) hC dX10_workOut_28 5 rfl rfl (by decide) rfl ?_
      refine g_goto (tgt := 3) hC dX10_workOut_31 (by decide) ?_
      exact g_sub [1, 2, 3, 4, 5, 0] rfl (ih (x5 + 1) q12 h)
set_option maxHeartbeats 4000000 in
set_option maxRecDepth 100000 in
theorem k_X10_workOut_0 {E : ET} {F : FT} {fo : Option HS} (hC : Cx E F 6 cX10_workOut RX10 GT) (hO : Ro F rm_X10_workOut) (hR : RV E F fo) (hf : fo ≠ none) (t : Nat) (ht1 : kd t = 10) (ht2 : AL E t) (x1 : Nat) (hx1a : kd x1 = 0) (hx1b : AL E x1) (x2 : Nat) (hx2a : kd x2 = 9) (hx2b : AL E x2) (x3 : Int32) (x4 : Int32) (σ : HS) (h : f_X10_workOut t x1 x2 x3 x4 σ = fo) : G E F 0 [(0, .ref (E.2.2.1 t)), (1, .ref (E.2.2.1 x1)), (2, .ref (E.2.2.1 x2)), (3, .int x3), (4, .int x4)] [] σ := by
    refine g_iconst (v := 0) hC dX10_workOut_0 (by decide) ?_
    refine g_istore (lv' := [(5, .int 0), (0, .ref (E.2.2.1 t)), (1, .ref (E.2.2.1 x1)), (2, .ref (E.2.2.1 x2)), (3, .int x3), (4, .int x4)]) hC dX10_workOut_1 (by decide) rfl ?_
    exact g_sub [1, 2, 3, 4, 5, 0] rfl (k_X10_workOut_3 hC hO hR hf t ht1 ht2 x1 hx1a hx1b x2 hx2a hx2b x3 x4 FU 0 σ h)
theorem xk_X10_workOut (R : Room) (h1 : 4 + 1 ≤ R.frames) (h2 : 198 ≤ R.locals) : xw R yX10_workOut w_X10_workOut GT cX10_workOut 6 none rm_X10_workOut 4 := ⟨rfl, rfl, rfl, h1, h2, ⟨by decide, by decide⟩, by decide +kernel⟩
theorem c_X10_workOut (E : ET) (hE : EO E) (t : Nat) (ht1 : kd t = 10) (ht2 : AL E t) (x1 : Nat) (hx1a : kd x1 = 0) (hx1b : AL E x1) (x2 : Nat) (hx2a : kd x2 = 9) (hx2b : AL E x2) (x3 : Int32) (x4 : Int32) (σ : HS) (hn : f_X10_workOut t x1 x2 x3 x4 σ ≠ none) : CoV E yX10_workOut w_X10_workOut rm_X10_workOut [.ref (E.2.2.1 t), .ref (E.2.2.1 x1), .ref (E.2.2.1 x2), .int x3, .int x4] σ (f_X10_workOut t x1 x2 x3 x4 σ) := CoV.of (lv := [(0, .ref (E.2.2.1 t)), (1, .ref (E.2.2.1 x1)), (2, .ref (E.2.2.1 x2)), (3, .int x3), (4, .int x4)]) hE (plainFor_of_name (by decide)) rfl (Nat.le_of_ble_eq_true rfl) rfl (fun F hC hO hR => k_X10_workOut_0 hC hO hR hn t ht1 ht2 x1 hx1a hx1b x2 hx2a hx2b x3 x4 σ rfl)
