def rm_X12_thrown : Room := { frames := 0, cells := 0, slots := 0, locals := 0 }
theorem fl_X12_1 : Cond.fieldLink RX12 1 "EveryMeasureModel" (TX12 0).2.1 (TX12 0).2.2.1 ∈ GT := gtr_11 _ (List.mem_of_getElem? (i := 5) rfl)
set_option maxHeartbeats 4000000 in
set_option maxRecDepth 100000 in
theorem k_X12_thrown_0 {E : ET} {F : FT} {fo : Option (Int32 × HS)} (hC : Cx E F 1 cX12_thrown RX12 GT) (hO : Ro F rm_X12_thrown) (hR : RI E F .int fo) (hf : fo ≠ none) (t : Nat) (ht1 : kd t = 12) (ht2 : AL E t) (σ : HS) (h : f_X12_thrown t σ = fo) : G E F 0 [(0, .ref (E.2.2.1 t))] [] σ := by
    refine g_aload_n hC dX12_thrown_0 rfl 0 rfl ?_
    refine g_getI (k := 0) hC cr12 ui_12 ht1 ht2 (by decide) fl_X12_1 rfl rfl dX12_thrown_1 ?_
    exact g_iret hC hR dX12_thrown_4 rfl h
theorem xk_X12_thrown (R : Room) (h1 : 0 + 1 ≤ R.frames) (h2 : 32 ≤ R.locals) : xw R yX12_thrown w_X12_thrown GT cX12_thrown 1 (some .int) rm_X12_thrown 0 := ⟨rfl, rfl, rfl, h1, h2, ⟨by decide, by decide⟩, by decide +kernel⟩
theorem c_X12_thrown (E : ET) (hE : EO E) (t : Nat) (ht1 : kd t = 12) (ht2 : AL E t) (σ : HS) (hn : f_X12_thrown t σ ≠ none) : CoI E yX12_thrown w_X12_thrown rm_X12_thrown [.ref (E.2.2.1 t)] σ (f_X12_thrown t σ) := CoI.of (lv := [(0, .ref (E.2.2.1 t))]) hE (plainFor_of_name (by decide)) rfl (Nat.le_of_ble_eq_true rfl) rfl (fun F hC hO hR => k_X12_thrown_0 hC hO hR hn t ht1 ht2 σ rfl)
def rm_X12_lay : Room := { frames := 0, cells := 0, slots := 0, locals := 0 }
theorem fl_X12_11 : Cond.fieldLink RX12 11 "EveryMeasureModel" (TX12 2).2.1 (TX12 2).2.2.1 ∈ GT := gtr_13 _ (List.mem_of_getElem? (i := 6) rfl)
theorem fl_X12_14 : Cond.fieldLink RX12 14 "EveryMeasureModel" (TX12 1).2.1 (TX12 1).2.2.1 ∈ GT := gtr_8 _ (List.mem_of_getElem? (i := 16) rfl)
set_option maxHeartbeats 4000000 in
set_option maxRecDepth 100000 in
theorem k_X12_lay_69 {E : ET} {F : FT} {fo : Option HS} (hC : Cx E F 5 cX12_lay RX12 GT) (hO : Ro F rm_X12_lay) (hR : RV E F fo) (hf : fo ≠ none) (t : Nat) (ht1 : kd t = 12) (ht2 : AL E t) (x1 : Int64) (x3 : Int32) (r3 : Int32 → HS → Option HS) (h3 : ∀ (x3 : Int32) (σ : HS), r3 x3 σ = fo → G E F 3 [(0, .ref (E.2.2.1 t)), (1, .long x1), (3, .int x3)] [] σ) (σ : HS) (h : f_X12_lay_69 r3 t x1 x3 σ = fo) : G E F 69 [(0, .ref (E.2.2.1 t)), (1, .long x1), (3, .int x3)] [] σ := by
    refine g_iinc (v := x3 + (-8)) (lv' := [(3, .int (x3 + (-8))), (0, .ref (E.2.2.1 t)), (1, .long x1)]) hC dX12_lay_69 2 rfl rfl (by decide) rfl ?_
    refine g_goto (tgt := 3) hC dX12_lay_72 (by decide) ?_
    exact g_sub [1, 2, 0] rfl (h3 (x3 + (-8)) σ h)
set_option maxHeartbeats 4000000 in
set_option maxRecDepth 100000 in
theorem k_X12_lay_38 {E : ET} {F : FT} {fo : Option HS} (hC : Cx E F 5 cX12_lay RX12 GT) (hO : Ro F rm_X12_lay) (hR : RV E F fo) (hf : fo ≠ none) (t : Nat) (ht1 : kd t = 12) (ht2 : AL E t) (x1 : Int64) (x3 : Int32) (x4 : Int32) (r3 : Int32 → HS → Option HS) (h3 : ∀ (x3 : Int32) (σ : HS), r3 x3 σ = fo → G E F 3 [(0, .ref (E.2.2.1 t)), (1, .long x1), (3, .int x3)] [] σ) (σ : HS) (h : f_X12_lay_38 r3 t x1 x3 x4 σ = fo) : G E F 38 [(0, .ref (E.2.2.1 t)), (1, .long x1), (3, .int x3), (4, .int x4)] [] σ := by
    refine g_aload_n hC dX12_lay_38 rfl 0 rfl ?_
    refine g_getI (k := 2) hC cr12 ui_12 ht1 ht2 (by decide) fl_X12_11 rfl rfl dX12_lay_39 ?_
    refine g_sipush (v := 1000) hC dX12_lay_42 (by decide) ?_
    refine g_icmp_ge (tgt := 69) hC dX12_lay_45 (by decide) h (fun c45 h => ?_) (fun c45 h => ?_)
    · exact g_sub [0, 1, 2] rfl (k_X12_lay_69 hC hO hR hf t ht1 ht2 x1 x3 r3 h3 σ h)
    · refine g_aload_n hC dX12_lay_48 rfl 0 rfl ?_
      refine g_getR (cj := 14) (k := 1) hC cr12 ui_12 ht1 ht2 (by decide) fl_X12_14 rfl rfl dX12_lay_49 h hf (fun a1 ea1 ka1 na1 h => ?_)
      refine g_aload_n hC dX12_lay_52 rfl 0 rfl ?_
      refine g_getI (k := 2) hC cr12 ui_12 ht1 ht2 (by decide) fl_X12_11 rfl rfl dX12_lay_53 ?_
      refine g_iload hC dX12_lay_56 3 rfl ?_
      refine g_iast hC ka1 na1 dX12_lay_58 h hf (fun h => ?_)
      refine g_aload_n hC dX12_lay_59 rfl 0 rfl ?_
      refine g_dup hC dX12_lay_60 rfl ?_
      refine g_getI (k := 2) hC cr12 ui_12 ht1 ht2 (by decide) fl_X12_11 rfl rfl dX12_lay_61 ?_
      refine g_iconst (v := 1) hC dX12_lay_64 (by decide) ?_
      refine g_iadd hC dX12_lay_65 ?_
      refine g_putI (k := 2) hC cr12 ui_12 tyX12_ok nmX12 ht1 ht2 (by decide) fl_X12_11 rfl rfl rfl rfl dX12_lay_66 ?_
      exact g_sub [0, 1, 2] rfl (k_X12_lay_69 hC hO hR hf t ht1 ht2 x1 x3 r3 h3 (sI (sI σ a1 (σ.1 t 2).toNatClampNeg x4) t 2 (((sI σ a1 (σ.1 t 2).toNatClampNeg x4).1 t 2) + 1)) h)
set_option maxHeartbeats 4000000 in
set_option maxRecDepth 100000 in
theorem k_X12_lay_3 {E : ET} {F : FT} {fo : Option HS} (hC : Cx E F 5 cX12_lay RX12 GT) (hO : Ro F rm_X12_lay) (hR : RV E F fo) (hf : fo ≠ none) (t : Nat) (ht1 : kd t = 12) (ht2 : AL E t) (x1 : Int64) : ∀ (n : Nat) (x3 : Int32) (σ : HS), f_X12_lay_3 t x1 n x3 σ = fo → G E F 3 [(0, .ref (E.2.2.1 t)), (1, .long x1), (3, .int x3)] [] σ := by
  intro n
  induction n with
  | zero =>
    intro x3 σ h
    exact absurd (h.symm.trans rfl) hf
  | succ n ih =>
    intro x3 σ h
    refine g_iload_n hC dX12_lay_3 rfl 2 rfl ?_
    refine g_if_lt (tgt := 75) hC dX12_lay_4 (by decide) h (fun c4 h => ?_) (fun c4 h => ?_)
    · exact g_vret hC hR dX12_lay_75 h
    · refine g_lload_n hC dX12_lay_7 rfl 1 rfl ?_
      refine g_iload_n hC dX12_lay_8 rfl 2 rfl ?_
      refine g_lshr hC dX12_lay_9 ?_
      refine g_l2i hC dX12_lay_10 ?_
      refine g_sipush (v := 255) hC dX12_lay_11 (by decide) ?_
      refine g_iand hC dX12_lay_14 ?_
      refine g_istore (lv' := [(4, .int (((x1 >>> (x3.toInt64 &&& 63)).toInt32) &&& 255)), (0, .ref (E.2.2.1 t)), (1, .long x1), (3, .int x3)]) hC dX12_lay_15 (by decide) rfl ?_
      refine g_iload hC dX12_lay_17 0 rfl ?_
      refine g_bipush (v := 10) hC dX12_lay_19 (by decide) ?_
      refine g_icmp_eq (tgt := 38) hC dX12_lay_21 (by decide) h (fun c21 h => ?_) (fun c21 h => ?_)
      · exact g_sub [1, 2, 3, 0] rfl (k_X12_lay_38 hC hO hR hf t ht1 ht2 x1 x3 (((x1 >>> (x3.toInt64 &&& 63)).toInt32) &&& 255) (f_X12_lay_3 t x1 n) ih σ h)
      · refine g_iload hC dX12_lay_24 0 rfl ?_
        refine g_bipush (v := 32) hC dX12_lay_26 (by decide) ?_
        refine g_icmp_lt (tgt := 69) hC dX12_lay_28 (by decide) h (fun c28 h => ?_) (fun c28 h => ?_)
        · exact g_sub [1, 2, 3] rfl (k_X12_lay_69 hC hO hR hf t ht1 ht2 x1 x3 (f_X12_lay_3 t x1 n) ih σ h)
        · refine g_iload hC dX12_lay_31 0 rfl ?_
          refine g_bipush (v := 126) hC dX12_lay_33 (by decide) ?_
          refine g_icmp_gt (tgt := 69) hC dX12_lay_35 (by decide) h (fun c35 h => ?_) (fun c35 h => ?_)
          · exact g_sub [1, 2, 3] rfl (k_X12_lay_69 hC hO hR hf t ht1 ht2 x1 x3 (f_X12_lay_3 t x1 n) ih σ h)
          · exact g_sub [1, 2, 3, 0] rfl (k_X12_lay_38 hC hO hR hf t ht1 ht2 x1 x3 (((x1 >>> (x3.toInt64 &&& 63)).toInt32) &&& 255) (f_X12_lay_3 t x1 n) ih σ h)
set_option maxHeartbeats 4000000 in
set_option maxRecDepth 100000 in
theorem k_X12_lay_0 {E : ET} {F : FT} {fo : Option HS} (hC : Cx E F 5 cX12_lay RX12 GT) (hO : Ro F rm_X12_lay) (hR : RV E F fo) (hf : fo ≠ none) (t : Nat) (ht1 : kd t = 12) (ht2 : AL E t) (x1 : Int64) (σ : HS) (h : f_X12_lay t x1 σ = fo) : G E F 0 [(0, .ref (E.2.2.1 t)), (1, .long x1)] [] σ := by
    refine g_bipush (v := 56) hC dX12_lay_0 (by decide) ?_
    refine g_istore_n (lv' := [(3, .int 56), (0, .ref (E.2.2.1 t)), (1, .long x1)]) hC dX12_lay_2 rfl (by decide) rfl ?_
    exact g_sub [1, 2, 0] rfl (k_X12_lay_3 hC hO hR hf t ht1 ht2 x1 FU 56 σ h)
theorem xk_X12_lay (R : Room) (h1 : 0 + 1 ≤ R.frames) (h2 : 36 ≤ R.locals) : xw R yX12_lay w_X12_lay GT cX12_lay 5 none rm_X12_lay 1 := ⟨rfl, rfl, rfl, h1, h2, ⟨by decide, by decide⟩, by decide +kernel⟩
theorem c_X12_lay (E : ET) (hE : EO E) (t : Nat) (ht1 : kd t = 12) (ht2 : AL E t) (x1 : Int64) (σ : HS) (hn : f_X12_lay t x1 σ ≠ none) : CoV E yX12_lay w_X12_lay rm_X12_lay [.ref (E.2.2.1 t), .long x1] σ (f_X12_lay t x1 σ) := CoV.of (lv := [(0, .ref (E.2.2.1 t)), (1, .long x1)]) hE (plainFor_of_name (by decide)) rfl (Nat.le_of_ble_eq_true rfl) rfl (fun F hC hO hR => k_X12_lay_0 hC hO hR hn t ht1 ht2 x1 σ rfl)
def rm_X12_feed : Room := { frames := 1, cells := 0, slots := 0, locals := 36 }
theorem wc_X12_lay : Cond.code yX12_lay cX12_lay 5 none ∈ GT := gtr_13 _ (List.mem_of_getElem? (i := 10) rfl)
theorem gc_X12_7 : GoodIn GT (wsV RX12 7 RX12 yX12_lay w_X12_lay) := gi_V (gtr_13 _ (List.mem_of_getElem? (i := 7) rfl)) (gtr_13 _ (List.mem_of_getElem? (i := 8) rfl)) (gtr_13 _ (List.mem_of_getElem? (i := 9) rfl)) (gtr_1 _ (List.mem_of_getElem? (i := 5) rfl)) wc_X12_lay
set_option maxHeartbeats 4000000 in
set_option maxRecDepth 100000 in
theorem k_X12_feed_0 {E : ET} {F : FT} {fo : Option (Int32 × HS)} (hC : Cx E F 7 cX12_feed RX12 GT) (hO : Ro F rm_X12_feed) (hR : RI E F .int fo) (hf : fo ≠ none) (t : Nat) (ht1 : kd t = 12) (ht2 : AL E t) (x1 : Int64) (x3 : Int64) (x5 : Int64) (σ : HS) (h : f_X12_feed t x1 x3 x5 σ = fo) : G E F 0 [(0, .ref (E.2.2.1 t)), (1, .long x1), (3, .long x3), (5, .long x5)] [] σ := by
    refine g_aload_n hC dX12_feed_0 rfl 0 rfl ?_
    refine g_iconst (v := 0) hC dX12_feed_1 (by decide) ?_
    refine g_putI (k := 0) hC cr12 ui_12 tyX12_ok nmX12 ht1 ht2 (by decide) fl_X12_1 rfl rfl rfl rfl dX12_feed_2 ?_
    refine g_aload_n hC dX12_feed_5 rfl 0 rfl ?_
    refine g_lload_n hC dX12_feed_6 rfl 1 rfl ?_
    obtain ⟨q1, hq1, h⟩ := bd_of h hf
    refine g_cVV (As := [.long x1]) hC hO (c_X12_lay _ hC.2.2.2.2.2.2.1 t ht1 ht2 x1 (sI σ t 0 0) (nn_of hq1)) gc_X12_7 (xk_X12_lay _ (Nat.le_of_ble_eq_true rfl) (Nat.le_of_ble_eq_true rfl)) cr12 ht1 ht2 rfl (Nat.le_of_ble_eq_true rfl) dX12_feed_7 hq1 ?_
    refine g_aload_n hC dX12_feed_10 rfl 0 rfl ?_
    refine g_lload_n hC dX12_feed_11 rfl 2 rfl ?_
    obtain ⟨q2, hq2, h⟩ := bd_of h hf
    refine g_cVV (As := [.long x3]) hC hO (c_X12_lay _ hC.2.2.2.2.2.2.1 t ht1 ht2 x3 q1 (nn_of hq2)) gc_X12_7 (xk_X12_lay _ (Nat.le_of_ble_eq_true rfl) (Nat.le_of_ble_eq_true rfl)) cr12 ht1 ht2 rfl (Nat.le_of_ble_eq_true rfl) dX12_feed_12 hq2 ?_
    refine g_aload_n hC dX12_feed_15 rfl 0 rfl ?_
    refine g_lload hC dX12_feed_16 3 rfl ?_
    obtain ⟨q3, hq3, h⟩ := bd_of h hf
    refine g_cVV (As := [.long x5]) hC hO (c_X12_lay _ hC.2.2.2.2.2.2.1 t ht1 ht2 x5 q2 (nn_of hq3)) gc_X12_7 (xk_X12_lay _ (Nat.le_of_ble_eq_true rfl) (Nat.le_of_ble_eq_true rfl)) cr12 ht1 ht2 rfl (Nat.le_of_ble_eq_true rfl) dX12_feed_18 hq3 ?_
    refine g_aload_n hC dX12_feed_21 rfl 0 rfl ?_
    refine g_getI (k := 2) hC cr12 ui_12 ht1 ht2 (by decide) fl_X12_11 rfl rfl dX12_feed_22 ?_
    exact g_iret hC hR dX12_feed_25 rfl h
theorem xk_X12_feed (R : Room) (h1 : 1 + 1 ≤ R.frames) (h2 : 74 ≤ R.locals) : xw R yX12_feed w_X12_feed GT cX12_feed 7 (some .int) rm_X12_feed 3 := ⟨rfl, rfl, rfl, h1, h2, ⟨by decide, by decide⟩, by decide +kernel⟩
theorem c_X12_feed (E : ET) (hE : EO E) (t : Nat) (ht1 : kd t = 12) (ht2 : AL E t) (x1 : Int64) (x3 : Int64) (x5 : Int64) (σ : HS) (hn : f_X12_feed t x1 x3 x5 σ ≠ none) : CoI E yX12_feed w_X12_feed rm_X12_feed [.ref (E.2.2.1 t), .long x1, .long x3, .long x5] σ (f_X12_feed t x1 x3 x5 σ) := CoI.of (lv := [(0, .ref (E.2.2.1 t)), (1, .long x1), (3, .long x3), (5, .long x5)]) hE (plainFor_of_name (by decide)) rfl (Nat.le_of_ble_eq_true rfl) rfl (fun F hC hO hR => k_X12_feed_0 hC hO hR hn t ht1 ht2 x1 x3 x5 σ rfl)
def rm_X12_isLetter : Room := { frames := 0, cells := 0, slots := 0, locals := 0 }
set_option maxHeartbeats 4000000 in
set_option maxRecDepth 100000 in
theorem k_X12_isLetter_17 {E : ET} {F : FT} {fo : Option (Int32 × HS)} (hC : Cx E F 1 cX12_isLetter RX12 GT) (hO : Ro F rm_X12_isLetter) (hR : RI E F .boolean fo) (hf : fo ≠ none) (s0 : Int32) (σ : HS) (h : f_X12_isLetter_17 s0 σ = fo) : G E F 17 [] [.int s0] σ := by
    obtain ⟨hz, h⟩ := zr_of h hf
    exact g_iret hC hR dX12_isLetter_17 hz h
set_option maxHeartbeats 4000000 in
set_option maxRecDepth 100000 in
theorem k_X12_isLetter_16 {E : ET} {F : FT} {fo : Option (Int32 × HS)} (hC : Cx E F 1 cX12_isLetter RX12 GT) (hO : Ro F rm_X12_isLetter) (hR : RI E F .boolean fo) (hf : fo ≠ none) (σ : HS) (h : f_X12_isLetter_16 σ = fo) : G E F 16 [] [] σ := by
    refine g_iconst (v := 0) hC dX12_isLetter_16 (by decide) ?_
    exact g_sub [] rfl (k_X12_isLetter_17 hC hO hR hf 0 σ h)
set_option maxHeartbeats 4000000 in
set_option maxRecDepth 100000 in
theorem k_X12_isLetter_0 {E : ET} {F : FT} {fo : Option (Int32 × HS)} (hC : Cx E F 1 cX12_isLetter RX12 GT) (hO : Ro F rm_X12_isLetter) (hR : RI E F .boolean fo) (hf : fo ≠ none) (x0 : Int32) (σ : HS) (h : f_X12_isLetter x0 σ = fo) : G E F 0 [(0, .int x0)] [] σ := by
    refine g_iload_n hC dX12_isLetter_0 rfl 0 rfl ?_
    refine g_bipush (v := 97) hC dX12_isLetter_1 (by decide) ?_
    refine g_icmp_lt (tgt := 16) hC dX12_isLetter_3 (by decide) h (fun c3 h => ?_) (fun c3 h => ?_)
    · exact g_sub [] rfl (k_X12_isLetter_16 hC hO hR hf σ h)
    · refine g_iload_n hC dX12_isLetter_6 rfl 0 rfl ?_
      refine g_bipush (v := 122) hC dX12_isLetter_7 (by decide) ?_
      refine g_icmp_gt (tgt := 16) hC dX12_isLetter_9 (by decide) h (fun c9 h => ?_) (fun c9 h => ?_)
      · exact g_sub [] rfl (k_X12_isLetter_16 hC hO hR hf σ h)
      · refine g_iconst (v := 1) hC dX12_isLetter_12 (by decide) ?_
        refine g_goto (tgt := 17) hC dX12_isLetter_13 (by decide) ?_
        exact g_sub [] rfl (k_X12_isLetter_17 hC hO hR hf 1 σ h)
theorem xk_X12_isLetter (R : Room) (h1 : 0 + 1 ≤ R.frames) (h2 : 32 ≤ R.locals) : xw R yX12_isLetter w_X12_isLetter GT cX12_isLetter 1 (some .boolean) rm_X12_isLetter 1 := ⟨rfl, rfl, rfl, h1, h2, ⟨by decide, by decide⟩, by decide +kernel⟩
theorem c_X12_isLetter (E : ET) (hE : EO E) (x0 : Int32) (σ : HS) (hn : f_X12_isLetter x0 σ ≠ none) : CoI E yX12_isLetter w_X12_isLetter rm_X12_isLetter [.int x0] σ (f_X12_isLetter x0 σ) := CoI.of (lv := [(0, .int x0)]) hE (plainFor_of_name (by decide)) rfl (Nat.le_of_ble_eq_true rfl) rfl (fun F hC hO hR => k_X12_isLetter_0 hC hO hR hn x0 σ rfl)
def rm_X12_isDigit : Room := { frames := 0, cells := 0, slots := 0, locals := 0 }
set_option maxHeartbeats 4000000 in
set_option maxRecDepth 100000 in
theorem k_X12_isDigit_17 {E : ET} {F : FT} {fo : Option (Int32 × HS)} (hC : Cx E F 1 cX12_isDigit RX12 GT) (hO : Ro F rm_X12_isDigit) (hR : RI E F .boolean fo) (hf : fo ≠ none) (s0 : Int32) (σ : HS) (h : f_X12_isDigit_17 s0 σ = fo) : G E F 17 [] [.int s0] σ := by
    obtain ⟨hz, h⟩ := zr_of h hf
    exact g_iret hC hR dX12_isDigit_17 hz h
set_option maxHeartbeats 4000000 in
set_option maxRecDepth 100000 in
theorem k_X12_isDigit_16 {E : ET} {F : FT} {fo : Option (Int32 × HS)} (hC : Cx E F 1 cX12_isDigit RX12 GT) (hO : Ro F rm_X12_isDigit) (hR : RI E F .boolean fo) (hf : fo ≠ none) (σ : HS) (h : f_X12_isDigit_16 σ = fo) : G E F 16 [] [] σ := by
    refine g_iconst (v := 0) hC dX12_isDigit_16 (by decide) ?_
    exact g_sub [] rfl (k_X12_isDigit_17 hC hO hR hf 0 σ h)
set_option maxHeartbeats 4000000 in
set_option maxRecDepth 100000 in
theorem k_X12_isDigit_0 {E : ET} {F : FT} {fo : Option (Int32 × HS)} (hC : Cx E F 1 cX12_isDigit RX12 GT) (hO : Ro F rm_X12_isDigit) (hR : RI E F .boolean fo) (hf : fo ≠ none) (x0 : Int32) (σ : HS) (h : f_X12_isDigit x0 σ = fo) : G E F 0 [(0, .int x0)] [] σ := by
    refine g_iload_n hC dX12_isDigit_0 rfl 0 rfl ?_
    refine g_bipush (v := 48) hC dX12_isDigit_1 (by decide) ?_
    refine g_icmp_lt (tgt := 16) hC dX12_isDigit_3 (by decide) h (fun c3 h => ?_) (fun c3 h => ?_)
    · exact g_sub [] rfl (k_X12_isDigit_16 hC hO hR hf σ h)
    · refine g_iload_n hC dX12_isDigit_6 rfl 0 rfl ?_
      refine g_bipush (v := 57) hC dX12_isDigit_7 (by decide) ?_
      refine g_icmp_gt (tgt := 16) hC dX12_isDigit_9 (by decide) h (fun c9 h => ?_) (fun c9 h => ?_)
      · exact g_sub [] rfl (k_X12_isDigit_16 hC hO hR hf σ h)
      · refine g_iconst (v := 1) hC dX12_isDigit_12 (by decide) ?_
        refine g_goto (tgt := 17) hC dX12_isDigit_13 (by decide) ?_
        exact g_sub [] rfl (k_X12_isDigit_17 hC hO hR hf 1 σ h)
theorem xk_X12_isDigit (R : Room) (h1 : 0 + 1 ≤ R.frames) (h2 : 32 ≤ R.locals) : xw R yX12_isDigit w_X12_isDigit GT cX12_isDigit 1 (some .boolean) rm_X12_isDigit 1 := ⟨rfl, rfl, rfl, h1, h2, ⟨by decide, by decide⟩, by decide +kernel⟩
theorem c_X12_isDigit (E : ET) (hE : EO E) (x0 : Int32) (σ : HS) (hn : f_X12_isDigit x0 σ ≠ none) : CoI E yX12_isDigit w_X12_isDigit rm_X12_isDigit [.int x0] σ (f_X12_isDigit x0 σ) := CoI.of (lv := [(0, .int x0)]) hE (plainFor_of_name (by decide)) rfl (Nat.le_of_ble_eq_true rfl) rfl (fun F hC hO hR => k_X12_isDigit_0 hC hO hR hn x0 σ rfl)
def rm_X12_rank : Room := { frames := 1, cells := 0, slots := 0, locals := 32 }
theorem wc_X12_isLetter : Cond.code yX12_isLetter cX12_isLetter 1 (some .boolean) ∈ GT := gtr_19 _ (List.mem_of_getElem? (i := 23) rfl)
theorem gc_X12_134 : GoodIn GT (va_wsS RX12 134 yX12_isLetter w_X12_isLetter) := gi_S (gtr_19 _ (List.mem_of_getElem? (i := 21) rfl)) (gtr_19 _ (List.mem_of_getElem? (i := 22) rfl)) (gtr_1 _ (List.mem_of_getElem? (i := 5) rfl)) wc_X12_isLetter
set_option maxHeartbeats 4000000 in
set_option maxRecDepth 100000 in
theorem k_X12_rank_18 {E : ET} {F : FT} {fo : Option (Int32 × HS)} (hC : Cx E F 1 cX12_rank RX12 GT) (hO : Ro F rm_X12_rank) (hR : RI E F .int fo) (hf : fo ≠ none) (s0 : Int32) (σ : HS) (h : f_X12_rank_18 s0 σ = fo) : G E F 18 [] [.int s0] σ := by
    exact g_iret hC hR dX12_rank_18 rfl h
set_option maxHeartbeats 4000000 in
set_option maxRecDepth 100000 in
theorem k_X12_rank_0 {E : ET} {F : FT} {fo : Option (Int32 × HS)} (hC : Cx E F 1 cX12_rank RX12 GT) (hO : Ro F rm_X12_rank) (hR : RI E F .int fo) (hf : fo ≠ none) (x0 : Int32) (σ : HS) (h : f_X12_rank x0 σ = fo) : G E F 0 [(0, .int x0)] [] σ := by
    refine g_iload_n hC dX12_rank_0 rfl 0 rfl ?_
    obtain ⟨q1, hq1, h⟩ := bd_of h hf
    refine g_cSI (As := [.int x0]) hC hO (c_X12_isLetter _ hC.2.2.2.2.2.2.1 x0 σ (nn_of hq1)) gc_X12_134 (xk_X12_isLetter _ (Nat.le_of_ble_eq_true rfl) (Nat.le_of_ble_eq_true rfl)) rfl (Nat.le_of_ble_eq_true rfl) dX12_rank_1 hq1 ?_
    refine g_if_eq (tgt := 14) hC dX12_rank_4 (by decide) h (fun c4 h => ?_) (fun c4 h => ?_)
    · refine g_iload_n hC dX12_rank_14 rfl 0 rfl ?_
      refine g_bipush (v := 21) hC dX12_rank_15 (by decide) ?_
      refine g_isub hC dX12_rank_17 ?_
      exact g_sub [] rfl (k_X12_rank_18 hC hO hR hf (x0 - 21) q1.2 h)
    · refine g_iload_n hC dX12_rank_7 rfl 0 rfl ?_
      refine g_bipush (v := 96) hC dX12_rank_8 (by decide) ?_
      refine g_isub hC dX12_rank_10 ?_
      refine g_goto (tgt := 18) hC dX12_rank_11 (by decide) ?_
      exact g_sub [] rfl (k_X12_rank_18 hC hO hR hf (x0 - 96) q1.2 h)
theorem xk_X12_rank (R : Room) (h1 : 1 + 1 ≤ R.frames) (h2 : 64 ≤ R.locals) : xw R yX12_rank w_X12_rank GT cX12_rank 1 (some .int) rm_X12_rank 1 := ⟨rfl, rfl, rfl, h1, h2, ⟨by decide, by decide⟩, by decide +kernel⟩
theorem c_X12_rank (E : ET) (hE : EO E) (x0 : Int32) (σ : HS) (hn : f_X12_rank x0 σ ≠ none) : CoI E yX12_rank w_X12_rank rm_X12_rank [.int x0] σ (f_X12_rank x0 σ) := CoI.of (lv := [(0, .int x0)]) hE (plainFor_of_name (by decide)) rfl (Nat.le_of_ble_eq_true rfl) rfl (fun F hC hO hR => k_X12_rank_0 hC hO hR hn x0 σ rfl)
def rm_X12_isSignOf : Room := { frames := 0, cells := 0, slots := 0, locals := 0 }
set_option maxHeartbeats 4000000 in
set_option maxRecDepth 100000 in
theorem k_X12_isSignOf_11 {E : ET} {F : FT} {fo : Option (Int32 × HS)} (hC : Cx E F 1 cX12_isSignOf RX12 GT) (hO : Ro F rm_X12_isSignOf) (hR : RI E F .boolean fo) (hf : fo ≠ none) (s0 : Int32) (σ : HS) (h : f_X12_isSignOf_11 s0 σ = fo) : G E F 11 [] [.int s0] σ := by
    obtain ⟨hz, h⟩ := zr_of h hf
    exact g_iret hC hR dX12_isSignOf_11 hz h
set_option maxHeartbeats 4000000 in
set_option maxRecDepth 100000 in
theorem k_X12_isSignOf_0 {E : ET} {F : FT} {fo : Option (Int32 × HS)} (hC : Cx E F 1 cX12_isSignOf RX12 GT) (hO : Ro F rm_X12_isSignOf) (hR : RI E F .boolean fo) (hf : fo ≠ none) (x0 : Int32) (σ : HS) (h : f_X12_isSignOf x0 σ = fo) : G E F 0 [(0, .int x0)] [] σ := by
    refine g_iload_n hC dX12_isSignOf_0 rfl 0 rfl ?_
    refine g_bipush (v := 59) hC dX12_isSignOf_1 (by decide) ?_
    refine g_icmp_ne (tgt := 10) hC dX12_isSignOf_3 (by decide) h (fun c3 h => ?_) (fun c3 h => ?_)
    · refine g_iconst (v := 0) hC dX12_isSignOf_10 (by decide) ?_
      exact g_sub [] rfl (k_X12_isSignOf_11 hC hO hR hf 0 σ h)
    · refine g_iconst (v := 1) hC dX12_isSignOf_6 (by decide) ?_
      refine g_goto (tgt := 11) hC dX12_isSignOf_7 (by decide) ?_
      exact g_sub [] rfl (k_X12_isSignOf_11 hC hO hR hf 1 σ h)
theorem xk_X12_isSignOf (R : Room) (h1 : 0 + 1 ≤ R.frames) (h2 : 32 ≤ R.locals) : xw R yX12_isSignOf w_X12_isSignOf GT cX12_isSignOf 1 (some .boolean) rm_X12_isSignOf 1 := ⟨rfl, rfl, rfl, h1, h2, ⟨by decide, by decide⟩, by decide +kernel⟩
theorem c_X12_isSignOf (E : ET) (hE : EO E) (x0 : Int32) (σ : HS) (hn : f_X12_isSignOf x0 σ ≠ none) : CoI E yX12_isSignOf w_X12_isSignOf rm_X12_isSignOf [.int x0] σ (f_X12_isSignOf x0 σ) := CoI.of (lv := [(0, .int x0)]) hE (plainFor_of_name (by decide)) rfl (Nat.le_of_ble_eq_true rfl) rfl (fun F hC hO hR => k_X12_isSignOf_0 hC hO hR hn x0 σ rfl)
def rm_X12_cutAll : Room := { frames := 2, cells := 0, slots := 0, locals := 64 }
theorem fl_X12_138 : Cond.fieldLink RX12 138 "EveryMeasureModel" (TX12 3).2.1 (TX12 3).2.2.1 ∈ GT := gtr_19 _ (List.mem_of_getElem? (i := 17) rfl)
theorem fl_X12_24 : Cond.fieldLink RX12 24 "EveryMeasureModel" (TX12 4).2.1 (TX12 4).2.2.1 ∈ GT := gtr_8 _ (List.mem_of_getElem? (i := 17) rfl)
theorem fl_X12_27 : Cond.fieldLink RX12 27 "EveryMeasureModel" (TX12 5).2.1 (TX12 5).2.2.1 ∈ GT := gtr_8 _ (List.mem_of_getElem? (i := 18) rfl)
theorem fl_X12_157 : Cond.fieldLink RX12 157 "EveryMeasureModel" (TX12 7).2.1 (TX12 7).2.2.1 ∈ GT := gtr_19 _ (List.mem_of_getElem? (i := 12) rfl)
theorem fl_X12_160 : Cond.fieldLink RX12 160 "EveryMeasureModel" (TX12 8).2.1 (TX12 8).2.2.1 ∈ GT := gtr_19 _ (List.mem_of_getElem? (i := 11) rfl)
theorem wc_X12_isDigit : Cond.code yX12_isDigit cX12_isDigit 1 (some .boolean) ∈ GT := gtr_20 _ (List.mem_of_getElem? (i := 5) rfl)
theorem gc_X12_147 : GoodIn GT (va_wsS RX12 147 yX12_isDigit w_X12_isDigit) := gi_S (gtr_20 _ (List.mem_of_getElem? (i := 3) rfl)) (gtr_20 _ (List.mem_of_getElem? (i := 4) rfl)) (gtr_1 _ (List.mem_of_getElem? (i := 5) rfl)) wc_X12_isDigit
theorem wc_X12_isSignOf : Cond.code yX12_isSignOf cX12_isSignOf 1 (some .boolean) ∈ GT := gtr_20 _ (List.mem_of_getElem? (i := 8) rfl)
theorem gc_X12_154 : GoodIn GT (va_wsS RX12 154 yX12_isSignOf w_X12_isSignOf) := gi_S (gtr_20 _ (List.mem_of_getElem? (i := 6) rfl)) (gtr_20 _ (List.mem_of_getElem? (i := 7) rfl)) (gtr_1 _ (List.mem_of_getElem? (i := 5) rfl)) wc_X12_isSignOf
theorem fl_X12_30 : Cond.fieldLink RX12 30 "EveryMeasureModel" (TX12 6).2.1 (TX12 6).2.2.1 ∈ GT := gtr_8 _ (List.mem_of_getElem? (i := 19) rfl)
theorem cl_X12_150 : Cond.constantLong RX12 150 (10) ∈ GT := gtr_19 _ (List.mem_of_getElem? (i := 19) rfl)
theorem cl_X12_152 : Cond.constantLong RX12 152 (48) ∈ GT := gtr_19 _ (List.mem_of_getElem? (i := 20) rfl)
theorem cl_X12_141 : Cond.constantLong RX12 141 (37) ∈ GT := gtr_19 _ (List.mem_of_getElem? (i := 18) rfl)
theorem wc_X12_rank : Cond.code yX12_rank cX12_rank 1 (some .int) ∈ GT := gtr_20 _ (List.mem_of_getElem? (i := 2) rfl)
theorem gc_X12_143 : GoodIn GT (va_wsS RX12 143 yX12_rank w_X12_rank) := gi_S (gtr_20 _ (List.mem_of_getElem? (i := 0) rfl)) (gtr_20 _ (List.mem_of_getElem? (i := 1) rfl)) (gtr_1 _ (List.mem_of_getElem? (i := 5) rfl)) wc_X12_rank
set_option maxHeartbeats 4000000 in
set_option maxRecDepth 100000 in
theorem k_X12_cutAll_44 {E : ET} {F : FT} {fo : Option HS} (hC : Cx E F 7 cX12_cutAll RX12 GT) (hO : Ro F rm_X12_cutAll) (hR : RV E F fo) (hf : fo ≠ none) (t : Nat) (ht1 : kd t = 12) (ht2 : AL E t) (x1 : Int32) (x2 : Int32) (r17 : Int32 → Int32 → HS → Option HS) (h17 : ∀ (x1 : Int32) (x2 : Int32) (σ : HS), r17 x1 x2 σ = fo → G E F 17 [(0, .ref (E.2.2.1 t)), (1, .int x1), (2, .int x2)] [] σ) (σ : HS) (h : f_X12_cutAll_44 r17 t x1 x2 σ = fo) : G E F 44 [(0, .ref (E.2.2.1 t)), (1, .int x1), (2, .int x2)] [] σ := by
    refine g_iinc (v := x2 + 1) (lv' := [(2, .int (x2 + 1)), (0, .ref (E.2.2.1 t)), (1, .int x1)]) hC dX12_cutAll_44 2 rfl rfl (by decide) rfl ?_
    refine g_goto (tgt := 17) hC dX12_cutAll_47 (by decide) ?_
    exact g_sub [1, 2, 0] rfl (h17 x1 (x2 + 1) σ h)
set_option maxHeartbeats 4000000 in
set_option maxRecDepth 100000 in
theorem k_X12_cutAll_265 {E : ET} {F : FT} {fo : Option HS} (hC : Cx E F 7 cX12_cutAll RX12 GT) (hO : Ro F rm_X12_cutAll) (hR : RV E F fo) (hf : fo ≠ none) (t : Nat) (ht1 : kd t = 12) (ht2 : AL E t) (x1 : Int32) (x2 : Int32) (x5 : Int64) (r17 : Int32 → Int32 → HS → Option HS) (h17 : ∀ (x1 : Int32) (x2 : Int32) (σ : HS), r17 x1 x2 σ = fo → G E F 17 [(0, .ref (E.2.2.1 t)), (1, .int x1), (2, .int x2)] [] σ) (σ : HS) (h : f_X12_cutAll_265 r17 t x1 x2 x5 σ = fo) : G E F 265 [(0, .ref (E.2.2.1 t)), (1, .int x1), (2, .int x2), (5, .long x5)] [] σ := by
    refine g_aload_n hC dX12_cutAll_265 rfl 0 rfl ?_
    refine g_getR (cj := 15) (k := 6) hC cr12 ui_12 ht1 ht2 (by decide) fl_X12_30 rfl rfl dX12_cutAll_266 h hf (fun a1 ea1 ka1 na1 h => ?_)
    refine g_iload_n hC dX12_cutAll_269 rfl 1 rfl ?_
    refine g_lload hC dX12_cutAll_270 3 rfl ?_
    refine g_last hC ka1 na1 dX12_cutAll_272 h hf (fun h => ?_)
    refine g_iinc (v := x1 + 1) (lv' := [(1, .int (x1 + 1)), (0, .ref (E.2.2.1 t)), (2, .int x2), (5, .long x5)]) hC dX12_cutAll_273 1 rfl rfl (by decide) rfl ?_
    refine g_goto (tgt := 17) hC dX12_cutAll_276 (by decide) ?_
    exact g_sub [1, 0, 2] rfl (h17 (x1 + 1) x2 (sJ σ a1 x1.toNatClampNeg x5) h)
set_option maxHeartbeats 4000000 in
set_option maxRecDepth 100000 in
theorem k_X12_cutAll_261 {E : ET} {F : FT} {fo : Option HS} (hC : Cx E F 7 cX12_cutAll RX12 GT) (hO : Ro F rm_X12_cutAll) (hR : RV E F fo) (hf : fo ≠ none) (t : Nat) (ht1 : kd t = 12) (ht2 : AL E t) (x1 : Int32) (x2 : Int32) (x5 : Int64) (s0 : Int32) (s1 : Int32) (s2 : Nat) (hs2a : kd s2 = 14) (hs2b : AL E s2) (r17 : Int32 → Int32 → HS → Option HS) (h17 : ∀ (x1 : Int32) (x2 : Int32) (σ : HS), r17 x1 x2 σ = fo → G E F 17 [(0, .ref (E.2.2.1 t)), (1, .int x1), (2, .int x2)] [] σ) (σ : HS) (h : f_X12_cutAll_261 r17 t x1 x2 x5 s0 s1 s2 σ = fo) : G E F 261 [(0, .ref (E.2.2.1 t)), (1, .int x1), (2, .int x2), (5, .long x5)] [.int s0, .int s1, .ref (E.2.2.1 s2)] σ := by
    refine g_iast hC hs2a hs2b dX12_cutAll_261 h hf (fun h => ?_)
    refine g_iinc (v := x2 + 1) (lv' := [(2, .int (x2 + 1)), (0, .ref (E.2.2.1 t)), (1, .int x1), (5, .long x5)]) hC dX12_cutAll_262 2 rfl rfl (by decide) rfl ?_
    exact g_sub [1, 2, 0, 3] rfl (k_X12_cutAll_265 hC hO hR hf t ht1 ht2 x1 (x2 + 1) x5 r17 h17 (sI σ s2 s1.toNatClampNeg s0) h)
set_option maxHeartbeats 4000000 in
set_option maxRecDepth 100000 in
theorem k_X12_cutAll_236 {E : ET} {F : FT} {fo : Option HS} (hC : Cx E F 7 cX12_cutAll RX12 GT) (hO : Ro F rm_X12_cutAll) (hR : RV E F fo) (hf : fo ≠ none) (t : Nat) (ht1 : kd t = 12) (ht2 : AL E t) (x1 : Int32) (x2 : Int32) (x5 : Int64) (s0 : Int32) (s1 : Int32) (s2 : Nat) (hs2a : kd s2 = 14) (hs2b : AL E s2) (r17 : Int32 → Int32 → HS → Option HS) (h17 : ∀ (x1 : Int32) (x2 : Int32) (σ : HS), r17 x1 x2 σ = fo → G E F 17 [(0, .ref (E.2.2.1 t)), (1, .int x1), (2, .int x2)] [] σ) (σ : HS) (h : f_X12_cutAll_236 r17 t x1 x2 x5 s0 s1 s2 σ = fo) : G E F 236 [(0, .ref (E.2.2.1 t)), (1, .int x1), (2, .int x2), (5, .long x5)] [.int s0, .int s1, .ref (E.2.2.1 s2)] σ := by
    refine g_iast hC hs2a hs2b dX12_cutAll_236 h hf (fun h => ?_)
    refine g_goto (tgt := 265) hC dX12_cutAll_237 (by decide) ?_
    exact g_sub [0, 1, 2, 3] rfl (k_X12_cutAll_265 hC hO hR hf t ht1 ht2 x1 x2 x5 r17 h17 (sI σ s2 s1.toNatClampNeg s0) h)
set_option maxHeartbeats 4000000 in
set_option maxRecDepth 100000 in
theorem k_X12_cutAll_218 {E : ET} {F : FT} {fo : Option HS} (hC : Cx E F 7 cX12_cutAll RX12 GT) (hO : Ro F rm_X12_cutAll) (hR : RV E F fo) (hf : fo ≠ none) (t : Nat) (ht1 : kd t = 12) (ht2 : AL E t) (x1 : Int32) (x2 : Int32) (x4 : Int32) (x5 : Int64) (r17 : Int32 → Int32 → HS → Option HS) (h17 : ∀ (x1 : Int32) (x2 : Int32) (σ : HS), r17 x1 x2 σ = fo → G E F 17 [(0, .ref (E.2.2.1 t)), (1, .int x1), (2, .int x2)] [] σ) (σ : HS) (h : f_X12_cutAll_218 r17 t x1 x2 x4 x5 σ = fo) : G E F 218 [(0, .ref (E.2.2.1 t)), (1, .int x1), (2, .int x2), (4, .int x4), (5, .long x5)] [] σ := by
    refine g_aload_n hC dX12_cutAll_218 rfl 0 rfl ?_
    refine g_getR (cj := 14) (k := 4) hC cr12 ui_12 ht1 ht2 (by decide) fl_X12_24 rfl rfl dX12_cutAll_219 h hf (fun a1 ea1 ka1 na1 h => ?_)
    refine g_iload_n hC dX12_cutAll_222 rfl 1 rfl ?_
    refine g_iload_n hC dX12_cutAll_223 rfl 2 rfl ?_
    refine g_iload hC dX12_cutAll_224 3 rfl ?_
    refine g_isub hC dX12_cutAll_226 ?_
    refine g_iconst (v := 3) hC dX12_cutAll_227 (by decide) ?_
    refine g_icmp_le (tgt := 235) hC dX12_cutAll_228 (by decide) h (fun c228 h => ?_) (fun c228 h => ?_)
    · refine g_iconst (v := 2) hC dX12_cutAll_235 (by decide) ?_
      exact g_sub [0, 1, 2, 4] rfl (k_X12_cutAll_236 hC hO hR hf t ht1 ht2 x1 x2 x5 2 x1 a1 ka1 na1 r17 h17 σ h)
    · refine g_iconst (v := 4) hC dX12_cutAll_231 (by decide) ?_
      refine g_goto (tgt := 236) hC dX12_cutAll_232 (by decide) ?_
      exact g_sub [0, 1, 2, 4] rfl (k_X12_cutAll_236 hC hO hR hf t ht1 ht2 x1 x2 x5 4 x1 a1 ka1 na1 r17 h17 σ h)
set_option maxHeartbeats 4000000 in
set_option maxRecDepth 100000 in
theorem k_X12_cutAll_210 {E : ET} {F : FT} {fo : Option HS} (hC : Cx E F 7 cX12_cutAll RX12 GT) (hO : Ro F rm_X12_cutAll) (hR : RV E F fo) (hf : fo ≠ none) (t : Nat) (ht1 : kd t = 12) (ht2 : AL E t) (x1 : Int32) (x2 : Int32) (x4 : Int32) (s0 : Int64) (r17 : Int32 → Int32 → HS → Option HS) (h17 : ∀ (x1 : Int32) (x2 : Int32) (σ : HS), r17 x1 x2 σ = fo → G E F 17 [(0, .ref (E.2.2.1 t)), (1, .int x1), (2, .int x2)] [] σ) (r159 : Int32 → Int64 → HS → Option HS) (h159 : ∀ (x2 : Int32) (x5 : Int64) (σ : HS), r159 x2 x5 σ = fo → G E F 159 [(0, .ref (E.2.2.1 t)), (1, .int x1), (2, .int x2), (4, .int x4), (5, .long x5)] [] σ) (σ : HS) (h : f_X12_cutAll_210 r17 r159 t x1 x2 x4 s0 σ = fo) : G E F 210 [(0, .ref (E.2.2.1 t)), (1, .int x1), (2, .int x2), (4, .int x4)] [.long s0] σ := by
    refine g_lstore (lv' := [(5, .long s0), (0, .ref (E.2.2.1 t)), (1, .int x1), (2, .int x2), (4, .int x4)]) hC dX12_cutAll_210 (by decide) rfl ?_
    refine g_iinc (v := x2 + 1) (lv' := [(2, .int (x2 + 1)), (5, .long s0), (0, .ref (E.2.2.1 t)), (1, .int x1), (4, .int x4)]) hC dX12_cutAll_212 3 rfl rfl (by decide) rfl ?_
    refine g_goto (tgt := 159) hC dX12_cutAll_215 (by decide) ?_
    exact g_sub [2, 3, 0, 4, 1] rfl (h159 (x2 + 1) s0 σ h)
set_option maxHeartbeats 4000000 in
set_option maxRecDepth 100000 in
theorem k_X12_cutAll_159 {E : ET} {F : FT} {fo : Option HS} (hC : Cx E F 7 cX12_cutAll RX12 GT) (hO : Ro F rm_X12_cutAll) (hR : RV E F fo) (hf : fo ≠ none) (t : Nat) (ht1 : kd t = 12) (ht2 : AL E t) (x1 : Int32) (x4 : Int32) (r17 : Int32 → Int32 → HS → Option HS) (h17 : ∀ (x1 : Int32) (x2 : Int32) (σ : HS), r17 x1 x2 σ = fo → G E F 17 [(0, .ref (E.2.2.1 t)), (1, .int x1), (2, .int x2)] [] σ) : ∀ (n : Nat) (x2 : Int32) (x5 : Int64) (σ : HS), f_X12_cutAll_159 t x1 x4 r17 n x2 x5 σ = fo → G E F 159 [(0, .ref (E.2.2.1 t)), (1, .int x1), (2, .int x2), (4, .int x4), (5, .long x5)] [] σ := by
  intro n
  induction n with
  | zero =>
    intro x2 x5 σ h
    exact absurd (h.symm.trans rfl) hf
  | succ n ih =>
    intro x2 x5 σ h
    refine g_iload_n hC dX12_cutAll_159 rfl 2 rfl ?_
    refine g_aload_n hC dX12_cutAll_160 rfl 0 rfl ?_
    refine g_getI (k := 3) hC cr12 ui_12 ht1 ht2 (by decide) fl_X12_138 rfl rfl dX12_cutAll_161 ?_
    refine g_icmp_ge (tgt := 218) hC dX12_cutAll_164 (by decide) h (fun c164 h => ?_) (fun c164 h => ?_)
    · exact g_sub [0, 1, 2, 3, 4] rfl (k_X12_cutAll_218 hC hO hR hf t ht1 ht2 x1 x2 x4 x5 r17 h17 σ h)
    · refine g_aload_n hC dX12_cutAll_167 rfl 0 rfl ?_
      refine g_getR (cj := 14) (k := 1) hC cr12 ui_12 ht1 ht2 (by decide) fl_X12_14 rfl rfl dX12_cutAll_168 h hf (fun a1 ea1 ka1 na1 h => ?_)
      refine g_iload_n hC dX12_cutAll_171 rfl 2 rfl ?_
      refine g_iald hC ka1 na1 dX12_cutAll_172 h hf (fun h => ?_)
      obtain ⟨q2, hq2, h⟩ := bd_of h hf
      refine g_cSI (As := [.int (σ.1 a1 x2.toNatClampNeg)]) hC hO (c_X12_isDigit _ hC.2.2.2.2.2.2.1 (σ.1 a1 x2.toNatClampNeg) σ (nn_of hq2)) gc_X12_147 (xk_X12_isDigit _ (Nat.le_of_ble_eq_true rfl) (Nat.le_of_ble_eq_true rfl)) rfl (Nat.le_of_ble_eq_true rfl) dX12_cutAll_173 hq2 ?_
      refine g_if_eq (tgt := 218) hC dX12_cutAll_176 (by decide) h (fun c176 h => ?_) (fun c176 h => ?_)
      · exact g_sub [0, 1, 2, 3, 4] rfl (k_X12_cutAll_218 hC hO hR hf t ht1 ht2 x1 x2 x4 x5 r17 h17 q2.2 h)
      · refine g_iload_n hC dX12_cutAll_179 rfl 2 rfl ?_
        refine g_iload hC dX12_cutAll_180 3 rfl ?_
        refine g_isub hC dX12_cutAll_182 ?_
        refine g_iconst (v := 3) hC dX12_cutAll_183 (by decide) ?_
        refine g_icmp_ge (tgt := 208) hC dX12_cutAll_184 (by decide) h (fun c184 h => ?_) (fun c184 h => ?_)
        · refine g_lload hC dX12_cutAll_208 4 rfl ?_
          exact g_sub [0, 1, 2, 3] rfl (k_X12_cutAll_210 hC hO hR hf t ht1 ht2 x1 x2 x4 x5 r17 h17 (f_X12_cutAll_159 t x1 x4 r17 n) ih q2.2 h)
        · refine g_ldc2 (v := 10) hC cl_X12_150 dX12_cutAll_187 ?_
          refine g_lload hC dX12_cutAll_190 4 rfl ?_
          refine g_lmul hC dX12_cutAll_192 ?_
          refine g_aload_n hC dX12_cutAll_193 rfl 0 rfl ?_
          refine g_getR (cj := 14) (k := 1) hC cr12 ui_12 ht1 ht2 (by decide) fl_X12_14 rfl rfl dX12_cutAll_194 h hf (fun a3 ea3 ka3 na3 h => ?_)
          refine g_iload_n hC dX12_cutAll_197 rfl 2 rfl ?_
          refine g_iald hC ka3 na3 dX12_cutAll_198 h hf (fun h => ?_)
          refine g_i2l hC dX12_cutAll_199 ?_
          refine g_ladd hC dX12_cutAll_200 ?_
          refine g_ldc2 (v := 48) hC cl_X12_152 dX12_cutAll_201 ?_
          refine g_lsub hC dX12_cutAll_204 ?_
          refine g_goto (tgt := 210) hC dX12_cutAll_205 (by decide) ?_
          exact g_sub [0, 1, 2, 3] rfl (k_X12_cutAll_210 hC hO hR hf t ht1 ht2 x1 x2 x4 ((((10 : Int64) * x5) + ((q2.2.1 a3 x2.toNatClampNeg).toInt64)) - 48) r17 h17 (f_X12_cutAll_159 t x1 x4 r17 n) ih q2.2 h)
set_option maxHeartbeats 4000000 in
set_option maxRecDepth 100000 in
theorem k_X12_cutAll_148 {E : ET} {F : FT} {fo : Option HS} (hC : Cx E F 7 cX12_cutAll RX12 GT) (hO : Ro F rm_X12_cutAll) (hR : RV E F fo) (hf : fo ≠ none) (t : Nat) (ht1 : kd t = 12) (ht2 : AL E t) (x1 : Int32) (x2 : Int32) (x5 : Int64) (s0 : Int32) (s1 : Int32) (s2 : Nat) (hs2a : kd s2 = 14) (hs2b : AL E s2) (r17 : Int32 → Int32 → HS → Option HS) (h17 : ∀ (x1 : Int32) (x2 : Int32) (σ : HS), r17 x1 x2 σ = fo → G E F 17 [(0, .ref (E.2.2.1 t)), (1, .int x1), (2, .int x2)] [] σ) (σ : HS) (h : f_X12_cutAll_148 r17 t x1 x2 x5 s0 s1 s2 σ = fo) : G E F 148 [(0, .ref (E.2.2.1 t)), (1, .int x1), (2, .int x2), (5, .long x5)] [.int s0, .int s1, .ref (E.2.2.1 s2)] σ := by
    refine g_iast hC hs2a hs2b dX12_cutAll_148 h hf (fun h => ?_)
    refine g_goto (tgt := 265) hC dX12_cutAll_149 (by decide) ?_
    exact g_sub [0, 1, 2, 3] rfl (k_X12_cutAll_265 hC hO hR hf t ht1 ht2 x1 x2 x5 r17 h17 (sI σ s2 s1.toNatClampNeg s0) h)
set_option maxHeartbeats 4000000 in
set_option maxRecDepth 100000 in
theorem k_X12_cutAll_129 {E : ET} {F : FT} {fo : Option HS} (hC : Cx E F 7 cX12_cutAll RX12 GT) (hO : Ro F rm_X12_cutAll) (hR : RV E F fo) (hf : fo ≠ none) (t : Nat) (ht1 : kd t = 12) (ht2 : AL E t) (x1 : Int32) (x2 : Int32) (x4 : Int32) (x5 : Int64) (r17 : Int32 → Int32 → HS → Option HS) (h17 : ∀ (x1 : Int32) (x2 : Int32) (σ : HS), r17 x1 x2 σ = fo → G E F 17 [(0, .ref (E.2.2.1 t)), (1, .int x1), (2, .int x2)] [] σ) (σ : HS) (h : f_X12_cutAll_129 r17 t x1 x2 x4 x5 σ = fo) : G E F 129 [(0, .ref (E.2.2.1 t)), (1, .int x1), (2, .int x2), (4, .int x4), (5, .long x5)] [] σ := by
    refine g_aload_n hC dX12_cutAll_129 rfl 0 rfl ?_
    refine g_getR (cj := 14) (k := 4) hC cr12 ui_12 ht1 ht2 (by decide) fl_X12_24 rfl rfl dX12_cutAll_130 h hf (fun a1 ea1 ka1 na1 h => ?_)
    refine g_iload_n hC dX12_cutAll_133 rfl 1 rfl ?_
    refine g_iload_n hC dX12_cutAll_134 rfl 2 rfl ?_
    refine g_iload hC dX12_cutAll_135 3 rfl ?_
    refine g_isub hC dX12_cutAll_137 ?_
    refine g_bipush (v := 8) hC dX12_cutAll_138 (by decide) ?_
    refine g_icmp_le (tgt := 147) hC dX12_cutAll_140 (by decide) h (fun c140 h => ?_) (fun c140 h => ?_)
    · refine g_iconst (v := 1) hC dX12_cutAll_147 (by decide) ?_
      exact g_sub [0, 1, 2, 4] rfl (k_X12_cutAll_148 hC hO hR hf t ht1 ht2 x1 x2 x5 1 x1 a1 ka1 na1 r17 h17 σ h)
    · refine g_iconst (v := 4) hC dX12_cutAll_143 (by decide) ?_
      refine g_goto (tgt := 148) hC dX12_cutAll_144 (by decide) ?_
      exact g_sub [0, 1, 2, 4] rfl (k_X12_cutAll_148 hC hO hR hf t ht1 ht2 x1 x2 x5 4 x1 a1 ka1 na1 r17 h17 σ h)
set_option maxHeartbeats 4000000 in
set_option maxRecDepth 100000 in
theorem k_X12_cutAll_121 {E : ET} {F : FT} {fo : Option HS} (hC : Cx E F 7 cX12_cutAll RX12 GT) (hO : Ro F rm_X12_cutAll) (hR : RV E F fo) (hf : fo ≠ none) (t : Nat) (ht1 : kd t = 12) (ht2 : AL E t) (x1 : Int32) (x2 : Int32) (x4 : Int32) (s0 : Int64) (r17 : Int32 → Int32 → HS → Option HS) (h17 : ∀ (x1 : Int32) (x2 : Int32) (σ : HS), r17 x1 x2 σ = fo → G E F 17 [(0, .ref (E.2.2.1 t)), (1, .int x1), (2, .int x2)] [] σ) (r70 : Int32 → Int64 → HS → Option HS) (h70 : ∀ (x2 : Int32) (x5 : Int64) (σ : HS), r70 x2 x5 σ = fo → G E F 70 [(0, .ref (E.2.2.1 t)), (1, .int x1), (2, .int x2), (4, .int x4), (5, .long x5)] [] σ) (σ : HS) (h : f_X12_cutAll_121 r17 r70 t x1 x2 x4 s0 σ = fo) : G E F 121 [(0, .ref (E.2.2.1 t)), (1, .int x1), (2, .int x2), (4, .int x4)] [.long s0] σ := by
    refine g_lstore (lv' := [(5, .long s0), (0, .ref (E.2.2.1 t)), (1, .int x1), (2, .int x2), (4, .int x4)]) hC dX12_cutAll_121 (by decide) rfl ?_
    refine g_iinc (v := x2 + 1) (lv' := [(2, .int (x2 + 1)), (5, .long s0), (0, .ref (E.2.2.1 t)), (1, .int x1), (4, .int x4)]) hC dX12_cutAll_123 3 rfl rfl (by decide) rfl ?_
    refine g_goto (tgt := 70) hC dX12_cutAll_126 (by decide) ?_
    exact g_sub [2, 3, 0, 4, 1] rfl (h70 (x2 + 1) s0 σ h)
set_option maxHeartbeats 4000000 in
set_option maxRecDepth 100000 in
theorem k_X12_cutAll_70 {E : ET} {F : FT} {fo : Option HS} (hC : Cx E F 7 cX12_cutAll RX12 GT) (hO : Ro F rm_X12_cutAll) (hR : RV E F fo) (hf : fo ≠ none) (t : Nat) (ht1 : kd t = 12) (ht2 : AL E t) (x1 : Int32) (x4 : Int32) (r17 : Int32 → Int32 → HS → Option HS) (h17 : ∀ (x1 : Int32) (x2 : Int32) (σ : HS), r17 x1 x2 σ = fo → G E F 17 [(0, .ref (E.2.2.1 t)), (1, .int x1), (2, .int x2)] [] σ) : ∀ (n : Nat) (x2 : Int32) (x5 : Int64) (σ : HS), f_X12_cutAll_70 t x1 x4 r17 n x2 x5 σ = fo → G E F 70 [(0, .ref (E.2.2.1 t)), (1, .int x1), (2, .int x2), (4, .int x4), (5, .long x5)] [] σ := by
  intro n
  induction n with
  | zero =>
    intro x2 x5 σ h
    exact absurd (h.symm.trans rfl) hf
  | succ n ih =>
    intro x2 x5 σ h
    refine g_iload_n hC dX12_cutAll_70 rfl 2 rfl ?_
    refine g_aload_n hC dX12_cutAll_71 rfl 0 rfl ?_
    refine g_getI (k := 3) hC cr12 ui_12 ht1 ht2 (by decide) fl_X12_138 rfl rfl dX12_cutAll_72 ?_
    refine g_icmp_ge (tgt := 129) hC dX12_cutAll_75 (by decide) h (fun c75 h => ?_) (fun c75 h => ?_)
    · exact g_sub [0, 1, 2, 3, 4] rfl (k_X12_cutAll_129 hC hO hR hf t ht1 ht2 x1 x2 x4 x5 r17 h17 σ h)
    · refine g_aload_n hC dX12_cutAll_78 rfl 0 rfl ?_
      refine g_getR (cj := 14) (k := 1) hC cr12 ui_12 ht1 ht2 (by decide) fl_X12_14 rfl rfl dX12_cutAll_79 h hf (fun a1 ea1 ka1 na1 h => ?_)
      refine g_iload_n hC dX12_cutAll_82 rfl 2 rfl ?_
      refine g_iald hC ka1 na1 dX12_cutAll_83 h hf (fun h => ?_)
      obtain ⟨q2, hq2, h⟩ := bd_of h hf
      refine g_cSI (As := [.int (σ.1 a1 x2.toNatClampNeg)]) hC hO (c_X12_isLetter _ hC.2.2.2.2.2.2.1 (σ.1 a1 x2.toNatClampNeg) σ (nn_of hq2)) gc_X12_134 (xk_X12_isLetter _ (Nat.le_of_ble_eq_true rfl) (Nat.le_of_ble_eq_true rfl)) rfl (Nat.le_of_ble_eq_true rfl) dX12_cutAll_84 hq2 ?_
      refine g_if_eq (tgt := 129) hC dX12_cutAll_87 (by decide) h (fun c87 h => ?_) (fun c87 h => ?_)
      · exact g_sub [0, 1, 2, 3, 4] rfl (k_X12_cutAll_129 hC hO hR hf t ht1 ht2 x1 x2 x4 x5 r17 h17 q2.2 h)
      · refine g_iload_n hC dX12_cutAll_90 rfl 2 rfl ?_
        refine g_iload hC dX12_cutAll_91 3 rfl ?_
        refine g_isub hC dX12_cutAll_93 ?_
        refine g_bipush (v := 8) hC dX12_cutAll_94 (by decide) ?_
        refine g_icmp_ge (tgt := 119) hC dX12_cutAll_96 (by decide) h (fun c96 h => ?_) (fun c96 h => ?_)
        · refine g_lload hC dX12_cutAll_119 4 rfl ?_
          exact g_sub [0, 1, 2, 3] rfl (k_X12_cutAll_121 hC hO hR hf t ht1 ht2 x1 x2 x4 x5 r17 h17 (f_X12_cutAll_70 t x1 x4 r17 n) ih q2.2 h)
        · refine g_ldc2 (v := 37) hC cl_X12_141 dX12_cutAll_99 ?_
          refine g_lload hC dX12_cutAll_102 4 rfl ?_
          refine g_lmul hC dX12_cutAll_104 ?_
          refine g_aload_n hC dX12_cutAll_105 rfl 0 rfl ?_
          refine g_getR (cj := 14) (k := 1) hC cr12 ui_12 ht1 ht2 (by decide) fl_X12_14 rfl rfl dX12_cutAll_106 h hf (fun a3 ea3 ka3 na3 h => ?_)
          refine g_iload_n hC dX12_cutAll_109 rfl 2 rfl ?_
          refine g_iald hC ka3 na3 dX12_cutAll_110 h hf (fun h => ?_)
          obtain ⟨q4, hq4, h⟩ := bd_of h hf
          refine g_cSI (As := [.int (q2.2.1 a3 x2.toNatClampNeg)]) hC hO (c_X12_rank _ hC.2.2.2.2.2.2.1 (q2.2.1 a3 x2.toNatClampNeg) q2.2 (nn_of hq4)) gc_X12_143 (xk_X12_rank _ (Nat.le_of_ble_eq_true rfl) (Nat.le_of_ble_eq_true rfl)) rfl (Nat.le_of_ble_eq_true rfl) dX12_cutAll_111 hq4 ?_
          refine g_i2l hC dX12_cutAll_114 ?_
          refine g_ladd hC dX12_cutAll_115 ?_
          refine g_goto (tgt := 121) hC dX12_cutAll_116 (by decide) ?_
          exact g_sub [0, 1, 2, 3] rfl (k_X12_cutAll_121 hC hO hR hf t ht1 ht2 x1 x2 x4 (((37 : Int64) * x5) + q4.1.toInt64) r17 h17 (f_X12_cutAll_70 t x1 x4 r17 n) ih q4.2 h)
set_option maxHeartbeats 4000000 in
set_option maxRecDepth 100000 in
theorem k_X12_cutAll_17 {E : ET} {F : FT} {fo : Option HS} (hC : Cx E F 7 cX12_cutAll RX12 GT) (hO : Ro F rm_X12_cutAll) (hR : RV E F fo) (hf : fo ≠ none) (t : Nat) (ht1 : kd t = 12) (ht2 : AL E t) : ∀ (n : Nat) (x1 : Int32) (x2 : Int32) (σ : HS), f_X12_cutAll_17 t n x1 x2 σ = fo → G E F 17 [(0, .ref (E.2.2.1 t)), (1, .int x1), (2, .int x2)] [] σ := by
  intro n
  induction n with
  | zero =>
    intro x1 x2 σ h
    exact absurd (h.symm.trans rfl) hf
  | succ n ih =>
    intro x1 x2 σ h
    refine g_iload_n hC dX12_cutAll_17 rfl 2 rfl ?_
    refine g_aload_n hC dX12_cutAll_18 rfl 0 rfl ?_
    refine g_getI (k := 3) hC cr12 ui_12 ht1 ht2 (by decide) fl_X12_138 rfl rfl dX12_cutAll_19 ?_
    refine g_icmp_ge (tgt := 279) hC dX12_cutAll_22 (by decide) h (fun c22 h => ?_) (fun c22 h => ?_)
    · refine g_aload_n hC dX12_cutAll_279 rfl 0 rfl ?_
      refine g_getR (cj := 14) (k := 4) hC cr12 ui_12 ht1 ht2 (by decide) fl_X12_24 rfl rfl dX12_cutAll_280 h hf (fun a1 ea1 ka1 na1 h => ?_)
      refine g_iload_n hC dX12_cutAll_283 rfl 1 rfl ?_
      refine g_iconst (v := 0) hC dX12_cutAll_284 (by decide) ?_
      refine g_iast hC ka1 na1 dX12_cutAll_285 h hf (fun h => ?_)
      refine g_aload_n hC dX12_cutAll_286 rfl 0 rfl ?_
      refine g_getR (cj := 14) (k := 5) hC cr12 ui_12 ht1 ht2 (by decide) fl_X12_27 rfl rfl dX12_cutAll_287 h hf (fun a2 ea2 ka2 na2 h => ?_)
      refine g_iload_n hC dX12_cutAll_290 rfl 1 rfl ?_
      refine g_aload_n hC dX12_cutAll_291 rfl 0 rfl ?_
      refine g_getI (k := 3) hC cr12 ui_12 ht1 ht2 (by decide) fl_X12_138 rfl rfl dX12_cutAll_292 ?_
      refine g_iast hC ka2 na2 dX12_cutAll_295 h hf (fun h => ?_)
      refine g_aload_n hC dX12_cutAll_296 rfl 0 rfl ?_
      refine g_iconst (v := 0) hC dX12_cutAll_297 (by decide) ?_
      refine g_putI (k := 7) hC cr12 ui_12 tyX12_ok nmX12 ht1 ht2 (by decide) fl_X12_157 rfl rfl rfl rfl dX12_cutAll_298 ?_
      refine g_aload_n hC dX12_cutAll_301 rfl 0 rfl ?_
      refine g_iconst (v := 0) hC dX12_cutAll_302 (by decide) ?_
      refine g_putI (k := 8) hC cr12 ui_12 tyX12_ok nmX12 ht1 ht2 (by decide) fl_X12_160 rfl rfl rfl rfl dX12_cutAll_303 ?_
      exact g_vret hC hR dX12_cutAll_306 h
    · refine g_aload_n hC dX12_cutAll_25 rfl 0 rfl ?_
      refine g_getR (cj := 14) (k := 1) hC cr12 ui_12 ht1 ht2 (by decide) fl_X12_14 rfl rfl dX12_cutAll_26 h hf (fun a3 ea3 ka3 na3 h => ?_)
      refine g_iload_n hC dX12_cutAll_29 rfl 2 rfl ?_
      refine g_iald hC ka3 na3 dX12_cutAll_30 h hf (fun h => ?_)
      refine g_istore_n (lv' := [(3, .int (σ.1 a3 x2.toNatClampNeg)), (0, .ref (E.2.2.1 t)), (1, .int x1), (2, .int x2)]) hC dX12_cutAll_31 rfl (by decide) rfl ?_
      refine g_iload_n hC dX12_cutAll_32 rfl 0 rfl ?_
      refine g_bipush (v := 10) hC dX12_cutAll_33 (by decide) ?_
      refine g_icmp_eq (tgt := 44) hC dX12_cutAll_35 (by decide) h (fun c35 h => ?_) (fun c35 h => ?_)
      · exact g_sub [1, 2, 3] rfl (k_X12_cutAll_44 hC hO hR hf t ht1 ht2 x1 x2 (f_X12_cutAll_17 t n) ih σ h)
      · refine g_iload_n hC dX12_cutAll_38 rfl 0 rfl ?_
        refine g_bipush (v := 32) hC dX12_cutAll_39 (by decide) ?_
        refine g_icmp_ne (tgt := 50) hC dX12_cutAll_41 (by decide) h (fun c41 h => ?_) (fun c41 h => ?_)
        · refine g_iload_n hC dX12_cutAll_50 rfl 3 rfl ?_
          refine g_istore (lv' := [(4, .int x2), (3, .int (σ.1 a3 x2.toNatClampNeg)), (0, .ref (E.2.2.1 t)), (1, .int x1), (2, .int x2)]) hC dX12_cutAll_51 (by decide) rfl ?_
          refine g_lconst (v := 0) hC dX12_cutAll_53 (by decide) ?_
          refine g_lstore (lv' := [(5, .long 0), (4, .int x2), (3, .int (σ.1 a3 x2.toNatClampNeg)), (0, .ref (E.2.2.1 t)), (1, .int x1), (2, .int x2)]) hC dX12_cutAll_54 (by decide) rfl ?_
          refine g_aload_n hC dX12_cutAll_56 rfl 3 rfl ?_
          refine g_getR (cj := 14) (k := 5) hC cr12 ui_12 ht1 ht2 (by decide) fl_X12_27 rfl rfl dX12_cutAll_57 h hf (fun a4 ea4 ka4 na4 h => ?_)
          refine g_iload_n hC dX12_cutAll_60 rfl 4 rfl ?_
          refine g_iload_n hC dX12_cutAll_61 rfl 5 rfl ?_
          refine g_iast hC ka4 na4 dX12_cutAll_62 h hf (fun h => ?_)
          refine g_iload_n hC dX12_cutAll_63 rfl 2 rfl ?_
          obtain ⟨q5, hq5, h⟩ := bd_of h hf
          refine g_cSI (As := [.int (σ.1 a3 x2.toNatClampNeg)]) hC hO (c_X12_isLetter _ hC.2.2.2.2.2.2.1 (σ.1 a3 x2.toNatClampNeg) (sI σ a4 x1.toNatClampNeg x2) (nn_of hq5)) gc_X12_134 (xk_X12_isLetter _ (Nat.le_of_ble_eq_true rfl) (Nat.le_of_ble_eq_true rfl)) rfl (Nat.le_of_ble_eq_true rfl) dX12_cutAll_64 hq5 ?_
          refine g_if_eq (tgt := 152) hC dX12_cutAll_67 (by decide) h (fun c67 h => ?_) (fun c67 h => ?_)
          · refine g_iload_n hC dX12_cutAll_152 rfl 2 rfl ?_
            obtain ⟨q6, hq6, h⟩ := bd_of h hf
            refine g_cSI (As := [.int (σ.1 a3 x2.toNatClampNeg)]) hC hO (c_X12_isDigit _ hC.2.2.2.2.2.2.1 (σ.1 a3 x2.toNatClampNeg) q5.2 (nn_of hq6)) gc_X12_147 (xk_X12_isDigit _ (Nat.le_of_ble_eq_true rfl) (Nat.le_of_ble_eq_true rfl)) rfl (Nat.le_of_ble_eq_true rfl) dX12_cutAll_153 hq6 ?_
            refine g_if_eq (tgt := 240) hC dX12_cutAll_156 (by decide) h (fun c156 h => ?_) (fun c156 h => ?_)
            · refine g_iload_n hC dX12_cutAll_240 rfl 2 rfl ?_
              refine g_i2l hC dX12_cutAll_241 ?_
              refine g_lstore (lv' := [(5, .long ((σ.1 a3 x2.toNatClampNeg).toInt64)), (4, .int x2), (3, .int (σ.1 a3 x2.toNatClampNeg)), (0, .ref (E.2.2.1 t)), (1, .int x1), (2, .int x2)]) hC dX12_cutAll_242 (by decide) rfl ?_
              refine g_aload_n hC dX12_cutAll_244 rfl 3 rfl ?_
              refine g_getR (cj := 14) (k := 4) hC cr12 ui_12 ht1 ht2 (by decide) fl_X12_24 rfl rfl dX12_cutAll_245 h hf (fun a7 ea7 ka7 na7 h => ?_)
              refine g_iload_n hC dX12_cutAll_248 rfl 4 rfl ?_
              refine g_iload_n hC dX12_cutAll_249 rfl 2 rfl ?_
              obtain ⟨q8, hq8, h⟩ := bd_of h hf
              refine g_cSI (As := [.int (σ.1 a3 x2.toNatClampNeg)]) hC hO (c_X12_isSignOf _ hC.2.2.2.2.2.2.1 (σ.1 a3 x2.toNatClampNeg) q6.2 (nn_of hq8)) gc_X12_154 (xk_X12_isSignOf _ (Nat.le_of_ble_eq_true rfl) (Nat.le_of_ble_eq_true rfl)) rfl (Nat.le_of_ble_eq_true rfl) dX12_cutAll_250 hq8 ?_
              refine g_if_eq (tgt := 260) hC dX12_cutAll_253 (by decide) h (fun c253 h => ?_) (fun c253 h => ?_)
              · refine g_iconst (v := 4) hC dX12_cutAll_260 (by decide) ?_
                exact g_sub [3, 4, 5, 0] rfl (k_X12_cutAll_261 hC hO hR hf t ht1 ht2 x1 x2 ((σ.1 a3 x2.toNatClampNeg).toInt64) 4 x1 a7 ka7 na7 (f_X12_cutAll_17 t n) ih q8.2 h)
              · refine g_iconst (v := 3) hC dX12_cutAll_256 (by decide) ?_
                refine g_goto (tgt := 261) hC dX12_cutAll_257 (by decide) ?_
                exact g_sub [3, 4, 5, 0] rfl (k_X12_cutAll_261 hC hO hR hf t ht1 ht2 x1 x2 ((σ.1 a3 x2.toNatClampNeg).toInt64) 3 x1 a7 ka7 na7 (f_X12_cutAll_17 t n) ih q8.2 h)
            · exact g_sub [3, 4, 5, 1, 0] rfl (k_X12_cutAll_159 hC hO hR hf t ht1 ht2 x1 x2 (f_X12_cutAll_17 t n) ih FU x2 0 q6.2 h)
          · exact g_sub [3, 4, 5, 1, 0] rfl (k_X12_cutAll_70 hC hO hR hf t ht1 ht2 x1 x2 (f_X12_cutAll_17 t n) ih FU x2 0 q5.2 h)
        · exact g_sub [1, 2, 3] rfl (k_X12_cutAll_44 hC hO hR hf t ht1 ht2 x1 x2 (f_X12_cutAll_17 t n) ih σ h)
set_option maxHeartbeats 4000000 in
set_option maxRecDepth 100000 in
theorem k_X12_cutAll_0 {E : ET} {F : FT} {fo : Option HS} (hC : Cx E F 7 cX12_cutAll RX12 GT) (hO : Ro F rm_X12_cutAll) (hR : RV E F fo) (hf : fo ≠ none) (t : Nat) (ht1 : kd t = 12) (ht2 : AL E t) (σ : HS) (h : f_X12_cutAll t σ = fo) : G E F 0 [(0, .ref (E.2.2.1 t))] [] σ := by
    refine g_aload_n hC dX12_cutAll_0 rfl 0 rfl ?_
    refine g_aload_n hC dX12_cutAll_1 rfl 0 rfl ?_
    refine g_getI (k := 2) hC cr12 ui_12 ht1 ht2 (by decide) fl_X12_11 rfl rfl dX12_cutAll_2 ?_
    refine g_putI (k := 3) hC cr12 ui_12 tyX12_ok nmX12 ht1 ht2 (by decide) fl_X12_138 rfl rfl rfl rfl dX12_cutAll_5 ?_
    refine g_aload_n hC dX12_cutAll_8 rfl 0 rfl ?_
    refine g_iconst (v := 0) hC dX12_cutAll_9 (by decide) ?_
    refine g_putI (k := 2) hC cr12 ui_12 tyX12_ok nmX12 ht1 ht2 (by decide) fl_X12_11 rfl rfl rfl rfl dX12_cutAll_10 ?_
    refine g_iconst (v := 0) hC dX12_cutAll_13 (by decide) ?_
    refine g_istore_n (lv' := [(1, .int 0), (0, .ref (E.2.2.1 t))]) hC dX12_cutAll_14 rfl (by decide) rfl ?_
    refine g_iconst (v := 0) hC dX12_cutAll_15 (by decide) ?_
    refine g_istore_n (lv' := [(2, .int 0), (1, .int 0), (0, .ref (E.2.2.1 t))]) hC dX12_cutAll_16 rfl (by decide) rfl ?_
    exact g_sub [2, 1, 0] rfl (k_X12_cutAll_17 hC hO hR hf t ht1 ht2 FU 0 0 (sI (sI σ t 3 (σ.1 t 2)) t 2 0) h)
theorem xk_X12_cutAll (R : Room) (h1 : 2 + 1 ≤ R.frames) (h2 : 102 ≤ R.locals) : xw R yX12_cutAll w_X12_cutAll GT cX12_cutAll 7 none rm_X12_cutAll 0 := ⟨rfl, rfl, rfl, h1, h2, ⟨by decide, by decide⟩, by decide +kernel⟩
theorem c_X12_cutAll (E : ET) (hE : EO E) (t : Nat) (ht1 : kd t = 12) (ht2 : AL E t) (σ : HS) (hn : f_X12_cutAll t σ ≠ none) : CoV E yX12_cutAll w_X12_cutAll rm_X12_cutAll [.ref (E.2.2.1 t)] σ (f_X12_cutAll t σ) := CoV.of (lv := [(0, .ref (E.2.2.1 t))]) hE (plainFor_of_name (by decide)) rfl (Nat.le_of_ble_eq_true rfl) rfl (fun F hC hO hR => k_X12_cutAll_0 hC hO hR hn t ht1 ht2 σ rfl)
def rm_X12_wrong : Room := { frames := 0, cells := 0, slots := 0, locals := 0 }
set_option maxHeartbeats 4000000 in
set_option maxRecDepth 100000 in
theorem k_X12_wrong_25 {E : ET} {F : FT} {fo : Option HS} (hC : Cx E F 2 cX12_wrong RX12 GT) (hO : Ro F rm_X12_wrong) (hR : RV E F fo) (hf : fo ≠ none) (σ : HS) (h : f_X12_wrong_25 σ = fo) : G E F 25 [] [] σ := by
    exact g_vret hC hR dX12_wrong_25 h
set_option maxHeartbeats 4000000 in
set_option maxRecDepth 100000 in
theorem k_X12_wrong_0 {E : ET} {F : FT} {fo : Option HS} (hC : Cx E F 2 cX12_wrong RX12 GT) (hO : Ro F rm_X12_wrong) (hR : RV E F fo) (hf : fo ≠ none) (t : Nat) (ht1 : kd t = 12) (ht2 : AL E t) (x1 : Int32) (σ : HS) (h : f_X12_wrong t x1 σ = fo) : G E F 0 [(0, .ref (E.2.2.1 t)), (1, .int x1)] [] σ := by
    refine g_aload_n hC dX12_wrong_0 rfl 0 rfl ?_
    refine g_getI (k := 8) hC cr12 ui_12 ht1 ht2 (by decide) fl_X12_160 rfl rfl dX12_wrong_1 ?_
    refine g_if_ne (tgt := 25) hC dX12_wrong_4 (by decide) h (fun c4 h => ?_) (fun c4 h => ?_)
    · exact g_sub [] rfl (k_X12_wrong_25 hC hO hR hf σ h)
    · refine g_aload_n hC dX12_wrong_7 rfl 0 rfl ?_
      refine g_iload_n hC dX12_wrong_8 rfl 1 rfl ?_
      refine g_bipush (v := 16) hC dX12_wrong_9 (by decide) ?_
      refine g_aload_n hC dX12_wrong_11 rfl 0 rfl ?_
      refine g_getR (cj := 14) (k := 5) hC cr12 ui_12 ht1 ht2 (by decide) fl_X12_27 rfl rfl dX12_wrong_12 h hf (fun a1 ea1 ka1 na1 h => ?_)
      refine g_aload_n hC dX12_wrong_15 rfl 0 rfl ?_
      refine g_getI (k := 7) hC cr12 ui_12 ht1 ht2 (by decide) fl_X12_157 rfl rfl dX12_wrong_16 ?_
      refine g_iald hC ka1 na1 dX12_wrong_19 h hf (fun h => ?_)
      refine g_imul hC dX12_wrong_20 ?_
      refine g_iadd hC dX12_wrong_21 ?_
      refine g_putI (k := 8) hC cr12 ui_12 tyX12_ok nmX12 ht1 ht2 (by decide) fl_X12_160 rfl rfl rfl rfl dX12_wrong_22 ?_
      exact g_sub [] rfl (k_X12_wrong_25 hC hO hR hf (sI σ t 8 (x1 + ((16 : Int32) * (σ.1 a1 (σ.1 t 7).toNatClampNeg)))) h)
theorem xk_X12_wrong (R : Room) (h1 : 0 + 1 ≤ R.frames) (h2 : 33 ≤ R.locals) : xw R yX12_wrong w_X12_wrong GT cX12_wrong 2 none rm_X12_wrong 1 := ⟨rfl, rfl, rfl, h1, h2, ⟨by decide, by decide⟩, by decide +kernel⟩
theorem c_X12_wrong (E : ET) (hE : EO E) (t : Nat) (ht1 : kd t = 12) (ht2 : AL E t) (x1 : Int32) (σ : HS) (hn : f_X12_wrong t x1 σ ≠ none) : CoV E yX12_wrong w_X12_wrong rm_X12_wrong [.ref (E.2.2.1 t), .int x1] σ (f_X12_wrong t x1 σ) := CoV.of (lv := [(0, .ref (E.2.2.1 t)), (1, .int x1)]) hE (plainFor_of_name (by decide)) rfl (Nat.le_of_ble_eq_true rfl) rfl (fun F hC hO hR => k_X12_wrong_0 hC hO hR hn t ht1 ht2 x1 σ rfl)
def rm_X12_isSign : Room := { frames := 0, cells := 0, slots := 0, locals := 0 }
set_option maxHeartbeats 4000000 in
set_option maxRecDepth 100000 in
theorem k_X12_isSign_40 {E : ET} {F : FT} {fo : Option (Int32 × HS)} (hC : Cx E F 2 cX12_isSign RX12 GT) (hO : Ro F rm_X12_isSign) (hR : RI E F .boolean fo) (hf : fo ≠ none) (s0 : Int32) (σ : HS) (h : f_X12_isSign_40 s0 σ = fo) : G E F 40 [] [.int s0] σ := by
    obtain ⟨hz, h⟩ := zr_of h hf
    exact g_iret hC hR dX12_isSign_40 hz h
set_option maxHeartbeats 4000000 in
set_option maxRecDepth 100000 in
theorem k_X12_isSign_39 {E : ET} {F : FT} {fo : Option (Int32 × HS)} (hC : Cx E F 2 cX12_isSign RX12 GT) (hO : Ro F rm_X12_isSign) (hR : RI E F .boolean fo) (hf : fo ≠ none) (σ : HS) (h : f_X12_isSign_39 σ = fo) : G E F 39 [] [] σ := by
    refine g_iconst (v := 0) hC dX12_isSign_39 (by decide) ?_
    exact g_sub [] rfl (k_X12_isSign_40 hC hO hR hf 0 σ h)
set_option maxHeartbeats 4000000 in
set_option maxRecDepth 100000 in
theorem k_X12_isSign_0 {E : ET} {F : FT} {fo : Option (Int32 × HS)} (hC : Cx E F 2 cX12_isSign RX12 GT) (hO : Ro F rm_X12_isSign) (hR : RI E F .boolean fo) (hf : fo ≠ none) (t : Nat) (ht1 : kd t = 12) (ht2 : AL E t) (x1 : Int32) (σ : HS) (h : f_X12_isSign t x1 σ = fo) : G E F 0 [(0, .ref (E.2.2.1 t)), (1, .int x1)] [] σ := by
    refine g_aload_n hC dX12_isSign_0 rfl 0 rfl ?_
    refine g_getI (k := 8) hC cr12 ui_12 ht1 ht2 (by decide) fl_X12_160 rfl rfl dX12_isSign_1 ?_
    refine g_if_ne (tgt := 39) hC dX12_isSign_4 (by decide) h (fun c4 h => ?_) (fun c4 h => ?_)
    · exact g_sub [] rfl (k_X12_isSign_39 hC hO hR hf σ h)
    · refine g_aload_n hC dX12_isSign_7 rfl 0 rfl ?_
      refine g_getR (cj := 14) (k := 4) hC cr12 ui_12 ht1 ht2 (by decide) fl_X12_24 rfl rfl dX12_isSign_8 h hf (fun a1 ea1 ka1 na1 h => ?_)
      refine g_aload_n hC dX12_isSign_11 rfl 0 rfl ?_
      refine g_getI (k := 7) hC cr12 ui_12 ht1 ht2 (by decide) fl_X12_157 rfl rfl dX12_isSign_12 ?_
      refine g_iald hC ka1 na1 dX12_isSign_15 h hf (fun h => ?_)
      refine g_iconst (v := 3) hC dX12_isSign_16 (by decide) ?_
      refine g_icmp_ne (tgt := 39) hC dX12_isSign_17 (by decide) h (fun c17 h => ?_) (fun c17 h => ?_)
      · exact g_sub [] rfl (k_X12_isSign_39 hC hO hR hf σ h)
      · refine g_aload_n hC dX12_isSign_20 rfl 0 rfl ?_
        refine g_getR (cj := 15) (k := 6) hC cr12 ui_12 ht1 ht2 (by decide) fl_X12_30 rfl rfl dX12_isSign_21 h hf (fun a2 ea2 ka2 na2 h => ?_)
        refine g_aload_n hC dX12_isSign_24 rfl 0 rfl ?_
        refine g_getI (k := 7) hC cr12 ui_12 ht1 ht2 (by decide) fl_X12_157 rfl rfl dX12_isSign_25 ?_
        refine g_lald hC ka2 na2 dX12_isSign_28 h hf (fun h => ?_)
        refine g_iload_n hC dX12_isSign_29 rfl 1 rfl ?_
        refine g_i2l hC dX12_isSign_30 ?_
        refine g_lc_ne (tgt := 39) hC dX12_isSign_31 dX12_isSign_32 (by decide) h (fun c31 h => ?_) (fun c31 h => ?_)
        · exact g_sub [] rfl (k_X12_isSign_39 hC hO hR hf σ h)
        · refine g_iconst (v := 1) hC dX12_isSign_35 (by decide) ?_
          refine g_goto (tgt := 40) hC dX12_isSign_36 (by decide) ?_
          exact g_sub [] rfl (k_X12_isSign_40 hC hO hR hf 1 σ h)
theorem xk_X12_isSign (R : Room) (h1 : 0 + 1 ≤ R.frames) (h2 : 33 ≤ R.locals) : xw R yX12_isSign w_X12_isSign GT cX12_isSign 2 (some .boolean) rm_X12_isSign 1 := ⟨rfl, rfl, rfl, h1, h2, ⟨by decide, by decide⟩, by decide +kernel⟩
theorem c_X12_isSign (E : ET) (hE : EO E) (t : Nat) (ht1 : kd t = 12) (ht2 : AL E t) (x1 : Int32) (σ : HS) (hn : f_X12_isSign t x1 σ ≠ none) : CoI E yX12_isSign w_X12_isSign rm_X12_isSign [.ref (E.2.2.1 t), .int x1] σ (f_X12_isSign t x1 σ) := CoI.of (lv := [(0, .ref (E.2.2.1 t)), (1, .int x1)]) hE (plainFor_of_name (by decide)) rfl (Nat.le_of_ble_eq_true rfl) rfl (fun F hC hO hR => k_X12_isSign_0 hC hO hR hn t ht1 ht2 x1 σ rfl)
def rm_X12_isWord : Room := { frames := 0, cells := 0, slots := 0, locals := 0 }
theorem fl_X12_66 : Cond.fieldLink RX12 66 "EveryMeasureModel" (TX12 9).2.1 (TX12 9).2.2.1 ∈ GT := gtr_9 _ (List.mem_of_getElem? (i := 12) rfl)
set_option maxHeartbeats 4000000 in
set_option maxRecDepth 100000 in
theorem k_X12_isWord_44 {E : ET} {F : FT} {fo : Option (Int32 × HS)} (hC : Cx E F 2 cX12_isWord RX12 GT) (hO : Ro F rm_X12_isWord) (hR : RI E F .boolean fo) (hf : fo ≠ none) (s0 : Int32) (σ : HS) (h : f_X12_isWord_44 s0 σ = fo) : G E F 44 [] [.int s0] σ := by
    obtain ⟨hz, h⟩ := zr_of h hf
    exact g_iret hC hR dX12_isWord_44 hz h
set_option maxHeartbeats 4000000 in
set_option maxRecDepth 100000 in
theorem k_X12_isWord_43 {E : ET} {F : FT} {fo : Option (Int32 × HS)} (hC : Cx E F 2 cX12_isWord RX12 GT) (hO : Ro F rm_X12_isWord) (hR : RI E F .boolean fo) (hf : fo ≠ none) (σ : HS) (h : f_X12_isWord_43 σ = fo) : G E F 43 [] [] σ := by
    refine g_iconst (v := 0) hC dX12_isWord_43 (by decide) ?_
    exact g_sub [] rfl (k_X12_isWord_44 hC hO hR hf 0 σ h)
set_option maxHeartbeats 4000000 in
set_option maxRecDepth 100000 in
theorem k_X12_isWord_0 {E : ET} {F : FT} {fo : Option (Int32 × HS)} (hC : Cx E F 2 cX12_isWord RX12 GT) (hO : Ro F rm_X12_isWord) (hR : RI E F .boolean fo) (hf : fo ≠ none) (t : Nat) (ht1 : kd t = 12) (ht2 : AL E t) (x1 : Int32) (σ : HS) (h : f_X12_isWord t x1 σ = fo) : G E F 0 [(0, .ref (E.2.2.1 t)), (1, .int x1)] [] σ := by
    refine g_aload_n hC dX12_isWord_0 rfl 0 rfl ?_
    refine g_getI (k := 8) hC cr12 ui_12 ht1 ht2 (by decide) fl_X12_160 rfl rfl dX12_isWord_1 ?_
    refine g_if_ne (tgt := 43) hC dX12_isWord_4 (by decide) h (fun c4 h => ?_) (fun c4 h => ?_)
    · exact g_sub [] rfl (k_X12_isWord_43 hC hO hR hf σ h)
    · refine g_aload_n hC dX12_isWord_7 rfl 0 rfl ?_
      refine g_getR (cj := 14) (k := 4) hC cr12 ui_12 ht1 ht2 (by decide) fl_X12_24 rfl rfl dX12_isWord_8 h hf (fun a1 ea1 ka1 na1 h => ?_)
      refine g_aload_n hC dX12_isWord_11 rfl 0 rfl ?_
      refine g_getI (k := 7) hC cr12 ui_12 ht1 ht2 (by decide) fl_X12_157 rfl rfl dX12_isWord_12 ?_
      refine g_iald hC ka1 na1 dX12_isWord_15 h hf (fun h => ?_)
      refine g_iconst (v := 1) hC dX12_isWord_16 (by decide) ?_
      refine g_icmp_ne (tgt := 43) hC dX12_isWord_17 (by decide) h (fun c17 h => ?_) (fun c17 h => ?_)
      · exact g_sub [] rfl (k_X12_isWord_43 hC hO hR hf σ h)
      · refine g_aload_n hC dX12_isWord_20 rfl 0 rfl ?_
        refine g_getR (cj := 15) (k := 6) hC cr12 ui_12 ht1 ht2 (by decide) fl_X12_30 rfl rfl dX12_isWord_21 h hf (fun a2 ea2 ka2 na2 h => ?_)
        refine g_aload_n hC dX12_isWord_24 rfl 0 rfl ?_
        refine g_getI (k := 7) hC cr12 ui_12 ht1 ht2 (by decide) fl_X12_157 rfl rfl dX12_isWord_25 ?_
        refine g_lald hC ka2 na2 dX12_isWord_28 h hf (fun h => ?_)
        refine g_aload_n hC dX12_isWord_29 rfl 0 rfl ?_
        refine g_getR (cj := 15) (k := 9) hC cr12 ui_12 ht1 ht2 (by decide) fl_X12_66 rfl rfl dX12_isWord_30 h hf (fun a3 ea3 ka3 na3 h => ?_)
        refine g_iload_n hC dX12_isWord_33 rfl 1 rfl ?_
        refine g_lald hC ka3 na3 dX12_isWord_34 h hf (fun h => ?_)
        refine g_lc_ne (tgt := 43) hC dX12_isWord_35 dX12_isWord_36 (by decide) h (fun c35 h => ?_) (fun c35 h => ?_)
        · exact g_sub [] rfl (k_X12_isWord_43 hC hO hR hf σ h)
        · refine g_iconst (v := 1) hC dX12_isWord_39 (by decide) ?_
          refine g_goto (tgt := 44) hC dX12_isWord_40 (by decide) ?_
          exact g_sub [] rfl (k_X12_isWord_44 hC hO hR hf 1 σ h)
theorem xk_X12_isWord (R : Room) (h1 : 0 + 1 ≤ R.frames) (h2 : 33 ≤ R.locals) : xw R yX12_isWord w_X12_isWord GT cX12_isWord 2 (some .boolean) rm_X12_isWord 1 := ⟨rfl, rfl, rfl, h1, h2, ⟨by decide, by decide⟩, by decide +kernel⟩
theorem c_X12_isWord (E : ET) (hE : EO E) (t : Nat) (ht1 : kd t = 12) (ht2 : AL E t) (x1 : Int32) (σ : HS) (hn : f_X12_isWord t x1 σ ≠ none) : CoI E yX12_isWord w_X12_isWord rm_X12_isWord [.ref (E.2.2.1 t), .int x1] σ (f_X12_isWord t x1 σ) := CoI.of (lv := [(0, .ref (E.2.2.1 t)), (1, .int x1)]) hE (plainFor_of_name (by decide)) rfl (Nat.le_of_ble_eq_true rfl) rfl (fun F hC hO hR => k_X12_isWord_0 hC hO hR hn t ht1 ht2 x1 σ rfl)
def rm_X12_takeSign : Room := { frames := 1, cells := 0, slots := 0, locals := 33 }
theorem wc_X12_isSign : Cond.code yX12_isSign cX12_isSign 2 (some .boolean) ∈ GT := gtr_21 _ (List.mem_of_getElem? (i := 20) rfl)
theorem gc_X12_163 : GoodIn GT (wsV RX12 163 RX12 yX12_isSign w_X12_isSign) := gi_V (gtr_21 _ (List.mem_of_getElem? (i := 17) rfl)) (gtr_21 _ (List.mem_of_getElem? (i := 18) rfl)) (gtr_21 _ (List.mem_of_getElem? (i := 19) rfl)) (gtr_1 _ (List.mem_of_getElem? (i := 5) rfl)) wc_X12_isSign
theorem wc_X12_wrong : Cond.code yX12_wrong cX12_wrong 2 none ∈ GT := gtr_20 _ (List.mem_of_getElem? (i := 20) rfl)
theorem gc_X12_166 : GoodIn GT (wsV RX12 166 RX12 yX12_wrong w_X12_wrong) := gi_V (gtr_20 _ (List.mem_of_getElem? (i := 17) rfl)) (gtr_20 _ (List.mem_of_getElem? (i := 18) rfl)) (gtr_20 _ (List.mem_of_getElem? (i := 19) rfl)) (gtr_1 _ (List.mem_of_getElem? (i := 5) rfl)) wc_X12_wrong
set_option maxHeartbeats 4000000 in
set_option maxRecDepth 100000 in
theorem k_X12_takeSign_26 {E : ET} {F : FT} {fo : Option HS} (hC : Cx E F 2 cX12_takeSign RX12 GT) (hO : Ro F rm_X12_takeSign) (hR : RV E F fo) (hf : fo ≠ none) (σ : HS) (h : f_X12_takeSign_26 σ = fo) : G E F 26 [] [] σ := by
    exact g_vret hC hR dX12_takeSign_26 h
set_option maxHeartbeats 4000000 in
set_option maxRecDepth 100000 in
theorem k_X12_takeSign_0 {E : ET} {F : FT} {fo : Option HS} (hC : Cx E F 2 cX12_takeSign RX12 GT) (hO : Ro F rm_X12_takeSign) (hR : RV E F fo) (hf : fo ≠ none) (t : Nat) (ht1 : kd t = 12) (ht2 : AL E t) (x1 : Int32) (σ : HS) (h : f_X12_takeSign t x1 σ = fo) : G E F 0 [(0, .ref (E.2.2.1 t)), (1, .int x1)] [] σ := by
    refine g_aload_n hC dX12_takeSign_0 rfl 0 rfl ?_
    refine g_iload_n hC dX12_takeSign_1 rfl 1 rfl ?_
    obtain ⟨q1, hq1, h⟩ := bd_of h hf
    refine g_cVI (As := [.int x1]) hC hO (c_X12_isSign _ hC.2.2.2.2.2.2.1 t ht1 ht2 x1 σ (nn_of hq1)) gc_X12_163 (xk_X12_isSign _ (Nat.le_of_ble_eq_true rfl) (Nat.le_of_ble_eq_true rfl)) cr12 ht1 ht2 rfl (Nat.le_of_ble_eq_true rfl) dX12_takeSign_2 hq1 ?_
    refine g_if_eq (tgt := 21) hC dX12_takeSign_5 (by decide) h (fun c5 h => ?_) (fun c5 h => ?_)
    · refine g_aload_n hC dX12_takeSign_21 rfl 0 rfl ?_
      refine g_iconst (v := 1) hC dX12_takeSign_22 (by decide) ?_
      obtain ⟨q2, hq2, h⟩ := bd_of h hf
      refine g_cVV (As := [.int 1]) hC hO (c_X12_wrong _ hC.2.2.2.2.2.2.1 t ht1 ht2 1 q1.2 (nn_of hq2)) gc_X12_166 (xk_X12_wrong _ (Nat.le_of_ble_eq_true rfl) (Nat.le_of_ble_eq_true rfl)) cr12 ht1 ht2 rfl (Nat.le_of_ble_eq_true rfl) dX12_takeSign_23 hq2 ?_
      exact g_sub [] rfl (k_X12_takeSign_26 hC hO hR hf q2 h)
    · refine g_aload_n hC dX12_takeSign_8 rfl 0 rfl ?_
      refine g_dup hC dX12_takeSign_9 rfl ?_
      refine g_getI (k := 7) hC cr12 ui_12 ht1 ht2 (by decide) fl_X12_157 rfl rfl dX12_takeSign_10 ?_
      refine g_iconst (v := 1) hC dX12_takeSign_13 (by decide) ?_
      refine g_iadd hC dX12_takeSign_14 ?_
      refine g_putI (k := 7) hC cr12 ui_12 tyX12_ok nmX12 ht1 ht2 (by decide) fl_X12_157 rfl rfl rfl rfl dX12_takeSign_15 ?_
      refine g_goto (tgt := 26) hC dX12_takeSign_18 (by decide) ?_
      exact g_sub [] rfl (k_X12_takeSign_26 hC hO hR hf (sI q1.2 t 7 ((q1.2.1 t 7) + 1)) h)
theorem xk_X12_takeSign (R : Room) (h1 : 1 + 1 ≤ R.frames) (h2 : 66 ≤ R.locals) : xw R yX12_takeSign w_X12_takeSign GT cX12_takeSign 2 none rm_X12_takeSign 1 := ⟨rfl, rfl, rfl, h1, h2, ⟨by decide, by decide⟩, by decide +kernel⟩
theorem c_X12_takeSign (E : ET) (hE : EO E) (t : Nat) (ht1 : kd t = 12) (ht2 : AL E t) (x1 : Int32) (σ : HS) (hn : f_X12_takeSign t x1 σ ≠ none) : CoV E yX12_takeSign w_X12_takeSign rm_X12_takeSign [.ref (E.2.2.1 t), .int x1] σ (f_X12_takeSign t x1 σ) := CoV.of (lv := [(0, .ref (E.2.2.1 t)), (1, .int x1)]) hE (plainFor_of_name (by decide)) rfl (Nat.le_of_ble_eq_true rfl) rfl (fun F hC hO hR => k_X12_takeSign_0 hC hO hR hn t ht1 ht2 x1 σ rfl)
def rm_X12_within : Room := { frames := 0, cells := 0, slots := 0, locals := 0 }
set_option maxHeartbeats 4000000 in
set_option maxRecDepth 100000 in
theorem k_X12_within_15 {E : ET} {F : FT} {fo : Option (Int32 × HS)} (hC : Cx E F 3 cX12_within RX12 GT) (hO : Ro F rm_X12_within) (hR : RI E F .boolean fo) (hf : fo ≠ none) (s0 : Int32) (σ : HS) (h : f_X12_within_15 s0 σ = fo) : G E F 15 [] [.int s0] σ := by
    obtain ⟨hz, h⟩ := zr_of h hf
    exact g_iret hC hR dX12_within_15 hz h
set_option maxHeartbeats 4000000 in
set_option maxRecDepth 100000 in
theorem k_X12_within_14 {E : ET} {F : FT} {fo : Option (Int32 × HS)} (hC : Cx E F 3 cX12_within RX12 GT) (hO : Ro F rm_X12_within) (hR : RI E F .boolean fo) (hf : fo ≠ none) (σ : HS) (h : f_X12_within_14 σ = fo) : G E F 14 [] [] σ := by
    refine g_iconst (v := 0) hC dX12_within_14 (by decide) ?_
    exact g_sub [] rfl (k_X12_within_15 hC hO hR hf 0 σ h)
set_option maxHeartbeats 4000000 in
set_option maxRecDepth 100000 in
theorem k_X12_within_0 {E : ET} {F : FT} {fo : Option (Int32 × HS)} (hC : Cx E F 3 cX12_within RX12 GT) (hO : Ro F rm_X12_within) (hR : RI E F .boolean fo) (hf : fo ≠ none) (x0 : Int32) (x1 : Int32) (x2 : Int32) (σ : HS) (h : f_X12_within x0 x1 x2 σ = fo) : G E F 0 [(0, .int x0), (1, .int x1), (2, .int x2)] [] σ := by
    refine g_iload_n hC dX12_within_0 rfl 0 rfl ?_
    refine g_iload_n hC dX12_within_1 rfl 1 rfl ?_
    refine g_icmp_lt (tgt := 14) hC dX12_within_2 (by decide) h (fun c2 h => ?_) (fun c2 h => ?_)
    · exact g_sub [] rfl (k_X12_within_14 hC hO hR hf σ h)
    · refine g_iload_n hC dX12_within_5 rfl 0 rfl ?_
      refine g_iload_n hC dX12_within_6 rfl 2 rfl ?_
      refine g_icmp_gt (tgt := 14) hC dX12_within_7 (by decide) h (fun c7 h => ?_) (fun c7 h => ?_)
      · exact g_sub [] rfl (k_X12_within_14 hC hO hR hf σ h)
      · refine g_iconst (v := 1) hC dX12_within_10 (by decide) ?_
        refine g_goto (tgt := 15) hC dX12_within_11 (by decide) ?_
        exact g_sub [] rfl (k_X12_within_15 hC hO hR hf 1 σ h)
theorem xk_X12_within (R : Room) (h1 : 0 + 1 ≤ R.frames) (h2 : 34 ≤ R.locals) : xw R yX12_within w_X12_within GT cX12_within 3 (some .boolean) rm_X12_within 3 := ⟨rfl, rfl, rfl, h1, h2, ⟨by decide, by decide⟩, by decide +kernel⟩
theorem c_X12_within (E : ET) (hE : EO E) (x0 : Int32) (x1 : Int32) (x2 : Int32) (σ : HS) (hn : f_X12_within x0 x1 x2 σ ≠ none) : CoI E yX12_within w_X12_within rm_X12_within [.int x0, .int x1, .int x2] σ (f_X12_within x0 x1 x2 σ) := CoI.of (lv := [(0, .int x0), (1, .int x1), (2, .int x2)]) hE (plainFor_of_name (by decide)) rfl (Nat.le_of_ble_eq_true rfl) rfl (fun F hC hO hR => k_X12_within_0 hC hO hR hn x0 x1 x2 σ rfl)
def rm_X12_forgetsChoice : Room := { frames := 0, cells := 0, slots := 0, locals := 0 }
theorem fl_X12_79 : Cond.fieldLink RX12 79 "EveryMeasureModel" (TX12 13).2.1 (TX12 13).2.2.1 ∈ GT := gtr_9 _ (List.mem_of_getElem? (i := 17) rfl)
theorem fl_X12_69 : Cond.fieldLink RX12 69 "EveryMeasureModel" (TX12 10).2.1 (TX12 10).2.2.1 ∈ GT := gtr_9 _ (List.mem_of_getElem? (i := 14) rfl)
theorem fl_X12_73 : Cond.fieldLink RX12 73 "EveryMeasureModel" (TX12 11).2.1 (TX12 11).2.2.1 ∈ GT := gtr_9 _ (List.mem_of_getElem? (i := 15) rfl)
theorem fl_X12_76 : Cond.fieldLink RX12 76 "EveryMeasureModel" (TX12 12).2.1 (TX12 12).2.2.1 ∈ GT := gtr_9 _ (List.mem_of_getElem? (i := 16) rfl)
set_option maxHeartbeats 4000000 in
set_option maxRecDepth 100000 in
theorem k_X12_forgetsChoice_9 {E : ET} {F : FT} {fo : Option HS} (hC : Cx E F 3 cX12_forgetsChoice RX12 GT) (hO : Ro F rm_X12_forgetsChoice) (hR : RV E F fo) (hf : fo ≠ none) (t : Nat) (ht1 : kd t = 12) (ht2 : AL E t) (x1 : Int32) : ∀ (n : Nat) (x2 : Int32) (σ : HS), f_X12_forgetsChoice_9 t x1 n x2 σ = fo → G E F 9 [(0, .ref (E.2.2.1 t)), (1, .int x1), (2, .int x2)] [] σ := by
  intro n
  induction n with
  | zero =>
    intro x2 σ h
    exact absurd (h.symm.trans rfl) hf
  | succ n ih =>
    intro x2 σ h
    refine g_iload_n hC dX12_forgetsChoice_9 rfl 2 rfl ?_
    refine g_iconst (v := 4) hC dX12_forgetsChoice_10 (by decide) ?_
    refine g_icmp_ge (tgt := 53) hC dX12_forgetsChoice_11 (by decide) h (fun c11 h => ?_) (fun c11 h => ?_)
    · exact g_vret hC hR dX12_forgetsChoice_53 h
    · refine g_aload_n hC dX12_forgetsChoice_14 rfl 0 rfl ?_
      refine g_getR (cj := 16) (k := 10) hC cr12 ui_12 ht1 ht2 (by decide) fl_X12_69 rfl rfl dX12_forgetsChoice_15 h hf (fun a1 ea1 ka1 na1 h => ?_)
      refine g_iconst (v := 4) hC dX12_forgetsChoice_18 (by decide) ?_
      refine g_iload_n hC dX12_forgetsChoice_19 rfl 1 rfl ?_
      refine g_imul hC dX12_forgetsChoice_20 ?_
      refine g_iload_n hC dX12_forgetsChoice_21 rfl 2 rfl ?_
      refine g_iadd hC dX12_forgetsChoice_22 ?_
      refine g_iconst (v := 0) hC dX12_forgetsChoice_23 (by decide) ?_
      refine g_zast hC ka1 na1 dX12_forgetsChoice_24 h hf (fun h => ?_)
      refine g_aload_n hC dX12_forgetsChoice_25 rfl 0 rfl ?_
      refine g_getR (cj := 14) (k := 11) hC cr12 ui_12 ht1 ht2 (by decide) fl_X12_73 rfl rfl dX12_forgetsChoice_26 h hf (fun a2 ea2 ka2 na2 h => ?_)
      refine g_iconst (v := 4) hC dX12_forgetsChoice_29 (by decide) ?_
      refine g_iload_n hC dX12_forgetsChoice_30 rfl 1 rfl ?_
      refine g_imul hC dX12_forgetsChoice_31 ?_
      refine g_iload_n hC dX12_forgetsChoice_32 rfl 2 rfl ?_
      refine g_iadd hC dX12_forgetsChoice_33 ?_
      refine g_iconst (v := (-1)) hC dX12_forgetsChoice_34 (by decide) ?_
      refine g_iast hC ka2 na2 dX12_forgetsChoice_35 h hf (fun h => ?_)
      refine g_aload_n hC dX12_forgetsChoice_36 rfl 0 rfl ?_
      refine g_getR (cj := 14) (k := 12) hC cr12 ui_12 ht1 ht2 (by decide) fl_X12_76 rfl rfl dX12_forgetsChoice_37 h hf (fun a3 ea3 ka3 na3 h => ?_)
      refine g_iconst (v := 4) hC dX12_forgetsChoice_40 (by decide) ?_
      refine g_iload_n hC dX12_forgetsChoice_41 rfl 1 rfl ?_
      refine g_imul hC dX12_forgetsChoice_42 ?_
      refine g_iload_n hC dX12_forgetsChoice_43 rfl 2 rfl ?_
      refine g_iadd hC dX12_forgetsChoice_44 ?_
      refine g_iconst (v := (-1)) hC dX12_forgetsChoice_45 (by decide) ?_
      refine g_iast hC ka3 na3 dX12_forgetsChoice_46 h hf (fun h => ?_)
      refine g_iinc (v := x2 + 1) (lv' := [(2, .int (x2 + 1)), (0, .ref (E.2.2.1 t)), (1, .int x1)]) hC dX12_forgetsChoice_47 2 rfl rfl (by decide) rfl ?_
      refine g_goto (tgt := 9) hC dX12_forgetsChoice_50 (by decide) ?_
      exact g_sub [1, 2, 0] rfl (ih (x2 + 1) (sI (sI (sI σ a1 (((4 : Int32) * x1) + x2).toNatClampNeg (0 &&& 1)) a2 (((4 : Int32) * x1) + x2).toNatClampNeg (-1)) a3 (((4 : Int32) * x1) + x2).toNatClampNeg (-1)) h)
set_option maxHeartbeats 4000000 in
set_option maxRecDepth 100000 in
theorem k_X12_forgetsChoice_0 {E : ET} {F : FT} {fo : Option HS} (hC : Cx E F 3 cX12_forgetsChoice RX12 GT) (hO : Ro F rm_X12_forgetsChoice) (hR : RV E F fo) (hf : fo ≠ none) (t : Nat) (ht1 : kd t = 12) (ht2 : AL E t) (x1 : Int32) (σ : HS) (h : f_X12_forgetsChoice t x1 σ = fo) : G E F 0 [(0, .ref (E.2.2.1 t)), (1, .int x1)] [] σ := by
    refine g_aload_n hC dX12_forgetsChoice_0 rfl 0 rfl ?_
    refine g_getR (cj := 14) (k := 13) hC cr12 ui_12 ht1 ht2 (by decide) fl_X12_79 rfl rfl dX12_forgetsChoice_1 h hf (fun a1 ea1 ka1 na1 h => ?_)
    refine g_iload_n hC dX12_forgetsChoice_4 rfl 1 rfl ?_
    refine g_iconst (v := 0) hC dX12_forgetsChoice_5 (by decide) ?_
    refine g_iast hC ka1 na1 dX12_forgetsChoice_6 h hf (fun h => ?_)
    refine g_iconst (v := 0) hC dX12_forgetsChoice_7 (by decide) ?_
    refine g_istore_n (lv' := [(2, .int 0), (0, .ref (E.2.2.1 t)), (1, .int x1)]) hC dX12_forgetsChoice_8 rfl (by decide) rfl ?_
    exact g_sub [1, 2, 0] rfl (k_X12_forgetsChoice_9 hC hO hR hf t ht1 ht2 x1 FU 0 (sI σ a1 x1.toNatClampNeg 0) h)
theorem xk_X12_forgetsChoice (R : Room) (h1 : 0 + 1 ≤ R.frames) (h2 : 34 ≤ R.locals) : xw R yX12_forgetsChoice w_X12_forgetsChoice GT cX12_forgetsChoice 3 none rm_X12_forgetsChoice 1 := ⟨rfl, rfl, rfl, h1, h2, ⟨by decide, by decide⟩, by decide +kernel⟩
theorem c_X12_forgetsChoice (E : ET) (hE : EO E) (t : Nat) (ht1 : kd t = 12) (ht2 : AL E t) (x1 : Int32) (σ : HS) (hn : f_X12_forgetsChoice t x1 σ ≠ none) : CoV E yX12_forgetsChoice w_X12_forgetsChoice rm_X12_forgetsChoice [.ref (E.2.2.1 t), .int x1] σ (f_X12_forgetsChoice t x1 σ) := CoV.of (lv := [(0, .ref (E.2.2.1 t)), (1, .int x1)]) hE (plainFor_of_name (by decide)) rfl (Nat.le_of_ble_eq_true rfl) rfl (fun F hC hO hR => k_X12_forgetsChoice_0 hC hO hR hn t ht1 ht2 x1 σ rfl)
def rm_X12_takeNumber : Room := { frames := 1, cells := 0, slots := 0, locals := 33 }
set_option maxHeartbeats 4000000 in
set_option maxRecDepth 100000 in
theorem k_X12_takeNumber_70 {E : ET} {F : FT} {fo : Option (Int32 × HS)} (hC : Cx E F 3 cX12_takeNumber RX12 GT) (hO : Ro F rm_X12_takeNumber) (hR : RI E F .int fo) (hf : fo ≠ none) (t : Nat) (ht1 : kd t = 12) (ht2 : AL E t) (σ : HS) (h : f_X12_takeNumber_70 t σ = fo) : G E F 70 [(0, .ref (E.2.2.1 t))] [] σ := by
    refine g_aload_n hC dX12_takeNumber_70 rfl 0 rfl ?_
    refine g_getI (k := 8) hC cr12 ui_12 ht1 ht2 (by decide) fl_X12_160 rfl rfl dX12_takeNumber_71 ?_
    refine g_if_le (tgt := 79) hC dX12_takeNumber_74 (by decide) h (fun c74 h => ?_) (fun c74 h => ?_)
    · refine g_aload_n hC dX12_takeNumber_79 rfl 0 rfl ?_
      refine g_dup hC dX12_takeNumber_80 rfl ?_
      refine g_getI (k := 7) hC cr12 ui_12 ht1 ht2 (by decide) fl_X12_157 rfl rfl dX12_takeNumber_81 ?_
      refine g_iconst (v := 1) hC dX12_takeNumber_84 (by decide) ?_
      refine g_iadd hC dX12_takeNumber_85 ?_
      refine g_putI (k := 7) hC cr12 ui_12 tyX12_ok nmX12 ht1 ht2 (by decide) fl_X12_157 rfl rfl rfl rfl dX12_takeNumber_86 ?_
      refine g_aload_n hC dX12_takeNumber_89 rfl 0 rfl ?_
      refine g_getR (cj := 15) (k := 6) hC cr12 ui_12 ht1 ht2 (by decide) fl_X12_30 rfl rfl dX12_takeNumber_90 h hf (fun a1 ea1 ka1 na1 h => ?_)
      refine g_aload_n hC dX12_takeNumber_93 rfl 0 rfl ?_
      refine g_getI (k := 7) hC cr12 ui_12 ht1 ht2 (by decide) fl_X12_157 rfl rfl dX12_takeNumber_94 ?_
      refine g_iconst (v := 1) hC dX12_takeNumber_97 (by decide) ?_
      refine g_isub hC dX12_takeNumber_98 ?_
      refine g_lald hC ka1 na1 dX12_takeNumber_99 h hf (fun h => ?_)
      refine g_l2i hC dX12_takeNumber_100 ?_
      exact g_iret hC hR dX12_takeNumber_101 rfl h
    · refine g_iconst (v := 0) hC dX12_takeNumber_77 (by decide) ?_
      exact g_iret hC hR dX12_takeNumber_78 rfl h
set_option maxHeartbeats 4000000 in
set_option maxRecDepth 100000 in
theorem k_X12_takeNumber_65 {E : ET} {F : FT} {fo : Option (Int32 × HS)} (hC : Cx E F 3 cX12_takeNumber RX12 GT) (hO : Ro F rm_X12_takeNumber) (hR : RI E F .int fo) (hf : fo ≠ none) (t : Nat) (ht1 : kd t = 12) (ht2 : AL E t) (σ : HS) (h : f_X12_takeNumber_65 t σ = fo) : G E F 65 [(0, .ref (E.2.2.1 t))] [] σ := by
    refine g_aload_n hC dX12_takeNumber_65 rfl 0 rfl ?_
    refine g_iconst (v := 4) hC dX12_takeNumber_66 (by decide) ?_
    obtain ⟨q1, hq1, h⟩ := bd_of h hf
    refine g_cVV (As := [.int 4]) hC hO (c_X12_wrong _ hC.2.2.2.2.2.2.1 t ht1 ht2 4 σ (nn_of hq1)) gc_X12_166 (xk_X12_wrong _ (Nat.le_of_ble_eq_true rfl) (Nat.le_of_ble_eq_true rfl)) cr12 ht1 ht2 rfl (Nat.le_of_ble_eq_true rfl) dX12_takeNumber_67 hq1 ?_
    exact g_sub [0] rfl (k_X12_takeNumber_70 hC hO hR hf t ht1 ht2 q1 h)
set_option maxHeartbeats 4000000 in
set_option maxRecDepth 100000 in
theorem k_X12_takeNumber_28 {E : ET} {F : FT} {fo : Option (Int32 × HS)} (hC : Cx E F 3 cX12_takeNumber RX12 GT) (hO : Ro F rm_X12_takeNumber) (hR : RI E F .int fo) (hf : fo ≠ none) (t : Nat) (ht1 : kd t = 12) (ht2 : AL E t) (x1 : Int32) (x2 : Int32) (σ : HS) (h : f_X12_takeNumber_28 t x1 x2 σ = fo) : G E F 28 [(0, .ref (E.2.2.1 t)), (1, .int x1), (2, .int x2)] [] σ := by
    refine g_aload_n hC dX12_takeNumber_28 rfl 0 rfl ?_
    refine g_getI (k := 8) hC cr12 ui_12 ht1 ht2 (by decide) fl_X12_160 rfl rfl dX12_takeNumber_29 ?_
    refine g_if_ne (tgt := 70) hC dX12_takeNumber_32 (by decide) h (fun c32 h => ?_) (fun c32 h => ?_)
    · exact g_sub [0] rfl (k_X12_takeNumber_70 hC hO hR hf t ht1 ht2 σ h)
    · refine g_aload_n hC dX12_takeNumber_35 rfl 0 rfl ?_
      refine g_getR (cj := 15) (k := 6) hC cr12 ui_12 ht1 ht2 (by decide) fl_X12_30 rfl rfl dX12_takeNumber_36 h hf (fun a1 ea1 ka1 na1 h => ?_)
      refine g_aload_n hC dX12_takeNumber_39 rfl 0 rfl ?_
      refine g_getI (k := 7) hC cr12 ui_12 ht1 ht2 (by decide) fl_X12_157 rfl rfl dX12_takeNumber_40 ?_
      refine g_lald hC ka1 na1 dX12_takeNumber_43 h hf (fun h => ?_)
      refine g_iload_n hC dX12_takeNumber_44 rfl 1 rfl ?_
      refine g_i2l hC dX12_takeNumber_45 ?_
      refine g_lc_lt (tgt := 65) hC dX12_takeNumber_46 dX12_takeNumber_47 (by decide) h (fun c46 h => ?_) (fun c46 h => ?_)
      · exact g_sub [0] rfl (k_X12_takeNumber_65 hC hO hR hf t ht1 ht2 σ h)
      · refine g_aload_n hC dX12_takeNumber_50 rfl 0 rfl ?_
        refine g_getR (cj := 15) (k := 6) hC cr12 ui_12 ht1 ht2 (by decide) fl_X12_30 rfl rfl dX12_takeNumber_51 h hf (fun a2 ea2 ka2 na2 h => ?_)
        refine g_aload_n hC dX12_takeNumber_54 rfl 0 rfl ?_
        refine g_getI (k := 7) hC cr12 ui_12 ht1 ht2 (by decide) fl_X12_157 rfl rfl dX12_takeNumber_55 ?_
        refine g_lald hC ka2 na2 dX12_takeNumber_58 h hf (fun h => ?_)
        refine g_iload_n hC dX12_takeNumber_59 rfl 2 rfl ?_
        refine g_i2l hC dX12_takeNumber_60 ?_
        refine g_lc_le (tgt := 70) hC dX12_takeNumber_61 dX12_takeNumber_62 (by decide) h (fun c61 h => ?_) (fun c61 h => ?_)
        · exact g_sub [0] rfl (k_X12_takeNumber_70 hC hO hR hf t ht1 ht2 σ h)
        · exact g_sub [0] rfl (k_X12_takeNumber_65 hC hO hR hf t ht1 ht2 σ h)
set_option maxHeartbeats 4000000 in
set_option maxRecDepth 100000 in
theorem k_X12_takeNumber_0 {E : ET} {F : FT} {fo : Option (Int32 × HS)} (hC : Cx E F 3 cX12_takeNumber RX12 GT) (hO : Ro F rm_X12_takeNumber) (hR : RI E F .int fo) (hf : fo ≠ none) (t : Nat) (ht1 : kd t = 12) (ht2 : AL E t) (x1 : Int32) (x2 : Int32) (σ : HS) (h : f_X12_takeNumber t x1 x2 σ = fo) : G E F 0 [(0, .ref (E.2.2.1 t)), (1, .int x1), (2, .int x2)] [] σ := by
    refine g_aload_n hC dX12_takeNumber_0 rfl 0 rfl ?_
    refine g_getI (k := 8) hC cr12 ui_12 ht1 ht2 (by decide) fl_X12_160 rfl rfl dX12_takeNumber_1 ?_
    refine g_if_ne (tgt := 28) hC dX12_takeNumber_4 (by decide) h (fun c4 h => ?_) (fun c4 h => ?_)
    · exact g_sub [0, 1, 2] rfl (k_X12_takeNumber_28 hC hO hR hf t ht1 ht2 x1 x2 σ h)
    · refine g_aload_n hC dX12_takeNumber_7 rfl 0 rfl ?_
      refine g_getR (cj := 14) (k := 4) hC cr12 ui_12 ht1 ht2 (by decide) fl_X12_24 rfl rfl dX12_takeNumber_8 h hf (fun a1 ea1 ka1 na1 h => ?_)
      refine g_aload_n hC dX12_takeNumber_11 rfl 0 rfl ?_
      refine g_getI (k := 7) hC cr12 ui_12 ht1 ht2 (by decide) fl_X12_157 rfl rfl dX12_takeNumber_12 ?_
      refine g_iald hC ka1 na1 dX12_takeNumber_15 h hf (fun h => ?_)
      refine g_iconst (v := 2) hC dX12_takeNumber_16 (by decide) ?_
      refine g_icmp_eq (tgt := 28) hC dX12_takeNumber_17 (by decide) h (fun c17 h => ?_) (fun c17 h => ?_)
      · exact g_sub [0, 1, 2] rfl (k_X12_takeNumber_28 hC hO hR hf t ht1 ht2 x1 x2 σ h)
      · refine g_aload_n hC dX12_takeNumber_20 rfl 0 rfl ?_
        refine g_iconst (v := 1) hC dX12_takeNumber_21 (by decide) ?_
        obtain ⟨q2, hq2, h⟩ := bd_of h hf
        refine g_cVV (As := [.int 1]) hC hO (c_X12_wrong _ hC.2.2.2.2.2.2.1 t ht1 ht2 1 σ (nn_of hq2)) gc_X12_166 (xk_X12_wrong _ (Nat.le_of_ble_eq_true rfl) (Nat.le_of_ble_eq_true rfl)) cr12 ht1 ht2 rfl (Nat.le_of_ble_eq_true rfl) dX12_takeNumber_22 hq2 ?_
        refine g_goto (tgt := 70) hC dX12_takeNumber_25 (by decide) ?_
        exact g_sub [0] rfl (k_X12_takeNumber_70 hC hO hR hf t ht1 ht2 q2 h)
theorem xk_X12_takeNumber (R : Room) (h1 : 1 + 1 ≤ R.frames) (h2 : 67 ≤ R.locals) : xw R yX12_takeNumber w_X12_takeNumber GT cX12_takeNumber 3 (some .int) rm_X12_takeNumber 2 := ⟨rfl, rfl, rfl, h1, h2, ⟨by decide, by decide⟩, by decide +kernel⟩
theorem c_X12_takeNumber (E : ET) (hE : EO E) (t : Nat) (ht1 : kd t = 12) (ht2 : AL E t) (x1 : Int32) (x2 : Int32) (σ : HS) (hn : f_X12_takeNumber t x1 x2 σ ≠ none) : CoI E yX12_takeNumber w_X12_takeNumber rm_X12_takeNumber [.ref (E.2.2.1 t), .int x1, .int x2] σ (f_X12_takeNumber t x1 x2 σ) := CoI.of (lv := [(0, .ref (E.2.2.1 t)), (1, .int x1), (2, .int x2)]) hE (plainFor_of_name (by decide)) rfl (Nat.le_of_ble_eq_true rfl) rfl (fun F hC hO hR => k_X12_takeNumber_0 hC hO hR hn t ht1 ht2 x1 x2 σ rfl)
def rm_X12_readMeasure : Room := { frames := 2, cells := 0, slots := 0, locals := 67 }
theorem wc_X12_isWord : Cond.code yX12_isWord cX12_isWord 2 (some .boolean) ∈ GT := gtr_20 _ (List.mem_of_getElem? (i := 12) rfl)
theorem gc_X12_169 : GoodIn GT (wsV RX12 169 RX12 yX12_isWord w_X12_isWord) := gi_V (gtr_20 _ (List.mem_of_getElem? (i := 9) rfl)) (gtr_20 _ (List.mem_of_getElem? (i := 10) rfl)) (gtr_20 _ (List.mem_of_getElem? (i := 11) rfl)) (gtr_1 _ (List.mem_of_getElem? (i := 5) rfl)) wc_X12_isWord
theorem fl_X12_193 : Cond.fieldLink RX12 193 "EveryMeasureModel" (TX12 20).2.1 (TX12 20).2.2.1 ∈ GT := gtr_10 _ (List.mem_of_getElem? (i := 14) rfl)
theorem wc_X12_takeNumber : Cond.code yX12_takeNumber cX12_takeNumber 3 (some .int) ∈ GT := gtr_21 _ (List.mem_of_getElem? (i := 0) rfl)
theorem gc_X12_196 : GoodIn GT (wsV RX12 196 RX12 yX12_takeNumber w_X12_takeNumber) := gi_V (gtr_20 _ (List.mem_of_getElem? (i := 21) rfl)) (gtr_20 _ (List.mem_of_getElem? (i := 22) rfl)) (gtr_20 _ (List.mem_of_getElem? (i := 23) rfl)) (gtr_1 _ (List.mem_of_getElem? (i := 5) rfl)) wc_X12_takeNumber
set_option maxHeartbeats 4000000 in
set_option maxRecDepth 100000 in
theorem k_X12_readMeasure_230 {E : ET} {F : FT} {fo : Option HS} (hC : Cx E F 4 cX12_readMeasure RX12 GT) (hO : Ro F rm_X12_readMeasure) (hR : RV E F fo) (hf : fo ≠ none) (σ : HS) (h : f_X12_readMeasure_230 σ = fo) : G E F 230 [] [] σ := by
    exact g_vret hC hR dX12_readMeasure_230 h
set_option maxHeartbeats 4000000 in
set_option maxRecDepth 100000 in
theorem k_X12_readMeasure_229 {E : ET} {F : FT} {fo : Option HS} (hC : Cx E F 4 cX12_readMeasure RX12 GT) (hO : Ro F rm_X12_readMeasure) (hR : RV E F fo) (hf : fo ≠ none) (s0 : Int32) (s1 : Int32) (s2 : Nat) (hs2a : kd s2 = 14) (hs2b : AL E s2) (σ : HS) (h : f_X12_readMeasure_229 s0 s1 s2 σ = fo) : G E F 229 [] [.int s0, .int s1, .ref (E.2.2.1 s2)] σ := by
    refine g_iast hC hs2a hs2b dX12_readMeasure_229 h hf (fun h => ?_)
    exact g_sub [] rfl (k_X12_readMeasure_230 hC hO hR hf (sI σ s2 s1.toNatClampNeg s0) h)
set_option maxHeartbeats 4000000 in
set_option maxRecDepth 100000 in
theorem k_X12_readMeasure_208 {E : ET} {F : FT} {fo : Option HS} (hC : Cx E F 4 cX12_readMeasure RX12 GT) (hO : Ro F rm_X12_readMeasure) (hR : RV E F fo) (hf : fo ≠ none) (t : Nat) (ht1 : kd t = 12) (ht2 : AL E t) (x1 : Int32) (x2 : Int32) (x3 : Int32) (s0 : Int32) (s1 : Int32) (s2 : Nat) (hs2a : kd s2 = 14) (hs2b : AL E s2) (σ : HS) (h : f_X12_readMeasure_208 t x1 x2 x3 s0 s1 s2 σ = fo) : G E F 208 [(0, .ref (E.2.2.1 t)), (1, .int x1), (2, .int x2), (3, .int x3)] [.int s0, .int s1, .ref (E.2.2.1 s2)] σ := by
    refine g_iast hC hs2a hs2b dX12_readMeasure_208 h hf (fun h => ?_)
    refine g_aload_n hC dX12_readMeasure_209 rfl 0 rfl ?_
    refine g_getR (cj := 14) (k := 12) hC cr12 ui_12 ht1 ht2 (by decide) fl_X12_76 rfl rfl dX12_readMeasure_210 h hf (fun a1 ea1 ka1 na1 h => ?_)
    refine g_iload_n hC dX12_readMeasure_213 rfl 2 rfl ?_
    refine g_iload_n hC dX12_readMeasure_214 rfl 1 rfl ?_
    refine g_iconst (v := 2) hC dX12_readMeasure_215 (by decide) ?_
    refine g_icmp_ne (tgt := 223) hC dX12_readMeasure_216 (by decide) h (fun c216 h => ?_) (fun c216 h => ?_)
    · refine g_aload_n hC dX12_readMeasure_223 rfl 0 rfl ?_
      refine g_getR (cj := 14) (k := 12) hC cr12 ui_12 ht1 ht2 (by decide) fl_X12_76 rfl rfl dX12_readMeasure_224 h hf (fun a2 ea2 ka2 na2 h => ?_)
      refine g_iload_n hC dX12_readMeasure_227 rfl 2 rfl ?_
      refine g_iald hC ka2 na2 dX12_readMeasure_228 h hf (fun h => ?_)
      exact g_sub [] rfl (k_X12_readMeasure_229 hC hO hR hf ((sI σ s2 s1.toNatClampNeg s0).1 a2 x2.toNatClampNeg) x2 a1 ka1 na1 (sI σ s2 s1.toNatClampNeg s0) h)
    · refine g_iload_n hC dX12_readMeasure_219 rfl 3 rfl ?_
      refine g_goto (tgt := 229) hC dX12_readMeasure_220 (by decide) ?_
      exact g_sub [] rfl (k_X12_readMeasure_229 hC hO hR hf x3 x2 a1 ka1 na1 (sI σ s2 s1.toNatClampNeg s0) h)
set_option maxHeartbeats 4000000 in
set_option maxRecDepth 100000 in
theorem k_X12_readMeasure_187 {E : ET} {F : FT} {fo : Option HS} (hC : Cx E F 4 cX12_readMeasure RX12 GT) (hO : Ro F rm_X12_readMeasure) (hR : RV E F fo) (hf : fo ≠ none) (t : Nat) (ht1 : kd t = 12) (ht2 : AL E t) (x1 : Int32) (x2 : Int32) (x3 : Int32) (s0 : Int32) (s1 : Int32) (s2 : Nat) (hs2a : kd s2 = 16) (hs2b : AL E s2) (σ : HS) (h : f_X12_readMeasure_187 t x1 x2 x3 s0 s1 s2 σ = fo) : G E F 187 [(0, .ref (E.2.2.1 t)), (1, .int x1), (2, .int x2), (3, .int x3)] [.int s0, .int s1, .ref (E.2.2.1 s2)] σ := by
    refine g_zast hC hs2a hs2b dX12_readMeasure_187 h hf (fun h => ?_)
    refine g_aload_n hC dX12_readMeasure_188 rfl 0 rfl ?_
    refine g_getR (cj := 14) (k := 11) hC cr12 ui_12 ht1 ht2 (by decide) fl_X12_73 rfl rfl dX12_readMeasure_189 h hf (fun a1 ea1 ka1 na1 h => ?_)
    refine g_iload_n hC dX12_readMeasure_192 rfl 2 rfl ?_
    refine g_iload_n hC dX12_readMeasure_193 rfl 1 rfl ?_
    refine g_iconst (v := 1) hC dX12_readMeasure_194 (by decide) ?_
    refine g_icmp_ne (tgt := 202) hC dX12_readMeasure_195 (by decide) h (fun c195 h => ?_) (fun c195 h => ?_)
    · refine g_aload_n hC dX12_readMeasure_202 rfl 0 rfl ?_
      refine g_getR (cj := 14) (k := 11) hC cr12 ui_12 ht1 ht2 (by decide) fl_X12_73 rfl rfl dX12_readMeasure_203 h hf (fun a2 ea2 ka2 na2 h => ?_)
      refine g_iload_n hC dX12_readMeasure_206 rfl 2 rfl ?_
      refine g_iald hC ka2 na2 dX12_readMeasure_207 h hf (fun h => ?_)
      exact g_sub [0, 1, 2, 3] rfl (k_X12_readMeasure_208 hC hO hR hf t ht1 ht2 x1 x2 x3 ((sI σ s2 s1.toNatClampNeg (s0 &&& 1)).1 a2 x2.toNatClampNeg) x2 a1 ka1 na1 (sI σ s2 s1.toNatClampNeg (s0 &&& 1)) h)
    · refine g_iload_n hC dX12_readMeasure_198 rfl 3 rfl ?_
      refine g_goto (tgt := 208) hC dX12_readMeasure_199 (by decide) ?_
      exact g_sub [0, 1, 2, 3] rfl (k_X12_readMeasure_208 hC hO hR hf t ht1 ht2 x1 x2 x3 x3 x2 a1 ka1 na1 (sI σ s2 s1.toNatClampNeg (s0 &&& 1)) h)
set_option maxHeartbeats 4000000 in
set_option maxRecDepth 100000 in
theorem k_X12_readMeasure_182 {E : ET} {F : FT} {fo : Option HS} (hC : Cx E F 4 cX12_readMeasure RX12 GT) (hO : Ro F rm_X12_readMeasure) (hR : RV E F fo) (hf : fo ≠ none) (t : Nat) (ht1 : kd t = 12) (ht2 : AL E t) (x1 : Int32) (x2 : Int32) (x3 : Int32) (s0 : Int32) (s1 : Nat) (hs1a : kd s1 = 16) (hs1b : AL E s1) (σ : HS) (h : f_X12_readMeasure_182 t x1 x2 x3 s0 s1 σ = fo) : G E F 182 [(0, .ref (E.2.2.1 t)), (1, .int x1), (2, .int x2), (3, .int x3)] [.int s0, .ref (E.2.2.1 s1)] σ := by
    refine g_iconst (v := 1) hC dX12_readMeasure_182 (by decide) ?_
    refine g_goto (tgt := 187) hC dX12_readMeasure_183 (by decide) ?_
    exact g_sub [0, 1, 2, 3] rfl (k_X12_readMeasure_187 hC hO hR hf t ht1 ht2 x1 x2 x3 1 s0 s1 hs1a hs1b σ h)
set_option maxHeartbeats 4000000 in
set_option maxRecDepth 100000 in
theorem k_X12_readMeasure_156 {E : ET} {F : FT} {fo : Option HS} (hC : Cx E F 4 cX12_readMeasure RX12 GT) (hO : Ro F rm_X12_readMeasure) (hR : RV E F fo) (hf : fo ≠ none) (t : Nat) (ht1 : kd t = 12) (ht2 : AL E t) (x1 : Int32) (x2 : Int32) (s0 : Int32) (σ : HS) (h : f_X12_readMeasure_156 t x1 x2 s0 σ = fo) : G E F 156 [(0, .ref (E.2.2.1 t)), (1, .int x1), (2, .int x2)] [.int s0] σ := by
    refine g_istore_n (lv' := [(3, .int s0), (0, .ref (E.2.2.1 t)), (1, .int x1), (2, .int x2)]) hC dX12_readMeasure_156 rfl (by decide) rfl ?_
    refine g_aload_n hC dX12_readMeasure_157 rfl 1 rfl ?_
    refine g_getI (k := 8) hC cr12 ui_12 ht1 ht2 (by decide) fl_X12_160 rfl rfl dX12_readMeasure_158 ?_
    refine g_if_ne (tgt := 230) hC dX12_readMeasure_161 (by decide) h (fun c161 h => ?_) (fun c161 h => ?_)
    · exact g_sub [] rfl (k_X12_readMeasure_230 hC hO hR hf σ h)
    · refine g_aload_n hC dX12_readMeasure_164 rfl 1 rfl ?_
      refine g_getR (cj := 16) (k := 10) hC cr12 ui_12 ht1 ht2 (by decide) fl_X12_69 rfl rfl dX12_readMeasure_165 h hf (fun a1 ea1 ka1 na1 h => ?_)
      refine g_iload_n hC dX12_readMeasure_168 rfl 3 rfl ?_
      refine g_iload_n hC dX12_readMeasure_169 rfl 2 rfl ?_
      refine g_if_eq (tgt := 182) hC dX12_readMeasure_170 (by decide) h (fun c170 h => ?_) (fun c170 h => ?_)
      · exact g_sub [1, 2, 3, 0] rfl (k_X12_readMeasure_182 hC hO hR hf t ht1 ht2 x1 x2 s0 x2 a1 ka1 na1 σ h)
      · refine g_aload_n hC dX12_readMeasure_173 rfl 1 rfl ?_
        refine g_getR (cj := 16) (k := 10) hC cr12 ui_12 ht1 ht2 (by decide) fl_X12_69 rfl rfl dX12_readMeasure_174 h hf (fun a2 ea2 ka2 na2 h => ?_)
        refine g_iload_n hC dX12_readMeasure_177 rfl 3 rfl ?_
        refine g_zald hC ka2 na2 dX12_readMeasure_178 h hf (fun h => ?_)
        refine g_if_eq (tgt := 186) hC dX12_readMeasure_179 (by decide) h (fun c179 h => ?_) (fun c179 h => ?_)
        · refine g_iconst (v := 0) hC dX12_readMeasure_186 (by decide) ?_
          exact g_sub [1, 2, 3, 0] rfl (k_X12_readMeasure_187 hC hO hR hf t ht1 ht2 x1 x2 s0 0 x2 a1 ka1 na1 σ h)
        · exact g_sub [1, 2, 3, 0] rfl (k_X12_readMeasure_182 hC hO hR hf t ht1 ht2 x1 x2 s0 x2 a1 ka1 na1 σ h)
set_option maxHeartbeats 4000000 in
set_option maxRecDepth 100000 in
theorem k_X12_readMeasure_127 {E : ET} {F : FT} {fo : Option HS} (hC : Cx E F 4 cX12_readMeasure RX12 GT) (hO : Ro F rm_X12_readMeasure) (hR : RV E F fo) (hf : fo ≠ none) (t : Nat) (ht1 : kd t = 12) (ht2 : AL E t) (x1 : Int32) (σ : HS) (h : f_X12_readMeasure_127 t x1 σ = fo) : G E F 127 [(0, .ref (E.2.2.1 t)), (1, .int x1)] [] σ := by
    refine g_iconst (v := 4) hC dX12_readMeasure_127 (by decide) ?_
    refine g_aload_n hC dX12_readMeasure_128 rfl 0 rfl ?_
    refine g_iconst (v := 0) hC dX12_readMeasure_129 (by decide) ?_
    refine g_aload_n hC dX12_readMeasure_130 rfl 0 rfl ?_
    refine g_getI (k := 20) hC cr12 ui_12 ht1 ht2 (by decide) fl_X12_193 rfl rfl dX12_readMeasure_131 ?_
    refine g_iconst (v := 1) hC dX12_readMeasure_134 (by decide) ?_
    refine g_isub hC dX12_readMeasure_135 ?_
    obtain ⟨q1, hq1, h⟩ := bd_of h hf
    refine g_cVI (As := [.int 0, .int ((σ.1 t 20) - 1)]) hC hO (c_X12_takeNumber _ hC.2.2.2.2.2.2.1 t ht1 ht2 0 ((σ.1 t 20) - 1) σ (nn_of hq1)) gc_X12_196 (xk_X12_takeNumber _ (Nat.le_of_ble_eq_true rfl) (Nat.le_of_ble_eq_true rfl)) cr12 ht1 ht2 rfl (Nat.le_of_ble_eq_true rfl) dX12_readMeasure_136 hq1 ?_
    refine g_iadd hC dX12_readMeasure_139 ?_
    refine g_istore_n (lv' := [(2, .int ((4 : Int32) + q1.1)), (0, .ref (E.2.2.1 t)), (1, .int x1)]) hC dX12_readMeasure_140 rfl (by decide) rfl ?_
    refine g_iload_n hC dX12_readMeasure_141 rfl 2 rfl ?_
    refine g_if_ne (tgt := 149) hC dX12_readMeasure_142 (by decide) h (fun c142 h => ?_) (fun c142 h => ?_)
    · refine g_aload_n hC dX12_readMeasure_149 rfl 1 rfl ?_
      refine g_iconst (v := 0) hC dX12_readMeasure_150 (by decide) ?_
      refine g_bipush (v := 100) hC dX12_readMeasure_151 (by decide) ?_
      obtain ⟨q2, hq2, h⟩ := bd_of h hf
      refine g_cVI (As := [.int 0, .int 100]) hC hO (c_X12_takeNumber _ hC.2.2.2.2.2.2.1 t ht1 ht2 0 100 q1.2 (nn_of hq2)) gc_X12_196 (xk_X12_takeNumber _ (Nat.le_of_ble_eq_true rfl) (Nat.le_of_ble_eq_true rfl)) cr12 ht1 ht2 rfl (Nat.le_of_ble_eq_true rfl) dX12_readMeasure_153 hq2 ?_
      exact g_sub [1, 2, 0] rfl (k_X12_readMeasure_156 hC hO hR hf t ht1 ht2 x1 ((4 : Int32) + q1.1) q2.1 q2.2 h)
    · refine g_iconst (v := 0) hC dX12_readMeasure_145 (by decide) ?_
      refine g_goto (tgt := 156) hC dX12_readMeasure_146 (by decide) ?_
      exact g_sub [1, 2, 0] rfl (k_X12_readMeasure_156 hC hO hR hf t ht1 ht2 x1 ((4 : Int32) + q1.1) 0 q1.2 h)
set_option maxHeartbeats 4000000 in
set_option maxRecDepth 100000 in
theorem k_X12_readMeasure_122 {E : ET} {F : FT} {fo : Option HS} (hC : Cx E F 4 cX12_readMeasure RX12 GT) (hO : Ro F rm_X12_readMeasure) (hR : RV E F fo) (hf : fo ≠ none) (t : Nat) (ht1 : kd t = 12) (ht2 : AL E t) (x1 : Int32) (σ : HS) (h : f_X12_readMeasure_122 t x1 σ = fo) : G E F 122 [(0, .ref (E.2.2.1 t)), (1, .int x1)] [] σ := by
    refine g_aload_n hC dX12_readMeasure_122 rfl 0 rfl ?_
    refine g_iconst (v := 3) hC dX12_readMeasure_123 (by decide) ?_
    obtain ⟨q1, hq1, h⟩ := bd_of h hf
    refine g_cVV (As := [.int 3]) hC hO (c_X12_wrong _ hC.2.2.2.2.2.2.1 t ht1 ht2 3 σ (nn_of hq1)) gc_X12_166 (xk_X12_wrong _ (Nat.le_of_ble_eq_true rfl) (Nat.le_of_ble_eq_true rfl)) cr12 ht1 ht2 rfl (Nat.le_of_ble_eq_true rfl) dX12_readMeasure_124 hq1 ?_
    exact g_sub [0, 1] rfl (k_X12_readMeasure_127 hC hO hR hf t ht1 ht2 x1 q1 h)
set_option maxHeartbeats 4000000 in
set_option maxRecDepth 100000 in
theorem k_X12_readMeasure_25 {E : ET} {F : FT} {fo : Option HS} (hC : Cx E F 4 cX12_readMeasure RX12 GT) (hO : Ro F rm_X12_readMeasure) (hR : RV E F fo) (hf : fo ≠ none) (t : Nat) (ht1 : kd t = 12) (ht2 : AL E t) (s0 : Int32) (σ : HS) (h : f_X12_readMeasure_25 t s0 σ = fo) : G E F 25 [(0, .ref (E.2.2.1 t))] [.int s0] σ := by
    refine g_istore_n (lv' := [(1, .int s0), (0, .ref (E.2.2.1 t))]) hC dX12_readMeasure_25 rfl (by decide) rfl ?_
    refine g_aload_n hC dX12_readMeasure_26 rfl 1 rfl ?_
    refine g_dup hC dX12_readMeasure_27 rfl ?_
    refine g_getI (k := 7) hC cr12 ui_12 ht1 ht2 (by decide) fl_X12_157 rfl rfl dX12_readMeasure_28 ?_
    refine g_iconst (v := 1) hC dX12_readMeasure_31 (by decide) ?_
    refine g_iadd hC dX12_readMeasure_32 ?_
    refine g_putI (k := 7) hC cr12 ui_12 tyX12_ok nmX12 ht1 ht2 (by decide) fl_X12_157 rfl rfl rfl rfl dX12_readMeasure_33 ?_
    refine g_aload_n hC dX12_readMeasure_36 rfl 1 rfl ?_
    refine g_getR (cj := 14) (k := 4) hC cr12 ui_12 ht1 ht2 (by decide) fl_X12_24 rfl rfl dX12_readMeasure_37 h hf (fun a1 ea1 ka1 na1 h => ?_)
    refine g_aload_n hC dX12_readMeasure_40 rfl 1 rfl ?_
    refine g_getI (k := 7) hC cr12 ui_12 ht1 ht2 (by decide) fl_X12_157 rfl rfl dX12_readMeasure_41 ?_
    refine g_iald hC ka1 na1 dX12_readMeasure_44 h hf (fun h => ?_)
    refine g_iconst (v := 2) hC dX12_readMeasure_45 (by decide) ?_
    refine g_icmp_ne (tgt := 127) hC dX12_readMeasure_46 (by decide) h (fun c46 h => ?_) (fun c46 h => ?_)
    · exact g_sub [1, 0] rfl (k_X12_readMeasure_127 hC hO hR hf t ht1 ht2 s0 (sI σ t 7 ((σ.1 t 7) + 1)) h)
    · refine g_aload_n hC dX12_readMeasure_49 rfl 1 rfl ?_
      refine g_getR (cj := 15) (k := 6) hC cr12 ui_12 ht1 ht2 (by decide) fl_X12_30 rfl rfl dX12_readMeasure_50 h hf (fun a2 ea2 ka2 na2 h => ?_)
      refine g_aload_n hC dX12_readMeasure_53 rfl 1 rfl ?_
      refine g_getI (k := 7) hC cr12 ui_12 ht1 ht2 (by decide) fl_X12_157 rfl rfl dX12_readMeasure_54 ?_
      refine g_lald hC ka2 na2 dX12_readMeasure_57 h hf (fun h => ?_)
      refine g_aload_n hC dX12_readMeasure_58 rfl 1 rfl ?_
      refine g_getI (k := 20) hC cr12 ui_12 ht1 ht2 (by decide) fl_X12_193 rfl rfl dX12_readMeasure_59 ?_
      refine g_i2l hC dX12_readMeasure_62 ?_
      refine g_lc_ge (tgt := 127) hC dX12_readMeasure_63 dX12_readMeasure_64 (by decide) h (fun c63 h => ?_) (fun c63 h => ?_)
      · exact g_sub [1, 0] rfl (k_X12_readMeasure_127 hC hO hR hf t ht1 ht2 s0 (sI σ t 7 ((σ.1 t 7) + 1)) h)
      · refine g_iconst (v := 4) hC dX12_readMeasure_67 (by decide) ?_
        refine g_aload_n hC dX12_readMeasure_68 rfl 1 rfl ?_
        refine g_getR (cj := 15) (k := 6) hC cr12 ui_12 ht1 ht2 (by decide) fl_X12_30 rfl rfl dX12_readMeasure_69 h hf (fun a3 ea3 ka3 na3 h => ?_)
        refine g_aload_n hC dX12_readMeasure_72 rfl 1 rfl ?_
        refine g_getI (k := 7) hC cr12 ui_12 ht1 ht2 (by decide) fl_X12_157 rfl rfl dX12_readMeasure_73 ?_
        refine g_lald hC ka3 na3 dX12_readMeasure_76 h hf (fun h => ?_)
        refine g_l2i hC dX12_readMeasure_77 ?_
        refine g_iadd hC dX12_readMeasure_78 ?_
        refine g_istore_n (lv' := [(2, .int ((4 : Int32) + (((sI σ t 7 ((σ.1 t 7) + 1)).2.1 a3 ((sI σ t 7 ((σ.1 t 7) + 1)).1 t 7).toNatClampNeg).toInt32))), (1, .int s0), (0, .ref (E.2.2.1 t))]) hC dX12_readMeasure_79 rfl (by decide) rfl ?_
        refine g_iload_n hC dX12_readMeasure_80 rfl 1 rfl ?_
        refine g_if_ne (tgt := 96) hC dX12_readMeasure_81 (by decide) h (fun c81 h => ?_) (fun c81 h => ?_)
        · refine g_iload_n hC dX12_readMeasure_96 rfl 1 rfl ?_
          refine g_iconst (v := 1) hC dX12_readMeasure_97 (by decide) ?_
          refine g_icmp_ne (tgt := 113) hC dX12_readMeasure_98 (by decide) h (fun c98 h => ?_) (fun c98 h => ?_)
          · refine g_aload_n hC dX12_readMeasure_113 rfl 2 rfl ?_
            refine g_getR (cj := 14) (k := 12) hC cr12 ui_12 ht1 ht2 (by decide) fl_X12_76 rfl rfl dX12_readMeasure_114 h hf (fun a4 ea4 ka4 na4 h => ?_)
            refine g_iload_n hC dX12_readMeasure_117 rfl 0 rfl ?_
            refine g_iald hC ka4 na4 dX12_readMeasure_118 h hf (fun h => ?_)
            refine g_if_lt (tgt := 127) hC dX12_readMeasure_119 (by decide) h (fun c119 h => ?_) (fun c119 h => ?_)
            · exact g_sub [2, 1] rfl (k_X12_readMeasure_127 hC hO hR hf t ht1 ht2 s0 (sI σ t 7 ((σ.1 t 7) + 1)) h)
            · exact g_sub [2, 1] rfl (k_X12_readMeasure_122 hC hO hR hf t ht1 ht2 s0 (sI σ t 7 ((σ.1 t 7) + 1)) h)
          · refine g_aload_n hC dX12_readMeasure_101 rfl 2 rfl ?_
            refine g_getR (cj := 14) (k := 11) hC cr12 ui_12 ht1 ht2 (by decide) fl_X12_73 rfl rfl dX12_readMeasure_102 h hf (fun a5 ea5 ka5 na5 h => ?_)
            refine g_iload_n hC dX12_readMeasure_105 rfl 0 rfl ?_
            refine g_iald hC ka5 na5 dX12_readMeasure_106 h hf (fun h => ?_)
            refine g_if_lt (tgt := 127) hC dX12_readMeasure_107 (by decide) h (fun c107 h => ?_) (fun c107 h => ?_)
            · exact g_sub [2, 1] rfl (k_X12_readMeasure_127 hC hO hR hf t ht1 ht2 s0 (sI σ t 7 ((σ.1 t 7) + 1)) h)
            · refine g_goto (tgt := 122) hC dX12_readMeasure_110 (by decide) ?_
              exact g_sub [2, 1] rfl (k_X12_readMeasure_122 hC hO hR hf t ht1 ht2 s0 (sI σ t 7 ((σ.1 t 7) + 1)) h)
        · refine g_aload_n hC dX12_readMeasure_84 rfl 2 rfl ?_
          refine g_getR (cj := 16) (k := 10) hC cr12 ui_12 ht1 ht2 (by decide) fl_X12_69 rfl rfl dX12_readMeasure_85 h hf (fun a6 ea6 ka6 na6 h => ?_)
          refine g_iload_n hC dX12_readMeasure_88 rfl 0 rfl ?_
          refine g_zald hC ka6 na6 dX12_readMeasure_89 h hf (fun h => ?_)
          refine g_if_eq (tgt := 127) hC dX12_readMeasure_90 (by decide) h (fun c90 h => ?_) (fun c90 h => ?_)
          · exact g_sub [2, 1] rfl (k_X12_readMeasure_127 hC hO hR hf t ht1 ht2 s0 (sI σ t 7 ((σ.1 t 7) + 1)) h)
          · refine g_goto (tgt := 122) hC dX12_readMeasure_93 (by decide) ?_
            exact g_sub [2, 1] rfl (k_X12_readMeasure_122 hC hO hR hf t ht1 ht2 s0 (sI σ t 7 ((σ.1 t 7) + 1)) h)
set_option maxHeartbeats 4000000 in
set_option maxRecDepth 100000 in
theorem k_X12_readMeasure_0 {E : ET} {F : FT} {fo : Option HS} (hC : Cx E F 4 cX12_readMeasure RX12 GT) (hO : Ro F rm_X12_readMeasure) (hR : RV E F fo) (hf : fo ≠ none) (t : Nat) (ht1 : kd t = 12) (ht2 : AL E t) (σ : HS) (h : f_X12_readMeasure t σ = fo) : G E F 0 [(0, .ref (E.2.2.1 t))] [] σ := by
    refine g_aload_n hC dX12_readMeasure_0 rfl 0 rfl ?_
    refine g_iconst (v := 0) hC dX12_readMeasure_1 (by decide) ?_
    obtain ⟨q1, hq1, h⟩ := bd_of h hf
    refine g_cVI (As := [.int 0]) hC hO (c_X12_isWord _ hC.2.2.2.2.2.2.1 t ht1 ht2 0 σ (nn_of hq1)) gc_X12_169 (xk_X12_isWord _ (Nat.le_of_ble_eq_true rfl) (Nat.le_of_ble_eq_true rfl)) cr12 ht1 ht2 rfl (Nat.le_of_ble_eq_true rfl) dX12_readMeasure_2 hq1 ?_
    refine g_if_eq (tgt := 12) hC dX12_readMeasure_5 (by decide) h (fun c5 h => ?_) (fun c5 h => ?_)
    · refine g_aload_n hC dX12_readMeasure_12 rfl 0 rfl ?_
      refine g_iconst (v := 1) hC dX12_readMeasure_13 (by decide) ?_
      obtain ⟨q2, hq2, h⟩ := bd_of h hf
      refine g_cVI (As := [.int 1]) hC hO (c_X12_isWord _ hC.2.2.2.2.2.2.1 t ht1 ht2 1 q1.2 (nn_of hq2)) gc_X12_169 (xk_X12_isWord _ (Nat.le_of_ble_eq_true rfl) (Nat.le_of_ble_eq_true rfl)) cr12 ht1 ht2 rfl (Nat.le_of_ble_eq_true rfl) dX12_readMeasure_14 hq2 ?_
      refine g_if_eq (tgt := 24) hC dX12_readMeasure_17 (by decide) h (fun c17 h => ?_) (fun c17 h => ?_)
      · refine g_iconst (v := 2) hC dX12_readMeasure_24 (by decide) ?_
        exact g_sub [0] rfl (k_X12_readMeasure_25 hC hO hR hf t ht1 ht2 2 q2.2 h)
      · refine g_iconst (v := 1) hC dX12_readMeasure_20 (by decide) ?_
        refine g_goto (tgt := 25) hC dX12_readMeasure_21 (by decide) ?_
        exact g_sub [0] rfl (k_X12_readMeasure_25 hC hO hR hf t ht1 ht2 1 q2.2 h)
    · refine g_iconst (v := 0) hC dX12_readMeasure_8 (by decide) ?_
      refine g_goto (tgt := 25) hC dX12_readMeasure_9 (by decide) ?_
      exact g_sub [0] rfl (k_X12_readMeasure_25 hC hO hR hf t ht1 ht2 0 q1.2 h)
theorem xk_X12_readMeasure (R : Room) (h1 : 2 + 1 ≤ R.frames) (h2 : 102 ≤ R.locals) : xw R yX12_readMeasure w_X12_readMeasure GT cX12_readMeasure 4 none rm_X12_readMeasure 0 := ⟨rfl, rfl, rfl, h1, h2, ⟨by decide, by decide⟩, by decide +kernel⟩
theorem c_X12_readMeasure (E : ET) (hE : EO E) (t : Nat) (ht1 : kd t = 12) (ht2 : AL E t) (σ : HS) (hn : f_X12_readMeasure t σ ≠ none) : CoV E yX12_readMeasure w_X12_readMeasure rm_X12_readMeasure [.ref (E.2.2.1 t)] σ (f_X12_readMeasure t σ) := CoV.of (lv := [(0, .ref (E.2.2.1 t))]) hE (plainFor_of_name (by decide)) rfl (Nat.le_of_ble_eq_true rfl) rfl (fun F hC hO hR => k_X12_readMeasure_0 hC hO hR hn t ht1 ht2 σ rfl)
def rm_X12_personHere : Room := { frames := 1, cells := 0, slots := 0, locals := 33 }
set_option maxHeartbeats 4000000 in
set_option maxRecDepth 100000 in
theorem k_X12_personHere_26 {E : ET} {F : FT} {fo : Option (Int32 × HS)} (hC : Cx E F 3 cX12_personHere RX12 GT) (hO : Ro F rm_X12_personHere) (hR : RI E F .int fo) (hf : fo ≠ none) (t : Nat) (ht1 : kd t = 12) (ht2 : AL E t) (x2 : Int32) (s0 : Int32) (r4 : Int32 → Int32 → HS → Option (Int32 × HS)) (h4 : ∀ (x1 : Int32) (x2 : Int32) (σ : HS), r4 x1 x2 σ = fo → G E F 4 [(0, .ref (E.2.2.1 t)), (1, .int x1), (2, .int x2)] [] σ) (σ : HS) (h : f_X12_personHere_26 r4 t x2 s0 σ = fo) : G E F 26 [(0, .ref (E.2.2.1 t)), (2, .int x2)] [.int s0] σ := by
    refine g_istore_n (lv' := [(1, .int s0), (0, .ref (E.2.2.1 t)), (2, .int x2)]) hC dX12_personHere_26 rfl (by decide) rfl ?_
    refine g_iinc (v := x2 + 1) (lv' := [(2, .int (x2 + 1)), (1, .int s0), (0, .ref (E.2.2.1 t))]) hC dX12_personHere_27 2 rfl rfl (by decide) rfl ?_
    refine g_goto (tgt := 4) hC dX12_personHere_30 (by decide) ?_
    exact g_sub [2, 1, 0] rfl (h4 s0 (x2 + 1) σ h)
set_option maxHeartbeats 4000000 in
set_option maxRecDepth 100000 in
theorem k_X12_personHere_4 {E : ET} {F : FT} {fo : Option (Int32 × HS)} (hC : Cx E F 3 cX12_personHere RX12 GT) (hO : Ro F rm_X12_personHere) (hR : RI E F .int fo) (hf : fo ≠ none) (t : Nat) (ht1 : kd t = 12) (ht2 : AL E t) : ∀ (n : Nat) (x1 : Int32) (x2 : Int32) (σ : HS), f_X12_personHere_4 t n x1 x2 σ = fo → G E F 4 [(0, .ref (E.2.2.1 t)), (1, .int x1), (2, .int x2)] [] σ := by
  intro n
  induction n with
  | zero =>
    intro x1 x2 σ h
    exact absurd (h.symm.trans rfl) hf
  | succ n ih =>
    intro x1 x2 σ h
    refine g_iload_n hC dX12_personHere_4 rfl 2 rfl ?_
    refine g_bipush (v := 8) hC dX12_personHere_5 (by decide) ?_
    refine g_icmp_ge (tgt := 33) hC dX12_personHere_7 (by decide) h (fun c7 h => ?_) (fun c7 h => ?_)
    · refine g_iload_n hC dX12_personHere_33 rfl 1 rfl ?_
      exact g_iret hC hR dX12_personHere_34 rfl h
    · refine g_aload_n hC dX12_personHere_10 rfl 0 rfl ?_
      refine g_bipush (v := 9) hC dX12_personHere_11 (by decide) ?_
      refine g_iload_n hC dX12_personHere_13 rfl 2 rfl ?_
      refine g_iadd hC dX12_personHere_14 ?_
      obtain ⟨q1, hq1, h⟩ := bd_of h hf
      refine g_cVI (As := [.int ((9 : Int32) + x2)]) hC hO (c_X12_isWord _ hC.2.2.2.2.2.2.1 t ht1 ht2 ((9 : Int32) + x2) σ (nn_of hq1)) gc_X12_169 (xk_X12_isWord _ (Nat.le_of_ble_eq_true rfl) (Nat.le_of_ble_eq_true rfl)) cr12 ht1 ht2 rfl (Nat.le_of_ble_eq_true rfl) dX12_personHere_15 hq1 ?_
      refine g_if_eq (tgt := 25) hC dX12_personHere_18 (by decide) h (fun c18 h => ?_) (fun c18 h => ?_)
      · refine g_iload_n hC dX12_personHere_25 rfl 1 rfl ?_
        exact g_sub [0, 2] rfl (k_X12_personHere_26 hC hO hR hf t ht1 ht2 x2 x1 (f_X12_personHere_4 t n) ih q1.2 h)
      · refine g_iload_n hC dX12_personHere_21 rfl 2 rfl ?_
        refine g_goto (tgt := 26) hC dX12_personHere_22 (by decide) ?_
        exact g_sub [0, 2] rfl (k_X12_personHere_26 hC hO hR hf t ht1 ht2 x2 x2 (f_X12_personHere_4 t n) ih q1.2 h)
set_option maxHeartbeats 4000000 in
set_option maxRecDepth 100000 in
theorem k_X12_personHere_0 {E : ET} {F : FT} {fo : Option (Int32 × HS)} (hC : Cx E F 3 cX12_personHere RX12 GT) (hO : Ro F rm_X12_personHere) (hR : RI E F .int fo) (hf : fo ≠ none) (t : Nat) (ht1 : kd t = 12) (ht2 : AL E t) (σ : HS) (h : f_X12_personHere t σ = fo) : G E F 0 [(0, .ref (E.2.2.1 t))] [] σ := by
    refine g_iconst (v := (-1)) hC dX12_personHere_0 (by decide) ?_
    refine g_istore_n (lv' := [(1, .int (-1)), (0, .ref (E.2.2.1 t))]) hC dX12_personHere_1 rfl (by decide) rfl ?_
    refine g_iconst (v := 0) hC dX12_personHere_2 (by decide) ?_
    refine g_istore_n (lv' := [(2, .int 0), (1, .int (-1)), (0, .ref (E.2.2.1 t))]) hC dX12_personHere_3 rfl (by decide) rfl ?_
    exact g_sub [2, 1, 0] rfl (k_X12_personHere_4 hC hO hR hf t ht1 ht2 FU (-1) 0 σ h)
theorem xk_X12_personHere (R : Room) (h1 : 1 + 1 ≤ R.frames) (h2 : 67 ≤ R.locals) : xw R yX12_personHere w_X12_personHere GT cX12_personHere 3 (some .int) rm_X12_personHere 0 := ⟨rfl, rfl, rfl, h1, h2, ⟨by decide, by decide⟩, by decide +kernel⟩
theorem c_X12_personHere (E : ET) (hE : EO E) (t : Nat) (ht1 : kd t = 12) (ht2 : AL E t) (σ : HS) (hn : f_X12_personHere t σ ≠ none) : CoI E yX12_personHere w_X12_personHere rm_X12_personHere [.ref (E.2.2.1 t)] σ (f_X12_personHere t σ) := CoI.of (lv := [(0, .ref (E.2.2.1 t))]) hE (plainFor_of_name (by decide)) rfl (Nat.le_of_ble_eq_true rfl) rfl (fun F hC hO hR => k_X12_personHere_0 hC hO hR hn t ht1 ht2 σ rfl)
def rm_X12_takeOther : Room := { frames := 2, cells := 0, slots := 0, locals := 67 }
set_option maxHeartbeats 4000000 in
set_option maxRecDepth 100000 in
theorem k_X12_takeOther_40 {E : ET} {F : FT} {fo : Option (Int32 × HS)} (hC : Cx E F 3 cX12_takeOther RX12 GT) (hO : Ro F rm_X12_takeOther) (hR : RI E F .int fo) (hf : fo ≠ none) (t : Nat) (ht1 : kd t = 12) (ht2 : AL E t) (x2 : Int32) (σ : HS) (h : f_X12_takeOther_40 t x2 σ = fo) : G E F 40 [(0, .ref (E.2.2.1 t)), (2, .int x2)] [] σ := by
    refine g_aload_n hC dX12_takeOther_40 rfl 0 rfl ?_
    refine g_iconst (v := 0) hC dX12_takeOther_41 (by decide) ?_
    refine g_iload_n hC dX12_takeOther_42 rfl 1 rfl ?_
    obtain ⟨q1, hq1, h⟩ := bd_of h hf
    refine g_cVI (As := [.int 0, .int x2]) hC hO (c_X12_takeNumber _ hC.2.2.2.2.2.2.1 t ht1 ht2 0 x2 σ (nn_of hq1)) gc_X12_196 (xk_X12_takeNumber _ (Nat.le_of_ble_eq_true rfl) (Nat.le_of_ble_eq_true rfl)) cr12 ht1 ht2 rfl (Nat.le_of_ble_eq_true rfl) dX12_takeOther_43 hq1 ?_
    exact g_iret hC hR dX12_takeOther_46 rfl h
set_option maxHeartbeats 4000000 in
set_option maxRecDepth 100000 in
theorem k_X12_takeOther_0 {E : ET} {F : FT} {fo : Option (Int32 × HS)} (hC : Cx E F 3 cX12_takeOther RX12 GT) (hO : Ro F rm_X12_takeOther) (hR : RI E F .int fo) (hf : fo ≠ none) (t : Nat) (ht1 : kd t = 12) (ht2 : AL E t) (x1 : Int32) (x2 : Int32) (σ : HS) (h : f_X12_takeOther t x1 x2 σ = fo) : G E F 0 [(0, .ref (E.2.2.1 t)), (1, .int x1), (2, .int x2)] [] σ := by
    refine g_aload_n hC dX12_takeOther_0 rfl 0 rfl ?_
    refine g_getI (k := 8) hC cr12 ui_12 ht1 ht2 (by decide) fl_X12_160 rfl rfl dX12_takeOther_1 ?_
    refine g_if_ne (tgt := 40) hC dX12_takeOther_4 (by decide) h (fun c4 h => ?_) (fun c4 h => ?_)
    · exact g_sub [0, 2] rfl (k_X12_takeOther_40 hC hO hR hf t ht1 ht2 x2 σ h)
    · refine g_aload_n hC dX12_takeOther_7 rfl 0 rfl ?_
      refine g_getR (cj := 14) (k := 4) hC cr12 ui_12 ht1 ht2 (by decide) fl_X12_24 rfl rfl dX12_takeOther_8 h hf (fun a1 ea1 ka1 na1 h => ?_)
      refine g_aload_n hC dX12_takeOther_11 rfl 0 rfl ?_
      refine g_getI (k := 7) hC cr12 ui_12 ht1 ht2 (by decide) fl_X12_157 rfl rfl dX12_takeOther_12 ?_
      refine g_iald hC ka1 na1 dX12_takeOther_15 h hf (fun h => ?_)
      refine g_iconst (v := 2) hC dX12_takeOther_16 (by decide) ?_
      refine g_icmp_ne (tgt := 40) hC dX12_takeOther_17 (by decide) h (fun c17 h => ?_) (fun c17 h => ?_)
      · exact g_sub [0, 2] rfl (k_X12_takeOther_40 hC hO hR hf t ht1 ht2 x2 σ h)
      · refine g_aload_n hC dX12_takeOther_20 rfl 0 rfl ?_
        refine g_getR (cj := 15) (k := 6) hC cr12 ui_12 ht1 ht2 (by decide) fl_X12_30 rfl rfl dX12_takeOther_21 h hf (fun a2 ea2 ka2 na2 h => ?_)
        refine g_aload_n hC dX12_takeOther_24 rfl 0 rfl ?_
        refine g_getI (k := 7) hC cr12 ui_12 ht1 ht2 (by decide) fl_X12_157 rfl rfl dX12_takeOther_25 ?_
        refine g_lald hC ka2 na2 dX12_takeOther_28 h hf (fun h => ?_)
        refine g_iload_n hC dX12_takeOther_29 rfl 1 rfl ?_
        refine g_i2l hC dX12_takeOther_30 ?_
        refine g_lc_ne (tgt := 40) hC dX12_takeOther_31 dX12_takeOther_32 (by decide) h (fun c31 h => ?_) (fun c31 h => ?_)
        · exact g_sub [0, 2] rfl (k_X12_takeOther_40 hC hO hR hf t ht1 ht2 x2 σ h)
        · refine g_aload_n hC dX12_takeOther_35 rfl 0 rfl ?_
          refine g_iconst (v := 3) hC dX12_takeOther_36 (by decide) ?_
          obtain ⟨q3, hq3, h⟩ := bd_of h hf
          refine g_cVV (As := [.int 3]) hC hO (c_X12_wrong _ hC.2.2.2.2.2.2.1 t ht1 ht2 3 σ (nn_of hq3)) gc_X12_166 (xk_X12_wrong _ (Nat.le_of_ble_eq_true rfl) (Nat.le_of_ble_eq_true rfl)) cr12 ht1 ht2 rfl (Nat.le_of_ble_eq_true rfl) dX12_takeOther_37 hq3 ?_
          exact g_sub [0, 2] rfl (k_X12_takeOther_40 hC hO hR hf t ht1 ht2 x2 q3 h)
theorem xk_X12_takeOther (R : Room) (h1 : 2 + 1 ≤ R.frames) (h2 : 101 ≤ R.locals) : xw R yX12_takeOther w_X12_takeOther GT cX12_takeOther 3 (some .int) rm_X12_takeOther 2 := ⟨rfl, rfl, rfl, h1, h2, ⟨by decide, by decide⟩, by decide +kernel⟩
theorem c_X12_takeOther (E : ET) (hE : EO E) (t : Nat) (ht1 : kd t = 12) (ht2 : AL E t) (x1 : Int32) (x2 : Int32) (σ : HS) (hn : f_X12_takeOther t x1 x2 σ ≠ none) : CoI E yX12_takeOther w_X12_takeOther rm_X12_takeOther [.ref (E.2.2.1 t), .int x1, .int x2] σ (f_X12_takeOther t x1 x2 σ) := CoI.of (lv := [(0, .ref (E.2.2.1 t)), (1, .int x1), (2, .int x2)]) hE (plainFor_of_name (by decide)) rfl (Nat.le_of_ble_eq_true rfl) rfl (fun F hC hO hR => k_X12_takeOther_0 hC hO hR hn t ht1 ht2 x1 x2 σ rfl)
def rm_X12_readSaying : Room := { frames := 3, cells := 0, slots := 0, locals := 101 }
theorem wc_X12_personHere : Cond.code yX12_personHere cX12_personHere 3 (some .int) ∈ GT := gtr_21 _ (List.mem_of_getElem? (i := 8) rfl)
theorem gc_X12_200 : GoodIn GT (wsV RX12 200 RX12 yX12_personHere w_X12_personHere) := gi_V (gtr_21 _ (List.mem_of_getElem? (i := 5) rfl)) (gtr_21 _ (List.mem_of_getElem? (i := 6) rfl)) (gtr_21 _ (List.mem_of_getElem? (i := 7) rfl)) (gtr_1 _ (List.mem_of_getElem? (i := 5) rfl)) wc_X12_personHere
theorem fl_X12_82 : Cond.fieldLink RX12 82 "EveryMeasureModel" (TX12 14).2.1 (TX12 14).2.2.1 ∈ GT := gtr_9 _ (List.mem_of_getElem? (i := 18) rfl)
theorem fl_X12_85 : Cond.fieldLink RX12 85 "EveryMeasureModel" (TX12 15).2.1 (TX12 15).2.2.1 ∈ GT := gtr_9 _ (List.mem_of_getElem? (i := 19) rfl)
theorem fl_X12_94 : Cond.fieldLink RX12 94 "EveryMeasureModel" (TX12 18).2.1 (TX12 18).2.2.1 ∈ GT := gtr_9 _ (List.mem_of_getElem? (i := 22) rfl)
theorem fl_X12_88 : Cond.fieldLink RX12 88 "EveryMeasureModel" (TX12 16).2.1 (TX12 16).2.2.1 ∈ GT := gtr_9 _ (List.mem_of_getElem? (i := 20) rfl)
theorem fl_X12_97 : Cond.fieldLink RX12 97 "EveryMeasureModel" (TX12 19).2.1 (TX12 19).2.2.1 ∈ GT := gtr_9 _ (List.mem_of_getElem? (i := 23) rfl)
theorem wc_X12_takeOther : Cond.code yX12_takeOther cX12_takeOther 3 (some .int) ∈ GT := gtr_21 _ (List.mem_of_getElem? (i := 12) rfl)
theorem gc_X12_204 : GoodIn GT (wsV RX12 204 RX12 yX12_takeOther w_X12_takeOther) := gi_V (gtr_21 _ (List.mem_of_getElem? (i := 9) rfl)) (gtr_21 _ (List.mem_of_getElem? (i := 10) rfl)) (gtr_21 _ (List.mem_of_getElem? (i := 11) rfl)) (gtr_1 _ (List.mem_of_getElem? (i := 5) rfl)) wc_X12_takeOther
theorem fl_X12_91 : Cond.fieldLink RX12 91 "EveryMeasureModel" (TX12 17).2.1 (TX12 17).2.2.1 ∈ GT := gtr_9 _ (List.mem_of_getElem? (i := 21) rfl)
set_option maxHeartbeats 4000000 in
set_option maxRecDepth 100000 in
theorem k_X12_readSaying_293 {E : ET} {F : FT} {fo : Option HS} (hC : Cx E F 5 cX12_readSaying RX12 GT) (hO : Ro F rm_X12_readSaying) (hR : RV E F fo) (hf : fo ≠ none) (t : Nat) (ht1 : kd t = 12) (ht2 : AL E t) (σ : HS) (h : f_X12_readSaying_293 t σ = fo) : G E F 293 [(0, .ref (E.2.2.1 t))] [] σ := by
    refine g_aload_n hC dX12_readSaying_293 rfl 0 rfl ?_
    refine g_getR (cj := 14) (k := 13) hC cr12 ui_12 ht1 ht2 (by decide) fl_X12_79 rfl rfl dX12_readSaying_294 h hf (fun a1 ea1 ka1 na1 h => ?_)
    refine g_iconst (v := 1) hC dX12_readSaying_297 (by decide) ?_
    refine g_dup2_11 hC dX12_readSaying_298 rfl rfl ?_
    refine g_iald hC ka1 na1 dX12_readSaying_299 h hf (fun h => ?_)
    refine g_iconst (v := 1) hC dX12_readSaying_300 (by decide) ?_
    refine g_iadd hC dX12_readSaying_301 ?_
    refine g_iast hC ka1 na1 dX12_readSaying_302 h hf (fun h => ?_)
    exact g_vret hC hR dX12_readSaying_303 h
set_option maxHeartbeats 4000000 in
set_option maxRecDepth 100000 in
theorem k_X12_readSaying_210 {E : ET} {F : FT} {fo : Option HS} (hC : Cx E F 5 cX12_readSaying RX12 GT) (hO : Ro F rm_X12_readSaying) (hR : RV E F fo) (hf : fo ≠ none) (t : Nat) (ht1 : kd t = 12) (ht2 : AL E t) (x3 : Int32) (σ : HS) (h : f_X12_readSaying_210 t x3 σ = fo) : G E F 210 [(0, .ref (E.2.2.1 t)), (3, .int x3)] [] σ := by
    refine g_aload_n hC dX12_readSaying_210 rfl 0 rfl ?_
    refine g_getR (cj := 14) (k := 18) hC cr12 ui_12 ht1 ht2 (by decide) fl_X12_94 rfl rfl dX12_readSaying_211 h hf (fun a1 ea1 ka1 na1 h => ?_)
    refine g_iload_n hC dX12_readSaying_214 rfl 1 rfl ?_
    refine g_aload_n hC dX12_readSaying_215 rfl 0 rfl ?_
    refine g_iconst (v := 0) hC dX12_readSaying_216 (by decide) ?_
    refine g_aload_n hC dX12_readSaying_217 rfl 0 rfl ?_
    refine g_getI (k := 20) hC cr12 ui_12 ht1 ht2 (by decide) fl_X12_193 rfl rfl dX12_readSaying_218 ?_
    refine g_iconst (v := 1) hC dX12_readSaying_221 (by decide) ?_
    refine g_isub hC dX12_readSaying_222 ?_
    obtain ⟨q2, hq2, h⟩ := bd_of h hf
    refine g_cVI (As := [.int 0, .int ((σ.1 t 20) - 1)]) hC hO (c_X12_takeNumber _ hC.2.2.2.2.2.2.1 t ht1 ht2 0 ((σ.1 t 20) - 1) σ (nn_of hq2)) gc_X12_196 (xk_X12_takeNumber _ (Nat.le_of_ble_eq_true rfl) (Nat.le_of_ble_eq_true rfl)) cr12 ht1 ht2 rfl (Nat.le_of_ble_eq_true rfl) dX12_readSaying_223 hq2 ?_
    refine g_iast hC ka1 na1 dX12_readSaying_226 h hf (fun h => ?_)
    refine g_aload_n hC dX12_readSaying_227 rfl 0 rfl ?_
    refine g_getR (cj := 14) (k := 16) hC cr12 ui_12 ht1 ht2 (by decide) fl_X12_88 rfl rfl dX12_readSaying_228 h hf (fun a3 ea3 ka3 na3 h => ?_)
    refine g_iload_n hC dX12_readSaying_231 rfl 1 rfl ?_
    refine g_aload_n hC dX12_readSaying_232 rfl 0 rfl ?_
    refine g_iconst (v := 0) hC dX12_readSaying_233 (by decide) ?_
    refine g_bipush (v := 100) hC dX12_readSaying_234 (by decide) ?_
    obtain ⟨q4, hq4, h⟩ := bd_of h hf
    refine g_cVI (As := [.int 0, .int 100]) hC hO (c_X12_takeNumber _ hC.2.2.2.2.2.2.1 t ht1 ht2 0 100 (sI q2.2 a1 x3.toNatClampNeg q2.1) (nn_of hq4)) gc_X12_196 (xk_X12_takeNumber _ (Nat.le_of_ble_eq_true rfl) (Nat.le_of_ble_eq_true rfl)) cr12 ht1 ht2 rfl (Nat.le_of_ble_eq_true rfl) dX12_readSaying_236 hq4 ?_
    refine g_iast hC ka3 na3 dX12_readSaying_239 h hf (fun h => ?_)
    refine g_goto (tgt := 293) hC dX12_readSaying_240 (by decide) ?_
    exact g_sub [0] rfl (k_X12_readSaying_293 hC hO hR hf t ht1 ht2 (sI q4.2 a3 x3.toNatClampNeg q4.1) h)
set_option maxHeartbeats 4000000 in
set_option maxRecDepth 100000 in
theorem k_X12_readSaying_260 {E : ET} {F : FT} {fo : Option HS} (hC : Cx E F 5 cX12_readSaying RX12 GT) (hO : Ro F rm_X12_readSaying) (hR : RV E F fo) (hf : fo ≠ none) (t : Nat) (ht1 : kd t = 12) (ht2 : AL E t) (x3 : Int32) (s0 : Int32) (σ : HS) (h : f_X12_readSaying_260 t x3 s0 σ = fo) : G E F 260 [(0, .ref (E.2.2.1 t)), (3, .int x3)] [.int s0] σ := by
    refine g_istore (lv' := [(4, .int s0), (0, .ref (E.2.2.1 t)), (3, .int x3)]) hC dX12_readSaying_260 (by decide) rfl ?_
    refine g_aload_n hC dX12_readSaying_262 rfl 1 rfl ?_
    refine g_getR (cj := 14) (k := 18) hC cr12 ui_12 ht1 ht2 (by decide) fl_X12_94 rfl rfl dX12_readSaying_263 h hf (fun a1 ea1 ka1 na1 h => ?_)
    refine g_iload_n hC dX12_readSaying_266 rfl 2 rfl ?_
    refine g_aload_n hC dX12_readSaying_267 rfl 1 rfl ?_
    refine g_iconst (v := 0) hC dX12_readSaying_268 (by decide) ?_
    refine g_iload hC dX12_readSaying_269 0 rfl ?_
    obtain ⟨q2, hq2, h⟩ := bd_of h hf
    refine g_cVI (As := [.int 0, .int s0]) hC hO (c_X12_takeNumber _ hC.2.2.2.2.2.2.1 t ht1 ht2 0 s0 σ (nn_of hq2)) gc_X12_196 (xk_X12_takeNumber _ (Nat.le_of_ble_eq_true rfl) (Nat.le_of_ble_eq_true rfl)) cr12 ht1 ht2 rfl (Nat.le_of_ble_eq_true rfl) dX12_readSaying_271 hq2 ?_
    refine g_iast hC ka1 na1 dX12_readSaying_274 h hf (fun h => ?_)
    refine g_aload_n hC dX12_readSaying_275 rfl 1 rfl ?_
    refine g_getR (cj := 14) (k := 19) hC cr12 ui_12 ht1 ht2 (by decide) fl_X12_97 rfl rfl dX12_readSaying_276 h hf (fun a3 ea3 ka3 na3 h => ?_)
    refine g_iload_n hC dX12_readSaying_279 rfl 2 rfl ?_
    refine g_aload_n hC dX12_readSaying_280 rfl 1 rfl ?_
    refine g_aload_n hC dX12_readSaying_281 rfl 1 rfl ?_
    refine g_getR (cj := 14) (k := 18) hC cr12 ui_12 ht1 ht2 (by decide) fl_X12_94 rfl rfl dX12_readSaying_282 h hf (fun a4 ea4 ka4 na4 h => ?_)
    refine g_iload_n hC dX12_readSaying_285 rfl 2 rfl ?_
    refine g_iald hC ka4 na4 dX12_readSaying_286 h hf (fun h => ?_)
    refine g_iload hC dX12_readSaying_287 0 rfl ?_
    obtain ⟨q5, hq5, h⟩ := bd_of h hf
    refine g_cVI (As := [.int ((sI q2.2 a1 x3.toNatClampNeg q2.1).1 a4 x3.toNatClampNeg), .int s0]) hC hO (c_X12_takeOther _ hC.2.2.2.2.2.2.1 t ht1 ht2 ((sI q2.2 a1 x3.toNatClampNeg q2.1).1 a4 x3.toNatClampNeg) s0 (sI q2.2 a1 x3.toNatClampNeg q2.1) (nn_of hq5)) gc_X12_204 (xk_X12_takeOther _ (Nat.le_of_ble_eq_true rfl) (Nat.le_of_ble_eq_true rfl)) cr12 ht1 ht2 rfl (Nat.le_of_ble_eq_true rfl) dX12_readSaying_289 hq5 ?_
    refine g_iast hC ka3 na3 dX12_readSaying_292 h hf (fun h => ?_)
    exact g_sub [1] rfl (k_X12_readSaying_293 hC hO hR hf t ht1 ht2 (sI q5.2 a3 x3.toNatClampNeg q5.1) h)
set_option maxHeartbeats 4000000 in
set_option maxRecDepth 100000 in
theorem k_X12_readSaying_74 {E : ET} {F : FT} {fo : Option HS} (hC : Cx E F 5 cX12_readSaying RX12 GT) (hO : Ro F rm_X12_readSaying) (hR : RV E F fo) (hf : fo ≠ none) (t : Nat) (ht1 : kd t = 12) (ht2 : AL E t) (x1 : Int32) (x3 : Int32) (s0 : Int32) (r55 : Int32 → Int32 → HS → Option HS) (h55 : ∀ (x2 : Int32) (x3 : Int32) (σ : HS), r55 x2 x3 σ = fo → G E F 55 [(0, .ref (E.2.2.1 t)), (1, .int x1), (2, .int x2), (3, .int x3)] [] σ) (σ : HS) (h : f_X12_readSaying_74 r55 t x1 x3 s0 σ = fo) : G E F 74 [(0, .ref (E.2.2.1 t)), (1, .int x1), (3, .int x3)] [.int s0] σ := by
    refine g_istore_n (lv' := [(2, .int s0), (0, .ref (E.2.2.1 t)), (1, .int x1), (3, .int x3)]) hC dX12_readSaying_74 rfl (by decide) rfl ?_
    refine g_iinc (v := x3 + 1) (lv' := [(3, .int (x3 + 1)), (2, .int s0), (0, .ref (E.2.2.1 t)), (1, .int x1)]) hC dX12_readSaying_75 3 rfl rfl (by decide) rfl ?_
    refine g_goto (tgt := 55) hC dX12_readSaying_78 (by decide) ?_
    exact g_sub [2, 3, 1, 0] rfl (h55 s0 (x3 + 1) σ h)
set_option maxHeartbeats 4000000 in
set_option maxRecDepth 100000 in
theorem k_X12_readSaying_55 {E : ET} {F : FT} {fo : Option HS} (hC : Cx E F 5 cX12_readSaying RX12 GT) (hO : Ro F rm_X12_readSaying) (hR : RV E F fo) (hf : fo ≠ none) (t : Nat) (ht1 : kd t = 12) (ht2 : AL E t) (x1 : Int32) : ∀ (n : Nat) (x2 : Int32) (x3 : Int32) (σ : HS), f_X12_readSaying_55 t x1 n x2 x3 σ = fo → G E F 55 [(0, .ref (E.2.2.1 t)), (1, .int x1), (2, .int x2), (3, .int x3)] [] σ := by
  intro n
  induction n with
  | zero =>
    intro x2 x3 σ h
    exact absurd (h.symm.trans rfl) hf
  | succ n ih =>
    intro x2 x3 σ h
    refine g_iload_n hC dX12_readSaying_55 rfl 3 rfl ?_
    refine g_bipush (v := 8) hC dX12_readSaying_56 (by decide) ?_
    refine g_icmp_gt (tgt := 81) hC dX12_readSaying_58 (by decide) h (fun c58 h => ?_) (fun c58 h => ?_)
    · refine g_iload_n hC dX12_readSaying_81 rfl 2 rfl ?_
      refine g_if_ge (tgt := 91) hC dX12_readSaying_82 (by decide) h (fun c82 h => ?_) (fun c82 h => ?_)
      · refine g_aload_n hC dX12_readSaying_91 rfl 0 rfl ?_
        refine g_dup hC dX12_readSaying_92 rfl ?_
        refine g_getI (k := 7) hC cr12 ui_12 ht1 ht2 (by decide) fl_X12_157 rfl rfl dX12_readSaying_93 ?_
        refine g_iconst (v := 1) hC dX12_readSaying_96 (by decide) ?_
        refine g_iadd hC dX12_readSaying_97 ?_
        refine g_putI (k := 7) hC cr12 ui_12 tyX12_ok nmX12 ht1 ht2 (by decide) fl_X12_157 rfl rfl rfl rfl dX12_readSaying_98 ?_
        refine g_bipush (v := 12) hC dX12_readSaying_101 (by decide) ?_
        refine g_aload_n hC dX12_readSaying_103 rfl 0 rfl ?_
        refine g_getR (cj := 14) (k := 13) hC cr12 ui_12 ht1 ht2 (by decide) fl_X12_79 rfl rfl dX12_readSaying_104 h hf (fun a1 ea1 ka1 na1 h => ?_)
        refine g_iconst (v := 1) hC dX12_readSaying_107 (by decide) ?_
        refine g_iald hC ka1 na1 dX12_readSaying_108 h hf (fun h => ?_)
        refine g_iadd hC dX12_readSaying_109 ?_
        refine g_istore_n (lv' := [(3, .int ((12 : Int32) + ((sI σ t 7 ((σ.1 t 7) + 1)).1 a1 (1 : Int32).toNatClampNeg))), (0, .ref (E.2.2.1 t)), (1, .int x1), (2, .int x2)]) hC dX12_readSaying_110 rfl (by decide) rfl ?_
        refine g_aload_n hC dX12_readSaying_111 rfl 1 rfl ?_
        refine g_getR (cj := 14) (k := 14) hC cr12 ui_12 ht1 ht2 (by decide) fl_X12_82 rfl rfl dX12_readSaying_112 h hf (fun a2 ea2 ka2 na2 h => ?_)
        refine g_iload_n hC dX12_readSaying_115 rfl 0 rfl ?_
        refine g_iload_n hC dX12_readSaying_116 rfl 2 rfl ?_
        refine g_iast hC ka2 na2 dX12_readSaying_117 h hf (fun h => ?_)
        refine g_aload_n hC dX12_readSaying_118 rfl 1 rfl ?_
        refine g_getR (cj := 14) (k := 15) hC cr12 ui_12 ht1 ht2 (by decide) fl_X12_85 rfl rfl dX12_readSaying_119 h hf (fun a3 ea3 ka3 na3 h => ?_)
        refine g_iload_n hC dX12_readSaying_122 rfl 0 rfl ?_
        refine g_iload_n hC dX12_readSaying_123 rfl 3 rfl ?_
        refine g_iast hC ka3 na3 dX12_readSaying_124 h hf (fun h => ?_)
        refine g_iload_n hC dX12_readSaying_125 rfl 3 rfl ?_
        refine g_iconst (v := 5) hC dX12_readSaying_126 (by decide) ?_
        refine g_icmp_ne (tgt := 198) hC dX12_readSaying_127 (by decide) h (fun c127 h => ?_) (fun c127 h => ?_)
        · refine g_iload_n hC dX12_readSaying_198 rfl 3 rfl ?_
          refine g_bipush (v := 6) hC dX12_readSaying_199 (by decide) ?_
          refine g_icmp_eq (tgt := 210) hC dX12_readSaying_201 (by decide) h (fun c201 h => ?_) (fun c201 h => ?_)
          · exact g_sub [1, 0] rfl (k_X12_readSaying_210 hC hO hR hf t ht1 ht2 ((12 : Int32) + ((sI σ t 7 ((σ.1 t 7) + 1)).1 a1 (1 : Int32).toNatClampNeg)) (sI (sI (sI σ t 7 ((σ.1 t 7) + 1)) a2 ((12 : Int32) + ((sI σ t 7 ((σ.1 t 7) + 1)).1 a1 (1 : Int32).toNatClampNeg)).toNatClampNeg x1) a3 ((12 : Int32) + ((sI σ t 7 ((σ.1 t 7) + 1)).1 a1 (1 : Int32).toNatClampNeg)).toNatClampNeg x2) h)
          · refine g_iload_n hC dX12_readSaying_204 rfl 3 rfl ?_
            refine g_bipush (v := 7) hC dX12_readSaying_205 (by decide) ?_
            refine g_icmp_ne (tgt := 243) hC dX12_readSaying_207 (by decide) h (fun c207 h => ?_) (fun c207 h => ?_)
            · refine g_iload_n hC dX12_readSaying_243 rfl 3 rfl ?_
              refine g_bipush (v := 8) hC dX12_readSaying_244 (by decide) ?_
              refine g_icmp_ne (tgt := 254) hC dX12_readSaying_246 (by decide) h (fun c246 h => ?_) (fun c246 h => ?_)
              · refine g_aload_n hC dX12_readSaying_254 rfl 1 rfl ?_
                refine g_getI (k := 20) hC cr12 ui_12 ht1 ht2 (by decide) fl_X12_193 rfl rfl dX12_readSaying_255 ?_
                refine g_iconst (v := 1) hC dX12_readSaying_258 (by decide) ?_
                refine g_isub hC dX12_readSaying_259 ?_
                exact g_sub [1, 0] rfl (k_X12_readSaying_260 hC hO hR hf t ht1 ht2 ((12 : Int32) + ((sI σ t 7 ((σ.1 t 7) + 1)).1 a1 (1 : Int32).toNatClampNeg)) (((sI (sI (sI σ t 7 ((σ.1 t 7) + 1)) a2 ((12 : Int32) + ((sI σ t 7 ((σ.1 t 7) + 1)).1 a1 (1 : Int32).toNatClampNeg)).toNatClampNeg x1) a3 ((12 : Int32) + ((sI σ t 7 ((σ.1 t 7) + 1)).1 a1 (1 : Int32).toNatClampNeg)).toNatClampNeg x2).1 t 20) - 1) (sI (sI (sI σ t 7 ((σ.1 t 7) + 1)) a2 ((12 : Int32) + ((sI σ t 7 ((σ.1 t 7) + 1)).1 a1 (1 : Int32).toNatClampNeg)).toNatClampNeg x1) a3 ((12 : Int32) + ((sI σ t 7 ((σ.1 t 7) + 1)).1 a1 (1 : Int32).toNatClampNeg)).toNatClampNeg x2) h)
              · refine g_bipush (v := 7) hC dX12_readSaying_249 (by decide) ?_
                refine g_goto (tgt := 260) hC dX12_readSaying_251 (by decide) ?_
                exact g_sub [1, 0] rfl (k_X12_readSaying_260 hC hO hR hf t ht1 ht2 ((12 : Int32) + ((sI σ t 7 ((σ.1 t 7) + 1)).1 a1 (1 : Int32).toNatClampNeg)) 7 (sI (sI (sI σ t 7 ((σ.1 t 7) + 1)) a2 ((12 : Int32) + ((sI σ t 7 ((σ.1 t 7) + 1)).1 a1 (1 : Int32).toNatClampNeg)).toNatClampNeg x1) a3 ((12 : Int32) + ((sI σ t 7 ((σ.1 t 7) + 1)).1 a1 (1 : Int32).toNatClampNeg)).toNatClampNeg x2) h)
            · exact g_sub [1, 0] rfl (k_X12_readSaying_210 hC hO hR hf t ht1 ht2 ((12 : Int32) + ((sI σ t 7 ((σ.1 t 7) + 1)).1 a1 (1 : Int32).toNatClampNeg)) (sI (sI (sI σ t 7 ((σ.1 t 7) + 1)) a2 ((12 : Int32) + ((sI σ t 7 ((σ.1 t 7) + 1)).1 a1 (1 : Int32).toNatClampNeg)).toNatClampNeg x1) a3 ((12 : Int32) + ((sI σ t 7 ((σ.1 t 7) + 1)).1 a1 (1 : Int32).toNatClampNeg)).toNatClampNeg x2) h)
        · refine g_aload_n hC dX12_readSaying_130 rfl 1 rfl ?_
          refine g_getR (cj := 14) (k := 16) hC cr12 ui_12 ht1 ht2 (by decide) fl_X12_88 rfl rfl dX12_readSaying_131 h hf (fun a4 ea4 ka4 na4 h => ?_)
          refine g_iload_n hC dX12_readSaying_134 rfl 0 rfl ?_
          refine g_aload_n hC dX12_readSaying_135 rfl 1 rfl ?_
          refine g_iconst (v := 1) hC dX12_readSaying_136 (by decide) ?_
          refine g_bipush (v := 100) hC dX12_readSaying_137 (by decide) ?_
          obtain ⟨q5, hq5, h⟩ := bd_of h hf
          refine g_cVI (As := [.int 1, .int 100]) hC hO (c_X12_takeNumber _ hC.2.2.2.2.2.2.1 t ht1 ht2 1 100 (sI (sI (sI σ t 7 ((σ.1 t 7) + 1)) a2 ((12 : Int32) + ((sI σ t 7 ((σ.1 t 7) + 1)).1 a1 (1 : Int32).toNatClampNeg)).toNatClampNeg x1) a3 ((12 : Int32) + ((sI σ t 7 ((σ.1 t 7) + 1)).1 a1 (1 : Int32).toNatClampNeg)).toNatClampNeg x2) (nn_of hq5)) gc_X12_196 (xk_X12_takeNumber _ (Nat.le_of_ble_eq_true rfl) (Nat.le_of_ble_eq_true rfl)) cr12 ht1 ht2 rfl (Nat.le_of_ble_eq_true rfl) dX12_readSaying_139 hq5 ?_
          refine g_iast hC ka4 na4 dX12_readSaying_142 h hf (fun h => ?_)
          refine g_aload_n hC dX12_readSaying_143 rfl 1 rfl ?_
          refine g_getR (cj := 14) (k := 18) hC cr12 ui_12 ht1 ht2 (by decide) fl_X12_94 rfl rfl dX12_readSaying_144 h hf (fun a6 ea6 ka6 na6 h => ?_)
          refine g_iload_n hC dX12_readSaying_147 rfl 0 rfl ?_
          refine g_aload_n hC dX12_readSaying_148 rfl 1 rfl ?_
          refine g_iconst (v := 0) hC dX12_readSaying_149 (by decide) ?_
          refine g_aload_n hC dX12_readSaying_150 rfl 1 rfl ?_
          refine g_getI (k := 20) hC cr12 ui_12 ht1 ht2 (by decide) fl_X12_193 rfl rfl dX12_readSaying_151 ?_
          refine g_iconst (v := 1) hC dX12_readSaying_154 (by decide) ?_
          refine g_isub hC dX12_readSaying_155 ?_
          obtain ⟨q7, hq7, h⟩ := bd_of h hf
          refine g_cVI (As := [.int 0, .int (((sI q5.2 a4 ((12 : Int32) + ((sI σ t 7 ((σ.1 t 7) + 1)).1 a1 (1 : Int32).toNatClampNeg)).toNatClampNeg q5.1).1 t 20) - 1)]) hC hO (c_X12_takeNumber _ hC.2.2.2.2.2.2.1 t ht1 ht2 0 (((sI q5.2 a4 ((12 : Int32) + ((sI σ t 7 ((σ.1 t 7) + 1)).1 a1 (1 : Int32).toNatClampNeg)).toNatClampNeg q5.1).1 t 20) - 1) (sI q5.2 a4 ((12 : Int32) + ((sI σ t 7 ((σ.1 t 7) + 1)).1 a1 (1 : Int32).toNatClampNeg)).toNatClampNeg q5.1) (nn_of hq7)) gc_X12_196 (xk_X12_takeNumber _ (Nat.le_of_ble_eq_true rfl) (Nat.le_of_ble_eq_true rfl)) cr12 ht1 ht2 rfl (Nat.le_of_ble_eq_true rfl) dX12_readSaying_156 hq7 ?_
          refine g_iast hC ka6 na6 dX12_readSaying_159 h hf (fun h => ?_)
          refine g_aload_n hC dX12_readSaying_160 rfl 1 rfl ?_
          refine g_getR (cj := 14) (k := 17) hC cr12 ui_12 ht1 ht2 (by decide) fl_X12_91 rfl rfl dX12_readSaying_161 h hf (fun a8 ea8 ka8 na8 h => ?_)
          refine g_iload_n hC dX12_readSaying_164 rfl 0 rfl ?_
          refine g_aload_n hC dX12_readSaying_165 rfl 1 rfl ?_
          refine g_iconst (v := 1) hC dX12_readSaying_166 (by decide) ?_
          refine g_bipush (v := 100) hC dX12_readSaying_167 (by decide) ?_
          obtain ⟨q9, hq9, h⟩ := bd_of h hf
          refine g_cVI (As := [.int 1, .int 100]) hC hO (c_X12_takeNumber _ hC.2.2.2.2.2.2.1 t ht1 ht2 1 100 (sI q7.2 a6 ((12 : Int32) + ((sI σ t 7 ((σ.1 t 7) + 1)).1 a1 (1 : Int32).toNatClampNeg)).toNatClampNeg q7.1) (nn_of hq9)) gc_X12_196 (xk_X12_takeNumber _ (Nat.le_of_ble_eq_true rfl) (Nat.le_of_ble_eq_true rfl)) cr12 ht1 ht2 rfl (Nat.le_of_ble_eq_true rfl) dX12_readSaying_169 hq9 ?_
          refine g_iast hC ka8 na8 dX12_readSaying_172 h hf (fun h => ?_)
          refine g_aload_n hC dX12_readSaying_173 rfl 1 rfl ?_
          refine g_getR (cj := 14) (k := 19) hC cr12 ui_12 ht1 ht2 (by decide) fl_X12_97 rfl rfl dX12_readSaying_174 h hf (fun a10 ea10 ka10 na10 h => ?_)
          refine g_iload_n hC dX12_readSaying_177 rfl 0 rfl ?_
          refine g_aload_n hC dX12_readSaying_178 rfl 1 rfl ?_
          refine g_aload_n hC dX12_readSaying_179 rfl 1 rfl ?_
          refine g_getR (cj := 14) (k := 18) hC cr12 ui_12 ht1 ht2 (by decide) fl_X12_94 rfl rfl dX12_readSaying_180 h hf (fun a11 ea11 ka11 na11 h => ?_)
          refine g_iload_n hC dX12_readSaying_183 rfl 0 rfl ?_
          refine g_iald hC ka11 na11 dX12_readSaying_184 h hf (fun h => ?_)
          refine g_aload_n hC dX12_readSaying_185 rfl 1 rfl ?_
          refine g_getI (k := 20) hC cr12 ui_12 ht1 ht2 (by decide) fl_X12_193 rfl rfl dX12_readSaying_186 ?_
          refine g_iconst (v := 1) hC dX12_readSaying_189 (by decide) ?_
          refine g_isub hC dX12_readSaying_190 ?_
          obtain ⟨q12, hq12, h⟩ := bd_of h hf
          refine g_cVI (As := [.int ((sI q9.2 a8 ((12 : Int32) + ((sI σ t 7 ((σ.1 t 7) + 1)).1 a1 (1 : Int32).toNatClampNeg)).toNatClampNeg q9.1).1 a11 ((12 : Int32) + ((sI σ t 7 ((σ.1 t 7) + 1)).1 a1 (1 : Int32).toNatClampNeg)).toNatClampNeg), .int (((sI q9.2 a8 ((12 : Int32) + ((sI σ t 7 ((σ.1 t 7) + 1)).1 a1 (1 : Int32).toNatClampNeg)).toNatClampNeg q9.1).1 t 20) - 1)]) hC hO (c_X12_takeOther _ hC.2.2.2.2.2.2.1 t ht1 ht2 ((sI q9.2 a8 ((12 : Int32) + ((sI σ t 7 ((σ.1 t 7) + 1)).1 a1 (1 : Int32).toNatClampNeg)).toNatClampNeg q9.1).1 a11 ((12 : Int32) + ((sI σ t 7 ((σ.1 t 7) + 1)).1 a1 (1 : Int32).toNatClampNeg)).toNatClampNeg) (((sI q9.2 a8 ((12 : Int32) + ((sI σ t 7 ((σ.1 t 7) + 1)).1 a1 (1 : Int32).toNatClampNeg)).toNatClampNeg q9.1).1 t 20) - 1) (sI q9.2 a8 ((12 : Int32) + ((sI σ t 7 ((σ.1 t 7) + 1)).1 a1 (1 : Int32).toNatClampNeg)).toNatClampNeg q9.1) (nn_of hq12)) gc_X12_204 (xk_X12_takeOther _ (Nat.le_of_ble_eq_true rfl) (Nat.le_of_ble_eq_true rfl)) cr12 ht1 ht2 rfl (Nat.le_of_ble_eq_true rfl) dX12_readSaying_191 hq12 ?_
          refine g_iast hC ka10 na10 dX12_readSaying_194 h hf (fun h => ?_)
          refine g_goto (tgt := 293) hC dX12_readSaying_195 (by decide) ?_
          exact g_sub [1] rfl (k_X12_readSaying_293 hC hO hR hf t ht1 ht2 (sI q12.2 a10 ((12 : Int32) + ((sI σ t 7 ((σ.1 t 7) + 1)).1 a1 (1 : Int32).toNatClampNeg)).toNatClampNeg q12.1) h)
      · refine g_aload_n hC dX12_readSaying_85 rfl 0 rfl ?_
        refine g_iconst (v := 1) hC dX12_readSaying_86 (by decide) ?_
        obtain ⟨q13, hq13, h⟩ := bd_of h hf
        refine g_cVV (As := [.int 1]) hC hO (c_X12_wrong _ hC.2.2.2.2.2.2.1 t ht1 ht2 1 σ (nn_of hq13)) gc_X12_166 (xk_X12_wrong _ (Nat.le_of_ble_eq_true rfl) (Nat.le_of_ble_eq_true rfl)) cr12 ht1 ht2 rfl (Nat.le_of_ble_eq_true rfl) dX12_readSaying_87 hq13 ?_
        exact g_vret hC hR dX12_readSaying_90 h
    · refine g_aload_n hC dX12_readSaying_61 rfl 0 rfl ?_
      refine g_iload_n hC dX12_readSaying_62 rfl 3 rfl ?_
      obtain ⟨q14, hq14, h⟩ := bd_of h hf
      refine g_cVI (As := [.int x3]) hC hO (c_X12_isWord _ hC.2.2.2.2.2.2.1 t ht1 ht2 x3 σ (nn_of hq14)) gc_X12_169 (xk_X12_isWord _ (Nat.le_of_ble_eq_true rfl) (Nat.le_of_ble_eq_true rfl)) cr12 ht1 ht2 rfl (Nat.le_of_ble_eq_true rfl) dX12_readSaying_63 hq14 ?_
      refine g_if_eq (tgt := 73) hC dX12_readSaying_66 (by decide) h (fun c66 h => ?_) (fun c66 h => ?_)
      · refine g_iload_n hC dX12_readSaying_73 rfl 2 rfl ?_
        exact g_sub [0, 1, 3] rfl (k_X12_readSaying_74 hC hO hR hf t ht1 ht2 x1 x3 x2 (f_X12_readSaying_55 t x1 n) ih q14.2 h)
      · refine g_iload_n hC dX12_readSaying_69 rfl 3 rfl ?_
        refine g_goto (tgt := 74) hC dX12_readSaying_70 (by decide) ?_
        exact g_sub [0, 1, 3] rfl (k_X12_readSaying_74 hC hO hR hf t ht1 ht2 x1 x3 x3 (f_X12_readSaying_55 t x1 n) ih q14.2 h)
set_option maxHeartbeats 4000000 in
set_option maxRecDepth 100000 in
theorem k_X12_readSaying_33 {E : ET} {F : FT} {fo : Option HS} (hC : Cx E F 5 cX12_readSaying RX12 GT) (hO : Ro F rm_X12_readSaying) (hR : RV E F fo) (hf : fo ≠ none) (t : Nat) (ht1 : kd t = 12) (ht2 : AL E t) (x1 : Int32) (σ : HS) (h : f_X12_readSaying_33 t x1 σ = fo) : G E F 33 [(0, .ref (E.2.2.1 t)), (1, .int x1)] [] σ := by
    refine g_aload_n hC dX12_readSaying_33 rfl 0 rfl ?_
    refine g_getI (k := 8) hC cr12 ui_12 ht1 ht2 (by decide) fl_X12_160 rfl rfl dX12_readSaying_34 ?_
    refine g_if_le (tgt := 41) hC dX12_readSaying_37 (by decide) h (fun c37 h => ?_) (fun c37 h => ?_)
    · refine g_aload_n hC dX12_readSaying_41 rfl 0 rfl ?_
      refine g_dup hC dX12_readSaying_42 rfl ?_
      refine g_getI (k := 7) hC cr12 ui_12 ht1 ht2 (by decide) fl_X12_157 rfl rfl dX12_readSaying_43 ?_
      refine g_iconst (v := 1) hC dX12_readSaying_46 (by decide) ?_
      refine g_iadd hC dX12_readSaying_47 ?_
      refine g_putI (k := 7) hC cr12 ui_12 tyX12_ok nmX12 ht1 ht2 (by decide) fl_X12_157 rfl rfl rfl rfl dX12_readSaying_48 ?_
      refine g_iconst (v := (-1)) hC dX12_readSaying_51 (by decide) ?_
      refine g_istore_n (lv' := [(2, .int (-1)), (0, .ref (E.2.2.1 t)), (1, .int x1)]) hC dX12_readSaying_52 rfl (by decide) rfl ?_
      refine g_iconst (v := 3) hC dX12_readSaying_53 (by decide) ?_
      refine g_istore_n (lv' := [(3, .int 3), (2, .int (-1)), (0, .ref (E.2.2.1 t)), (1, .int x1)]) hC dX12_readSaying_54 rfl (by decide) rfl ?_
      exact g_sub [2, 3, 1, 0] rfl (k_X12_readSaying_55 hC hO hR hf t ht1 ht2 x1 FU (-1) 3 (sI σ t 7 ((σ.1 t 7) + 1)) h)
    · exact g_vret hC hR dX12_readSaying_40 h
set_option maxHeartbeats 4000000 in
set_option maxRecDepth 100000 in
theorem k_X12_readSaying_0 {E : ET} {F : FT} {fo : Option HS} (hC : Cx E F 5 cX12_readSaying RX12 GT) (hO : Ro F rm_X12_readSaying) (hR : RV E F fo) (hf : fo ≠ none) (t : Nat) (ht1 : kd t = 12) (ht2 : AL E t) (σ : HS) (h : f_X12_readSaying t σ = fo) : G E F 0 [(0, .ref (E.2.2.1 t))] [] σ := by
    refine g_aload_n hC dX12_readSaying_0 rfl 0 rfl ?_
    obtain ⟨q1, hq1, h⟩ := bd_of h hf
    refine g_cVI (As := []) hC hO (c_X12_personHere _ hC.2.2.2.2.2.2.1 t ht1 ht2 σ (nn_of hq1)) gc_X12_200 (xk_X12_personHere _ (Nat.le_of_ble_eq_true rfl) (Nat.le_of_ble_eq_true rfl)) cr12 ht1 ht2 rfl (Nat.le_of_ble_eq_true rfl) dX12_readSaying_1 hq1 ?_
    refine g_istore_n (lv' := [(1, .int q1.1), (0, .ref (E.2.2.1 t))]) hC dX12_readSaying_4 rfl (by decide) rfl ?_
    refine g_iload_n hC dX12_readSaying_5 rfl 0 rfl ?_
    refine g_if_ge (tgt := 17) hC dX12_readSaying_6 (by decide) h (fun c6 h => ?_) (fun c6 h => ?_)
    · refine g_aload_n hC dX12_readSaying_17 rfl 1 rfl ?_
      refine g_getR (cj := 14) (k := 13) hC cr12 ui_12 ht1 ht2 (by decide) fl_X12_79 rfl rfl dX12_readSaying_18 h hf (fun a2 ea2 ka2 na2 h => ?_)
      refine g_iconst (v := 1) hC dX12_readSaying_21 (by decide) ?_
      refine g_iald hC ka2 na2 dX12_readSaying_22 h hf (fun h => ?_)
      refine g_bipush (v := 12) hC dX12_readSaying_23 (by decide) ?_
      refine g_icmp_ne (tgt := 33) hC dX12_readSaying_25 (by decide) h (fun c25 h => ?_) (fun c25 h => ?_)
      · exact g_sub [1, 0] rfl (k_X12_readSaying_33 hC hO hR hf t ht1 ht2 q1.1 q1.2 h)
      · refine g_aload_n hC dX12_readSaying_28 rfl 1 rfl ?_
        refine g_iconst (v := 5) hC dX12_readSaying_29 (by decide) ?_
        obtain ⟨q3, hq3, h⟩ := bd_of h hf
        refine g_cVV (As := [.int 5]) hC hO (c_X12_wrong _ hC.2.2.2.2.2.2.1 t ht1 ht2 5 q1.2 (nn_of hq3)) gc_X12_166 (xk_X12_wrong _ (Nat.le_of_ble_eq_true rfl) (Nat.le_of_ble_eq_true rfl)) cr12 ht1 ht2 rfl (Nat.le_of_ble_eq_true rfl) dX12_readSaying_30 hq3 ?_
        exact g_sub [1, 0] rfl (k_X12_readSaying_33 hC hO hR hf t ht1 ht2 q1.1 q3 h)
    · refine g_aload_n hC dX12_readSaying_9 rfl 1 rfl ?_
      refine g_iconst (v := 1) hC dX12_readSaying_10 (by decide) ?_
      obtain ⟨q4, hq4, h⟩ := bd_of h hf
      refine g_cVV (As := [.int 1]) hC hO (c_X12_wrong _ hC.2.2.2.2.2.2.1 t ht1 ht2 1 q1.2 (nn_of hq4)) gc_X12_166 (xk_X12_wrong _ (Nat.le_of_ble_eq_true rfl) (Nat.le_of_ble_eq_true rfl)) cr12 ht1 ht2 rfl (Nat.le_of_ble_eq_true rfl) dX12_readSaying_11 hq4 ?_
      refine g_goto (tgt := 33) hC dX12_readSaying_14 (by decide) ?_
      exact g_sub [1, 0] rfl (k_X12_readSaying_33 hC hO hR hf t ht1 ht2 q1.1 q4 h)
theorem xk_X12_readSaying (R : Room) (h1 : 3 + 1 ≤ R.frames) (h2 : 137 ≤ R.locals) : xw R yX12_readSaying w_X12_readSaying GT cX12_readSaying 5 none rm_X12_readSaying 0 := ⟨rfl, rfl, rfl, h1, h2, ⟨by decide, by decide⟩, by decide +kernel⟩
theorem c_X12_readSaying (E : ET) (hE : EO E) (t : Nat) (ht1 : kd t = 12) (ht2 : AL E t) (σ : HS) (hn : f_X12_readSaying t σ ≠ none) : CoV E yX12_readSaying w_X12_readSaying rm_X12_readSaying [.ref (E.2.2.1 t)] σ (f_X12_readSaying t σ) := CoV.of (lv := [(0, .ref (E.2.2.1 t))]) hE (plainFor_of_name (by decide)) rfl (Nat.le_of_ble_eq_true rfl) rfl (fun F hC hO hR => k_X12_readSaying_0 hC hO hR hn t ht1 ht2 σ rfl)
def rm_X12_takesDraft : Room := { frames := 0, cells := 0, slots := 0, locals := 0 }
set_option maxHeartbeats 4000000 in
set_option maxRecDepth 100000 in
theorem k_X12_takesDraft_69 {E : ET} {F : FT} {fo : Option HS} (hC : Cx E F 2 cX12_takesDraft RX12 GT) (hO : Ro F rm_X12_takesDraft) (hR : RV E F fo) (hf : fo ≠ none) (t : Nat) (ht1 : kd t = 12) (ht2 : AL E t) : ∀ (n : Nat) (x1 : Int32) (σ : HS), f_X12_takesDraft_69 t n x1 σ = fo → G E F 69 [(0, .ref (E.2.2.1 t)), (1, .int x1)] [] σ := by
  intro n
  induction n with
  | zero =>
    intro x1 σ h
    exact absurd (h.symm.trans rfl) hf
  | succ n ih =>
    intro x1 σ h
    refine g_iload_n hC dX12_takesDraft_69 rfl 1 rfl ?_
    refine g_bipush (v := 12) hC dX12_takesDraft_70 (by decide) ?_
    refine g_icmp_ge (tgt := 171) hC dX12_takesDraft_72 (by decide) h (fun c72 h => ?_) (fun c72 h => ?_)
    · exact g_vret hC hR dX12_takesDraft_171 h
    · refine g_aload_n hC dX12_takesDraft_75 rfl 0 rfl ?_
      refine g_getR (cj := 14) (k := 14) hC cr12 ui_12 ht1 ht2 (by decide) fl_X12_82 rfl rfl dX12_takesDraft_76 h hf (fun a1 ea1 ka1 na1 h => ?_)
      refine g_iload_n hC dX12_takesDraft_79 rfl 1 rfl ?_
      refine g_aload_n hC dX12_takesDraft_80 rfl 0 rfl ?_
      refine g_getR (cj := 14) (k := 14) hC cr12 ui_12 ht1 ht2 (by decide) fl_X12_82 rfl rfl dX12_takesDraft_81 h hf (fun a2 ea2 ka2 na2 h => ?_)
      refine g_bipush (v := 12) hC dX12_takesDraft_84 (by decide) ?_
      refine g_iload_n hC dX12_takesDraft_86 rfl 1 rfl ?_
      refine g_iadd hC dX12_takesDraft_87 ?_
      refine g_iald hC ka2 na2 dX12_takesDraft_88 h hf (fun h => ?_)
      refine g_iast hC ka1 na1 dX12_takesDraft_89 h hf (fun h => ?_)
      refine g_aload_n hC dX12_takesDraft_90 rfl 0 rfl ?_
      refine g_getR (cj := 14) (k := 15) hC cr12 ui_12 ht1 ht2 (by decide) fl_X12_85 rfl rfl dX12_takesDraft_91 h hf (fun a3 ea3 ka3 na3 h => ?_)
      refine g_iload_n hC dX12_takesDraft_94 rfl 1 rfl ?_
      refine g_aload_n hC dX12_takesDraft_95 rfl 0 rfl ?_
      refine g_getR (cj := 14) (k := 15) hC cr12 ui_12 ht1 ht2 (by decide) fl_X12_85 rfl rfl dX12_takesDraft_96 h hf (fun a4 ea4 ka4 na4 h => ?_)
      refine g_bipush (v := 12) hC dX12_takesDraft_99 (by decide) ?_
      refine g_iload_n hC dX12_takesDraft_101 rfl 1 rfl ?_
      refine g_iadd hC dX12_takesDraft_102 ?_
      refine g_iald hC ka4 na4 dX12_takesDraft_103 h hf (fun h => ?_)
      refine g_iast hC ka3 na3 dX12_takesDraft_104 h hf (fun h => ?_)
      refine g_aload_n hC dX12_takesDraft_105 rfl 0 rfl ?_
      refine g_getR (cj := 14) (k := 16) hC cr12 ui_12 ht1 ht2 (by decide) fl_X12_88 rfl rfl dX12_takesDraft_106 h hf (fun a5 ea5 ka5 na5 h => ?_)
      refine g_iload_n hC dX12_takesDraft_109 rfl 1 rfl ?_
      refine g_aload_n hC dX12_takesDraft_110 rfl 0 rfl ?_
      refine g_getR (cj := 14) (k := 16) hC cr12 ui_12 ht1 ht2 (by decide) fl_X12_88 rfl rfl dX12_takesDraft_111 h hf (fun a6 ea6 ka6 na6 h => ?_)
      refine g_bipush (v := 12) hC dX12_takesDraft_114 (by decide) ?_
      refine g_iload_n hC dX12_takesDraft_116 rfl 1 rfl ?_
      refine g_iadd hC dX12_takesDraft_117 ?_
      refine g_iald hC ka6 na6 dX12_takesDraft_118 h hf (fun h => ?_)
      refine g_iast hC ka5 na5 dX12_takesDraft_119 h hf (fun h => ?_)
      refine g_aload_n hC dX12_takesDraft_120 rfl 0 rfl ?_
      refine g_getR (cj := 14) (k := 17) hC cr12 ui_12 ht1 ht2 (by decide) fl_X12_91 rfl rfl dX12_takesDraft_121 h hf (fun a7 ea7 ka7 na7 h => ?_)
      refine g_iload_n hC dX12_takesDraft_124 rfl 1 rfl ?_
      refine g_aload_n hC dX12_takesDraft_125 rfl 0 rfl ?_
      refine g_getR (cj := 14) (k := 17) hC cr12 ui_12 ht1 ht2 (by decide) fl_X12_91 rfl rfl dX12_takesDraft_126 h hf (fun a8 ea8 ka8 na8 h => ?_)
      refine g_bipush (v := 12) hC dX12_takesDraft_129 (by decide) ?_
      refine g_iload_n hC dX12_takesDraft_131 rfl 1 rfl ?_
      refine g_iadd hC dX12_takesDraft_132 ?_
      refine g_iald hC ka8 na8 dX12_takesDraft_133 h hf (fun h => ?_)
      refine g_iast hC ka7 na7 dX12_takesDraft_134 h hf (fun h => ?_)
      refine g_aload_n hC dX12_takesDraft_135 rfl 0 rfl ?_
      refine g_getR (cj := 14) (k := 18) hC cr12 ui_12 ht1 ht2 (by decide) fl_X12_94 rfl rfl dX12_takesDraft_136 h hf (fun a9 ea9 ka9 na9 h => ?_)
      refine g_iload_n hC dX12_takesDraft_139 rfl 1 rfl ?_
      refine g_aload_n hC dX12_takesDraft_140 rfl 0 rfl ?_
      refine g_getR (cj := 14) (k := 18) hC cr12 ui_12 ht1 ht2 (by decide) fl_X12_94 rfl rfl dX12_takesDraft_141 h hf (fun a10 ea10 ka10 na10 h => ?_)
      refine g_bipush (v := 12) hC dX12_takesDraft_144 (by decide) ?_
      refine g_iload_n hC dX12_takesDraft_146 rfl 1 rfl ?_
      refine g_iadd hC dX12_takesDraft_147 ?_
      refine g_iald hC ka10 na10 dX12_takesDraft_148 h hf (fun h => ?_)
      refine g_iast hC ka9 na9 dX12_takesDraft_149 h hf (fun h => ?_)
      refine g_aload_n hC dX12_takesDraft_150 rfl 0 rfl ?_
      refine g_getR (cj := 14) (k := 19) hC cr12 ui_12 ht1 ht2 (by decide) fl_X12_97 rfl rfl dX12_takesDraft_151 h hf (fun a11 ea11 ka11 na11 h => ?_)
      refine g_iload_n hC dX12_takesDraft_154 rfl 1 rfl ?_
      refine g_aload_n hC dX12_takesDraft_155 rfl 0 rfl ?_
      refine g_getR (cj := 14) (k := 19) hC cr12 ui_12 ht1 ht2 (by decide) fl_X12_97 rfl rfl dX12_takesDraft_156 h hf (fun a12 ea12 ka12 na12 h => ?_)
      refine g_bipush (v := 12) hC dX12_takesDraft_159 (by decide) ?_
      refine g_iload_n hC dX12_takesDraft_161 rfl 1 rfl ?_
      refine g_iadd hC dX12_takesDraft_162 ?_
      refine g_iald hC ka12 na12 dX12_takesDraft_163 h hf (fun h => ?_)
      refine g_iast hC ka11 na11 dX12_takesDraft_164 h hf (fun h => ?_)
      refine g_iinc (v := x1 + 1) (lv' := [(1, .int (x1 + 1)), (0, .ref (E.2.2.1 t))]) hC dX12_takesDraft_165 1 rfl rfl (by decide) rfl ?_
      refine g_goto (tgt := 69) hC dX12_takesDraft_168 (by decide) ?_
      exact g_sub [1, 0] rfl (ih (x1 + 1) (sI (sI (sI (sI (sI (sI σ a1 x1.toNatClampNeg (σ.1 a2 ((12 : Int32) + x1).toNatClampNeg)) a3 x1.toNatClampNeg ((sI σ a1 x1.toNatClampNeg (σ.1 a2 ((12 : Int32) + x1).toNatClampNeg)).1 a4 ((12 : Int32) + x1).toNatClampNeg)) a5 x1.toNatClampNeg ((sI (sI σ a1 x1.toNatClampNeg (σ.1 a2 ((12 : Int32) + x1).toNatClampNeg)) a3 x1.toNatClampNeg ((sI σ a1 x1.toNatClampNeg (σ.1 a2 ((12 : Int32) + x1).toNatClampNeg)).1 a4 ((12 : Int32) + x1).toNatClampNeg)).1 a6 ((12 : Int32) + x1).toNatClampNeg)) a7 x1.toNatClampNeg ((sI (sI (sI σ a1 x1.toNatClampNeg (σ.1 a2 ((12 : Int32) + x1).toNatClampNeg)) a3 x1.toNatClampNeg ((sI σ a1 x1.toNatClampNeg (σ.1 a2 ((12 : Int32) + x1).toNatClampNeg)).1 a4 ((12 : Int32) + x1).toNatClampNeg)) a5 x1.toNatClampNeg ((sI (sI σ a1 x1.toNatClampNeg (σ.1 a2 ((12 : Int32) + x1).toNatClampNeg)) a3 x1.toNatClampNeg ((sI σ a1 x1.toNatClampNeg (σ.1 a2 ((12 : Int32) + x1).toNatClampNeg)).1 a4 ((12 : Int32) + x1).toNatClampNeg)).1 a6 ((12 : Int32) + x1).toNatClampNeg)).1 a8 ((12 : Int32) + x1).toNatClampNeg)) a9 x1.toNatClampNeg ((sI (sI (sI (sI σ a1 x1.toNatClampNeg (σ.1 a2 ((12 : Int32) + x1).toNatClampNeg)) a3 x1.toNatClampNeg ((sI σ a1 x1.toNatClampNeg (σ.1 a2 ((12 : Int32) + x1).toNatClampNeg)).1 a4 ((12 : Int32) + x1).toNatClampNeg)) a5 x1.toNatClampNeg ((sI (sI σ a1 x1.toNatClampNeg (σ.1 a2 ((12 : Int32) + x1).toNatClampNeg)) a3 x1.toNatClampNeg ((sI σ a1 x1.toNatClampNeg (σ.1 a2 ((12 : Int32) + x1).toNatClampNeg)).1 a4 ((12 : Int32) + x1).toNatClampNeg)).1 a6 ((12 : Int32) + x1).toNatClampNeg)) a7 x1.toNatClampNeg ((sI (sI (sI σ a1 x1.toNatClampNeg (σ.1 a2 ((12 : Int32) + x1).toNatClampNeg)) a3 x1.toNatClampNeg ((sI σ a1 x1.toNatClampNeg (σ.1 a2 ((12 : Int32) + x1).toNatClampNeg)).1 a4 ((12 : Int32) + x1).toNatClampNeg)) a5 x1.toNatClampNeg ((sI (sI σ a1 x1.toNatClampNeg (σ.1 a2 ((12 : Int32) + x1).toNatClampNeg)) a3 x1.toNatClampNeg ((sI σ a1 x1.toNatClampNeg (σ.1 a2 ((12 : Int32) + x1).toNatClampNeg)).1 a4 ((12 : Int32) + x1).toNatClampNeg)).1 a6 ((12 : Int32) + x1).toNatClampNeg)).1 a8 ((12 : Int32) + x1).toNatClampNeg)).1 a10 ((12 : Int32) + x1).toNatClampNeg)) a11 x1.toNatClampNeg ((sI (sI (sI (sI (sI σ a1 x1.toNatClampNeg (σ.1 a2 ((12 : Int32) + x1).toNatClampNeg)) a3 x1.toNatClampNeg ((sI σ a1 x1.toNatClampNeg (σ.1 a2 ((12 : Int32) + x1).toNatClampNeg)).1 a4 ((12 : Int32) + x1).toNatClampNeg)) a5 x1.toNatClampNeg ((sI (sI σ a1 x1.toNatClampNeg (σ.1 a2 ((12 : Int32) + x1).toNatClampNeg)) a3 x1.toNatClampNeg ((sI σ a1 x1.toNatClampNeg (σ.1 a2 ((12 : Int32) + x1).toNatClampNeg)).1 a4 ((12 : Int32) + x1).toNatClampNeg)).1 a6 ((12 : Int32) + x1).toNatClampNeg)) a7 x1.toNatClampNeg ((sI (sI (sI σ a1 x1.toNatClampNeg (σ.1 a2 ((12 : Int32) + x1).toNatClampNeg)) a3 x1.toNatClampNeg ((sI σ a1 x1.toNatClampNeg (σ.1 a2 ((12 : Int32) + x1).toNatClampNeg)).1 a4 ((12 : Int32) + x1).toNatClampNeg)) a5 x1.toNatClampNeg ((sI (sI σ a1 x1.toNatClampNeg (σ.1 a2 ((12 : Int32) + x1).toNatClampNeg)) a3 x1.toNatClampNeg ((sI σ a1 x1.toNatClampNeg (σ.1 a2 ((12 : Int32) + x1).toNatClampNeg)).1 a4 ((12 : Int32) + x1).toNatClampNeg)).1 a6 ((12 : Int32) + x1).toNatClampNeg)).1 a8 ((12 : Int32) + x1).toNatClampNeg)) a9 x1.toNatClampNeg ((sI (sI (sI (sI σ a1 x1.toNatClampNeg (σ.1 a2 ((12 : Int32) + x1).toNatClampNeg)) a3 x1.toNatClampNeg ((sI σ a1 x1.toNatClampNeg (σ.1 a2 ((12 : Int32) + x1).toNatClampNeg)).1 a4 ((12 : Int32) + x1).toNatClampNeg)) a5 x1.toNatClampNeg ((sI (sI σ a1 x1.toNatClampNeg (σ.1 a2 ((12 : Int32) + x1).toNatClampNeg)) a3 x1.toNatClampNeg ((sI σ a1 x1.toNatClampNeg (σ.1 a2 ((12 : Int32) + x1).toNatClampNeg)).1 a4 ((12 : Int32) + x1).toNatClampNeg)).1 a6 ((12 : Int32) + x1).toNatClampNeg)) a7 x1.toNatClampNeg ((sI (sI (sI σ a1 x1.toNatClampNeg (σ.1 a2 ((12 : Int32) + x1).toNatClampNeg)) a3 x1.toNatClampNeg ((sI σ a1 x1.toNatClampNeg (σ.1 a2 ((12 : Int32) + x1).toNatClampNeg)).1 a4 ((12 : Int32) + x1).toNatClampNeg)) a5 x1.toNatClampNeg ((sI (sI σ a1 x1.toNatClampNeg (σ.1 a2 ((12 : Int32) + x1).toNatClampNeg)) a3 x1.toNatClampNeg ((sI σ a1 x1.toNatClampNeg (σ.1 a2 ((12 : Int32) + x1).toNatClampNeg)).1 a4 ((12 : Int32) + x1).toNatClampNeg)).1 a6 ((12 : Int32) + x1).toNatClampNeg)).1 a8 ((12 : Int32) + x1).toNatClampNeg)).1 a10 ((12 : Int32) + x1).toNatClampNeg)).1 a12 ((12 : Int32) + x1).toNatClampNeg)) h)
set_option maxHeartbeats 4000000 in
set_option maxRecDepth 100000 in
theorem k_X12_takesDraft_14 {E : ET} {F : FT} {fo : Option HS} (hC : Cx E F 2 cX12_takesDraft RX12 GT) (hO : Ro F rm_X12_takesDraft) (hR : RV E F fo) (hf : fo ≠ none) (t : Nat) (ht1 : kd t = 12) (ht2 : AL E t) : ∀ (n : Nat) (x1 : Int32) (σ : HS), f_X12_takesDraft_14 t n x1 σ = fo → G E F 14 [(0, .ref (E.2.2.1 t)), (1, .int x1)] [] σ := by
  intro n
  induction n with
  | zero =>
    intro x1 σ h
    exact absurd (h.symm.trans rfl) hf
  | succ n ih =>
    intro x1 σ h
    refine g_iload_n hC dX12_takesDraft_14 rfl 1 rfl ?_
    refine g_iconst (v := 4) hC dX12_takesDraft_15 (by decide) ?_
    refine g_icmp_ge (tgt := 67) hC dX12_takesDraft_16 (by decide) h (fun c16 h => ?_) (fun c16 h => ?_)
    · refine g_iconst (v := 0) hC dX12_takesDraft_67 (by decide) ?_
      refine g_istore_n (lv' := [(1, .int 0), (0, .ref (E.2.2.1 t))]) hC dX12_takesDraft_68 rfl (by decide) rfl ?_
      exact g_sub [1, 0] rfl (k_X12_takesDraft_69 hC hO hR hf t ht1 ht2 FU 0 σ h)
    · refine g_aload_n hC dX12_takesDraft_19 rfl 0 rfl ?_
      refine g_getR (cj := 16) (k := 10) hC cr12 ui_12 ht1 ht2 (by decide) fl_X12_69 rfl rfl dX12_takesDraft_20 h hf (fun a1 ea1 ka1 na1 h => ?_)
      refine g_iload_n hC dX12_takesDraft_23 rfl 1 rfl ?_
      refine g_aload_n hC dX12_takesDraft_24 rfl 0 rfl ?_
      refine g_getR (cj := 16) (k := 10) hC cr12 ui_12 ht1 ht2 (by decide) fl_X12_69 rfl rfl dX12_takesDraft_25 h hf (fun a2 ea2 ka2 na2 h => ?_)
      refine g_iconst (v := 4) hC dX12_takesDraft_28 (by decide) ?_
      refine g_iload_n hC dX12_takesDraft_29 rfl 1 rfl ?_
      refine g_iadd hC dX12_takesDraft_30 ?_
      refine g_zald hC ka2 na2 dX12_takesDraft_31 h hf (fun h => ?_)
      refine g_zast hC ka1 na1 dX12_takesDraft_32 h hf (fun h => ?_)
      refine g_aload_n hC dX12_takesDraft_33 rfl 0 rfl ?_
      refine g_getR (cj := 14) (k := 11) hC cr12 ui_12 ht1 ht2 (by decide) fl_X12_73 rfl rfl dX12_takesDraft_34 h hf (fun a3 ea3 ka3 na3 h => ?_)
      refine g_iload_n hC dX12_takesDraft_37 rfl 1 rfl ?_
      refine g_aload_n hC dX12_takesDraft_38 rfl 0 rfl ?_
      refine g_getR (cj := 14) (k := 11) hC cr12 ui_12 ht1 ht2 (by decide) fl_X12_73 rfl rfl dX12_takesDraft_39 h hf (fun a4 ea4 ka4 na4 h => ?_)
      refine g_iconst (v := 4) hC dX12_takesDraft_42 (by decide) ?_
      refine g_iload_n hC dX12_takesDraft_43 rfl 1 rfl ?_
      refine g_iadd hC dX12_takesDraft_44 ?_
      refine g_iald hC ka4 na4 dX12_takesDraft_45 h hf (fun h => ?_)
      refine g_iast hC ka3 na3 dX12_takesDraft_46 h hf (fun h => ?_)
      refine g_aload_n hC dX12_takesDraft_47 rfl 0 rfl ?_
      refine g_getR (cj := 14) (k := 12) hC cr12 ui_12 ht1 ht2 (by decide) fl_X12_76 rfl rfl dX12_takesDraft_48 h hf (fun a5 ea5 ka5 na5 h => ?_)
      refine g_iload_n hC dX12_takesDraft_51 rfl 1 rfl ?_
      refine g_aload_n hC dX12_takesDraft_52 rfl 0 rfl ?_
      refine g_getR (cj := 14) (k := 12) hC cr12 ui_12 ht1 ht2 (by decide) fl_X12_76 rfl rfl dX12_takesDraft_53 h hf (fun a6 ea6 ka6 na6 h => ?_)
      refine g_iconst (v := 4) hC dX12_takesDraft_56 (by decide) ?_
      refine g_iload_n hC dX12_takesDraft_57 rfl 1 rfl ?_
      refine g_iadd hC dX12_takesDraft_58 ?_
      refine g_iald hC ka6 na6 dX12_takesDraft_59 h hf (fun h => ?_)
      refine g_iast hC ka5 na5 dX12_takesDraft_60 h hf (fun h => ?_)
      refine g_iinc (v := x1 + 1) (lv' := [(1, .int (x1 + 1)), (0, .ref (E.2.2.1 t))]) hC dX12_takesDraft_61 1 rfl rfl (by decide) rfl ?_
      refine g_goto (tgt := 14) hC dX12_takesDraft_64 (by decide) ?_
      exact g_sub [1, 0] rfl (ih (x1 + 1) (sI (sI (sI σ a1 x1.toNatClampNeg ((σ.1 a2 ((4 : Int32) + x1).toNatClampNeg) &&& 1)) a3 x1.toNatClampNeg ((sI σ a1 x1.toNatClampNeg ((σ.1 a2 ((4 : Int32) + x1).toNatClampNeg) &&& 1)).1 a4 ((4 : Int32) + x1).toNatClampNeg)) a5 x1.toNatClampNeg ((sI (sI σ a1 x1.toNatClampNeg ((σ.1 a2 ((4 : Int32) + x1).toNatClampNeg) &&& 1)) a3 x1.toNatClampNeg ((sI σ a1 x1.toNatClampNeg ((σ.1 a2 ((4 : Int32) + x1).toNatClampNeg) &&& 1)).1 a4 ((4 : Int32) + x1).toNatClampNeg)).1 a6 ((4 : Int32) + x1).toNatClampNeg)) h)
set_option maxHeartbeats 4000000 in
set_option maxRecDepth 100000 in
theorem k_X12_takesDraft_0 {E : ET} {F : FT} {fo : Option HS} (hC : Cx E F 2 cX12_takesDraft RX12 GT) (hO : Ro F rm_X12_takesDraft) (hR : RV E F fo) (hf : fo ≠ none) (t : Nat) (ht1 : kd t = 12) (ht2 : AL E t) (σ : HS) (h : f_X12_takesDraft t σ = fo) : G E F 0 [(0, .ref (E.2.2.1 t))] [] σ := by
    refine g_aload_n hC dX12_takesDraft_0 rfl 0 rfl ?_
    refine g_getR (cj := 14) (k := 13) hC cr12 ui_12 ht1 ht2 (by decide) fl_X12_79 rfl rfl dX12_takesDraft_1 h hf (fun a1 ea1 ka1 na1 h => ?_)
    refine g_iconst (v := 0) hC dX12_takesDraft_4 (by decide) ?_
    refine g_aload_n hC dX12_takesDraft_5 rfl 0 rfl ?_
    refine g_getR (cj := 14) (k := 13) hC cr12 ui_12 ht1 ht2 (by decide) fl_X12_79 rfl rfl dX12_takesDraft_6 h hf (fun a2 ea2 ka2 na2 h => ?_)
    refine g_iconst (v := 1) hC dX12_takesDraft_9 (by decide) ?_
    refine g_iald hC ka2 na2 dX12_takesDraft_10 h hf (fun h => ?_)
    refine g_iast hC ka1 na1 dX12_takesDraft_11 h hf (fun h => ?_)
    refine g_iconst (v := 0) hC dX12_takesDraft_12 (by decide) ?_
    refine g_istore_n (lv' := [(1, .int 0), (0, .ref (E.2.2.1 t))]) hC dX12_takesDraft_13 rfl (by decide) rfl ?_
    exact g_sub [1, 0] rfl (k_X12_takesDraft_14 hC hO hR hf t ht1 ht2 FU 0 (sI σ a1 (0 : Int32).toNatClampNeg (σ.1 a2 (1 : Int32).toNatClampNeg)) h)
theorem xk_X12_takesDraft (R : Room) (h1 : 0 + 1 ≤ R.frames) (h2 : 33 ≤ R.locals) : xw R yX12_takesDraft w_X12_takesDraft GT cX12_takesDraft 2 none rm_X12_takesDraft 0 := ⟨rfl, rfl, rfl, h1, h2, ⟨by decide, by decide⟩, by decide +kernel⟩
theorem c_X12_takesDraft (E : ET) (hE : EO E) (t : Nat) (ht1 : kd t = 12) (ht2 : AL E t) (σ : HS) (hn : f_X12_takesDraft t σ ≠ none) : CoV E yX12_takesDraft w_X12_takesDraft rm_X12_takesDraft [.ref (E.2.2.1 t)] σ (f_X12_takesDraft t σ) := CoV.of (lv := [(0, .ref (E.2.2.1 t))]) hE (plainFor_of_name (by decide)) rfl (Nat.le_of_ble_eq_true rfl) rfl (fun F hC hO hR => k_X12_takesDraft_0 hC hO hR hn t ht1 ht2 σ rfl)
def rm_X12_choice : Room := { frames := 4, cells := 0, slots := 0, locals := 137 }
theorem wc_X12_cutAll : Cond.code yX12_cutAll cX12_cutAll 7 none ∈ GT := gtr_19 _ (List.mem_of_getElem? (i := 16) rfl)
theorem gc_X12_175 : GoodIn GT (wsV RX12 175 RX12 yX12_cutAll w_X12_cutAll) := gi_V (gtr_19 _ (List.mem_of_getElem? (i := 13) rfl)) (gtr_19 _ (List.mem_of_getElem? (i := 14) rfl)) (gtr_19 _ (List.mem_of_getElem? (i := 15) rfl)) (gtr_1 _ (List.mem_of_getElem? (i := 5) rfl)) wc_X12_cutAll
theorem wc_X12_forgetsChoice : Cond.code yX12_forgetsChoice cX12_forgetsChoice 3 none ∈ GT := gtr_10 _ (List.mem_of_getElem? (i := 20) rfl)
theorem gc_X12_178 : GoodIn GT (wsV RX12 178 RX12 yX12_forgetsChoice w_X12_forgetsChoice) := gi_V (gtr_10 _ (List.mem_of_getElem? (i := 17) rfl)) (gtr_10 _ (List.mem_of_getElem? (i := 18) rfl)) (gtr_10 _ (List.mem_of_getElem? (i := 19) rfl)) (gtr_1 _ (List.mem_of_getElem? (i := 5) rfl)) wc_X12_forgetsChoice
theorem wc_X12_takesDraft : Cond.code yX12_takesDraft cX12_takesDraft 2 none ∈ GT := gtr_22 _ (List.mem_of_getElem? (i := 0) rfl)
theorem gc_X12_190 : GoodIn GT (wsV RX12 190 RX12 yX12_takesDraft w_X12_takesDraft) := gi_V (gtr_21 _ (List.mem_of_getElem? (i := 21) rfl)) (gtr_21 _ (List.mem_of_getElem? (i := 22) rfl)) (gtr_21 _ (List.mem_of_getElem? (i := 23) rfl)) (gtr_1 _ (List.mem_of_getElem? (i := 5) rfl)) wc_X12_takesDraft
theorem wc_X12_readMeasure : Cond.code yX12_readMeasure cX12_readMeasure 4 none ∈ GT := gtr_20 _ (List.mem_of_getElem? (i := 16) rfl)
theorem gc_X12_181 : GoodIn GT (wsV RX12 181 RX12 yX12_readMeasure w_X12_readMeasure) := gi_V (gtr_20 _ (List.mem_of_getElem? (i := 13) rfl)) (gtr_20 _ (List.mem_of_getElem? (i := 14) rfl)) (gtr_20 _ (List.mem_of_getElem? (i := 15) rfl)) (gtr_1 _ (List.mem_of_getElem? (i := 5) rfl)) wc_X12_readMeasure
theorem wc_X12_takeSign : Cond.code yX12_takeSign cX12_takeSign 2 none ∈ GT := gtr_21 _ (List.mem_of_getElem? (i := 16) rfl)
theorem gc_X12_187 : GoodIn GT (wsV RX12 187 RX12 yX12_takeSign w_X12_takeSign) := gi_V (gtr_21 _ (List.mem_of_getElem? (i := 13) rfl)) (gtr_21 _ (List.mem_of_getElem? (i := 14) rfl)) (gtr_21 _ (List.mem_of_getElem? (i := 15) rfl)) (gtr_1 _ (List.mem_of_getElem? (i := 5) rfl)) wc_X12_takeSign
theorem wc_X12_readSaying : Cond.code yX12_readSaying cX12_readSaying 5 none ∈ GT := gtr_21 _ (List.mem_of_getElem? (i := 4) rfl)
theorem gc_X12_184 : GoodIn GT (wsV RX12 184 RX12 yX12_readSaying w_X12_readSaying) := gi_V (gtr_21 _ (List.mem_of_getElem? (i := 1) rfl)) (gtr_21 _ (List.mem_of_getElem? (i := 2) rfl)) (gtr_21 _ (List.mem_of_getElem? (i := 3) rfl)) (gtr_1 _ (List.mem_of_getElem? (i := 5) rfl)) wc_X12_readSaying
set_option maxHeartbeats 4000000 in
set_option maxRecDepth 100000 in
theorem k_X12_choice_88 {E : ET} {F : FT} {fo : Option (Int32 × HS)} (hC : Cx E F 1 cX12_choice RX12 GT) (hO : Ro F rm_X12_choice) (hR : RI E F .int fo) (hf : fo ≠ none) (t : Nat) (ht1 : kd t = 12) (ht2 : AL E t) (σ : HS) (h : f_X12_choice_88 t σ = fo) : G E F 88 [(0, .ref (E.2.2.1 t))] [] σ := by
    refine g_aload_n hC dX12_choice_88 rfl 0 rfl ?_
    refine g_getI (k := 8) hC cr12 ui_12 ht1 ht2 (by decide) fl_X12_160 rfl rfl dX12_choice_89 ?_
    exact g_iret hC hR dX12_choice_92 rfl h
set_option maxHeartbeats 4000000 in
set_option maxRecDepth 100000 in
theorem k_X12_choice_77 {E : ET} {F : FT} {fo : Option (Int32 × HS)} (hC : Cx E F 1 cX12_choice RX12 GT) (hO : Ro F rm_X12_choice) (hR : RI E F .int fo) (hf : fo ≠ none) (t : Nat) (ht1 : kd t = 12) (ht2 : AL E t) (σ : HS) (h : f_X12_choice_77 t σ = fo) : G E F 77 [(0, .ref (E.2.2.1 t))] [] σ := by
    refine g_aload_n hC dX12_choice_77 rfl 0 rfl ?_
    refine g_getI (k := 8) hC cr12 ui_12 ht1 ht2 (by decide) fl_X12_160 rfl rfl dX12_choice_78 ?_
    refine g_if_ne (tgt := 88) hC dX12_choice_81 (by decide) h (fun c81 h => ?_) (fun c81 h => ?_)
    · exact g_sub [0] rfl (k_X12_choice_88 hC hO hR hf t ht1 ht2 σ h)
    · refine g_aload_n hC dX12_choice_84 rfl 0 rfl ?_
      obtain ⟨q1, hq1, h⟩ := bd_of h hf
      refine g_cVV (As := []) hC hO (c_X12_takesDraft _ hC.2.2.2.2.2.2.1 t ht1 ht2 σ (nn_of hq1)) gc_X12_190 (xk_X12_takesDraft _ (Nat.le_of_ble_eq_true rfl) (Nat.le_of_ble_eq_true rfl)) cr12 ht1 ht2 rfl (Nat.le_of_ble_eq_true rfl) dX12_choice_85 hq1 ?_
      exact g_sub [0] rfl (k_X12_choice_88 hC hO hR hf t ht1 ht2 q1 h)
set_option maxHeartbeats 4000000 in
set_option maxRecDepth 100000 in
theorem k_X12_choice_68 {E : ET} {F : FT} {fo : Option (Int32 × HS)} (hC : Cx E F 1 cX12_choice RX12 GT) (hO : Ro F rm_X12_choice) (hR : RI E F .int fo) (hf : fo ≠ none) (t : Nat) (ht1 : kd t = 12) (ht2 : AL E t) (r14 : HS → Option (Int32 × HS)) (h14 : ∀  (σ : HS), r14  σ = fo → G E F 14 [(0, .ref (E.2.2.1 t))] [] σ) (σ : HS) (h : f_X12_choice_68 r14 t σ = fo) : G E F 68 [(0, .ref (E.2.2.1 t))] [] σ := by
    refine g_aload_n hC dX12_choice_68 rfl 0 rfl ?_
    refine g_bipush (v := 59) hC dX12_choice_69 (by decide) ?_
    obtain ⟨q1, hq1, h⟩ := bd_of h hf
    refine g_cVV (As := [.int 59]) hC hO (c_X12_takeSign _ hC.2.2.2.2.2.2.1 t ht1 ht2 59 σ (nn_of hq1)) gc_X12_187 (xk_X12_takeSign _ (Nat.le_of_ble_eq_true rfl) (Nat.le_of_ble_eq_true rfl)) cr12 ht1 ht2 rfl (Nat.le_of_ble_eq_true rfl) dX12_choice_71 hq1 ?_
    refine g_goto (tgt := 14) hC dX12_choice_74 (by decide) ?_
    exact g_sub [0] rfl (h14 q1 h)
set_option maxHeartbeats 4000000 in
set_option maxRecDepth 100000 in
theorem k_X12_choice_57 {E : ET} {F : FT} {fo : Option (Int32 × HS)} (hC : Cx E F 1 cX12_choice RX12 GT) (hO : Ro F rm_X12_choice) (hR : RI E F .int fo) (hf : fo ≠ none) (t : Nat) (ht1 : kd t = 12) (ht2 : AL E t) (r14 : HS → Option (Int32 × HS)) (h14 : ∀  (σ : HS), r14  σ = fo → G E F 14 [(0, .ref (E.2.2.1 t))] [] σ) (σ : HS) (h : f_X12_choice_57 r14 t σ = fo) : G E F 57 [(0, .ref (E.2.2.1 t))] [] σ := by
    refine g_aload_n hC dX12_choice_57 rfl 0 rfl ?_
    obtain ⟨q1, hq1, h⟩ := bd_of h hf
    refine g_cVV (As := []) hC hO (c_X12_readMeasure _ hC.2.2.2.2.2.2.1 t ht1 ht2 σ (nn_of hq1)) gc_X12_181 (xk_X12_readMeasure _ (Nat.le_of_ble_eq_true rfl) (Nat.le_of_ble_eq_true rfl)) cr12 ht1 ht2 rfl (Nat.le_of_ble_eq_true rfl) dX12_choice_58 hq1 ?_
    refine g_goto (tgt := 68) hC dX12_choice_61 (by decide) ?_
    exact g_sub [0] rfl (k_X12_choice_68 hC hO hR hf t ht1 ht2 r14 h14 q1 h)
set_option maxHeartbeats 4000000 in
set_option maxRecDepth 100000 in
theorem k_X12_choice_14 {E : ET} {F : FT} {fo : Option (Int32 × HS)} (hC : Cx E F 1 cX12_choice RX12 GT) (hO : Ro F rm_X12_choice) (hR : RI E F .int fo) (hf : fo ≠ none) (t : Nat) (ht1 : kd t = 12) (ht2 : AL E t) : ∀ (n : Nat)  (σ : HS), f_X12_choice_14 t n σ = fo → G E F 14 [(0, .ref (E.2.2.1 t))] [] σ := by
  intro n
  induction n with
  | zero =>
    intro σ h
    exact absurd (h.symm.trans rfl) hf
  | succ n ih =>
    intro σ h
    refine g_aload_n hC dX12_choice_14 rfl 0 rfl ?_
    refine g_getI (k := 8) hC cr12 ui_12 ht1 ht2 (by decide) fl_X12_160 rfl rfl dX12_choice_15 ?_
    refine g_if_ne (tgt := 77) hC dX12_choice_18 (by decide) h (fun c18 h => ?_) (fun c18 h => ?_)
    · exact g_sub [0] rfl (k_X12_choice_77 hC hO hR hf t ht1 ht2 σ h)
    · refine g_aload_n hC dX12_choice_21 rfl 0 rfl ?_
      refine g_getR (cj := 14) (k := 4) hC cr12 ui_12 ht1 ht2 (by decide) fl_X12_24 rfl rfl dX12_choice_22 h hf (fun a1 ea1 ka1 na1 h => ?_)
      refine g_aload_n hC dX12_choice_25 rfl 0 rfl ?_
      refine g_getI (k := 7) hC cr12 ui_12 ht1 ht2 (by decide) fl_X12_157 rfl rfl dX12_choice_26 ?_
      refine g_iald hC ka1 na1 dX12_choice_29 h hf (fun h => ?_)
      refine g_if_eq (tgt := 77) hC dX12_choice_30 (by decide) h (fun c30 h => ?_) (fun c30 h => ?_)
      · exact g_sub [0] rfl (k_X12_choice_77 hC hO hR hf t ht1 ht2 σ h)
      · refine g_aload_n hC dX12_choice_33 rfl 0 rfl ?_
        refine g_iconst (v := 0) hC dX12_choice_34 (by decide) ?_
        obtain ⟨q2, hq2, h⟩ := bd_of h hf
        refine g_cVI (As := [.int 0]) hC hO (c_X12_isWord _ hC.2.2.2.2.2.2.1 t ht1 ht2 0 σ (nn_of hq2)) gc_X12_169 (xk_X12_isWord _ (Nat.le_of_ble_eq_true rfl) (Nat.le_of_ble_eq_true rfl)) cr12 ht1 ht2 rfl (Nat.le_of_ble_eq_true rfl) dX12_choice_35 hq2 ?_
        refine g_if_ne (tgt := 57) hC dX12_choice_38 (by decide) h (fun c38 h => ?_) (fun c38 h => ?_)
        · exact g_sub [0] rfl (k_X12_choice_57 hC hO hR hf t ht1 ht2 (f_X12_choice_14 t n) ih q2.2 h)
        · refine g_aload_n hC dX12_choice_41 rfl 0 rfl ?_
          refine g_iconst (v := 1) hC dX12_choice_42 (by decide) ?_
          obtain ⟨q3, hq3, h⟩ := bd_of h hf
          refine g_cVI (As := [.int 1]) hC hO (c_X12_isWord _ hC.2.2.2.2.2.2.1 t ht1 ht2 1 q2.2 (nn_of hq3)) gc_X12_169 (xk_X12_isWord _ (Nat.le_of_ble_eq_true rfl) (Nat.le_of_ble_eq_true rfl)) cr12 ht1 ht2 rfl (Nat.le_of_ble_eq_true rfl) dX12_choice_43 hq3 ?_
          refine g_if_ne (tgt := 57) hC dX12_choice_46 (by decide) h (fun c46 h => ?_) (fun c46 h => ?_)
          · exact g_sub [0] rfl (k_X12_choice_57 hC hO hR hf t ht1 ht2 (f_X12_choice_14 t n) ih q3.2 h)
          · refine g_aload_n hC dX12_choice_49 rfl 0 rfl ?_
            refine g_iconst (v := 2) hC dX12_choice_50 (by decide) ?_
            obtain ⟨q4, hq4, h⟩ := bd_of h hf
            refine g_cVI (As := [.int 2]) hC hO (c_X12_isWord _ hC.2.2.2.2.2.2.1 t ht1 ht2 2 q3.2 (nn_of hq4)) gc_X12_169 (xk_X12_isWord _ (Nat.le_of_ble_eq_true rfl) (Nat.le_of_ble_eq_true rfl)) cr12 ht1 ht2 rfl (Nat.le_of_ble_eq_true rfl) dX12_choice_51 hq4 ?_
            refine g_if_eq (tgt := 64) hC dX12_choice_54 (by decide) h (fun c54 h => ?_) (fun c54 h => ?_)
            · refine g_aload_n hC dX12_choice_64 rfl 0 rfl ?_
              obtain ⟨q5, hq5, h⟩ := bd_of h hf
              refine g_cVV (As := []) hC hO (c_X12_readSaying _ hC.2.2.2.2.2.2.1 t ht1 ht2 q4.2 (nn_of hq5)) gc_X12_184 (xk_X12_readSaying _ (Nat.le_of_ble_eq_true rfl) (Nat.le_of_ble_eq_true rfl)) cr12 ht1 ht2 rfl (Nat.le_of_ble_eq_true rfl) dX12_choice_65 hq5 ?_
              exact g_sub [0] rfl (k_X12_choice_68 hC hO hR hf t ht1 ht2 (f_X12_choice_14 t n) ih q5 h)
            · exact g_sub [0] rfl (k_X12_choice_57 hC hO hR hf t ht1 ht2 (f_X12_choice_14 t n) ih q4.2 h)
set_option maxHeartbeats 4000000 in
set_option maxRecDepth 100000 in
theorem k_X12_choice_0 {E : ET} {F : FT} {fo : Option (Int32 × HS)} (hC : Cx E F 1 cX12_choice RX12 GT) (hO : Ro F rm_X12_choice) (hR : RI E F .int fo) (hf : fo ≠ none) (t : Nat) (ht1 : kd t = 12) (ht2 : AL E t) (σ : HS) (h : f_X12_choice t σ = fo) : G E F 0 [(0, .ref (E.2.2.1 t))] [] σ := by
    refine g_aload_n hC dX12_choice_0 rfl 0 rfl ?_
    refine g_iconst (v := 0) hC dX12_choice_1 (by decide) ?_
    refine g_putI (k := 0) hC cr12 ui_12 tyX12_ok nmX12 ht1 ht2 (by decide) fl_X12_1 rfl rfl rfl rfl dX12_choice_2 ?_
    refine g_aload_n hC dX12_choice_5 rfl 0 rfl ?_
    obtain ⟨q1, hq1, h⟩ := bd_of h hf
    refine g_cVV (As := []) hC hO (c_X12_cutAll _ hC.2.2.2.2.2.2.1 t ht1 ht2 (sI σ t 0 0) (nn_of hq1)) gc_X12_175 (xk_X12_cutAll _ (Nat.le_of_ble_eq_true rfl) (Nat.le_of_ble_eq_true rfl)) cr12 ht1 ht2 rfl (Nat.le_of_ble_eq_true rfl) dX12_choice_6 hq1 ?_
    refine g_aload_n hC dX12_choice_9 rfl 0 rfl ?_
    refine g_iconst (v := 1) hC dX12_choice_10 (by decide) ?_
    obtain ⟨q2, hq2, h⟩ := bd_of h hf
    refine g_cVV (As := [.int 1]) hC hO (c_X12_forgetsChoice _ hC.2.2.2.2.2.2.1 t ht1 ht2 1 q1 (nn_of hq2)) gc_X12_178 (xk_X12_forgetsChoice _ (Nat.le_of_ble_eq_true rfl) (Nat.le_of_ble_eq_true rfl)) cr12 ht1 ht2 rfl (Nat.le_of_ble_eq_true rfl) dX12_choice_11 hq2 ?_
    exact g_sub [0] rfl (k_X12_choice_14 hC hO hR hf t ht1 ht2 FU q2 h)
theorem xk_X12_choice (R : Room) (h1 : 4 + 1 ≤ R.frames) (h2 : 169 ≤ R.locals) : xw R yX12_choice w_X12_choice GT cX12_choice 1 (some .int) rm_X12_choice 0 := ⟨rfl, rfl, rfl, h1, h2, ⟨by decide, by decide⟩, by decide +kernel⟩
theorem c_X12_choice (E : ET) (hE : EO E) (t : Nat) (ht1 : kd t = 12) (ht2 : AL E t) (σ : HS) (hn : f_X12_choice t σ ≠ none) : CoI E yX12_choice w_X12_choice rm_X12_choice [.ref (E.2.2.1 t)] σ (f_X12_choice t σ) := CoI.of (lv := [(0, .ref (E.2.2.1 t))]) hE (plainFor_of_name (by decide)) rfl (Nat.le_of_ble_eq_true rfl) rfl (fun F hC hO hR => k_X12_choice_0 hC hO hR hn t ht1 ht2 σ rfl)
def rm_X12_clears : Room := { frames := 1, cells := 0, slots := 0, locals := 34 }
theorem fl_X12_207 : Cond.fieldLink RX12 207 "EveryMeasureModel" (TX12 23).2.1 (TX12 23).2.2.1 ∈ GT := gtr_10 _ (List.mem_of_getElem? (i := 15) rfl)
theorem fl_X12_210 : Cond.fieldLink RX12 210 "EveryMeasureModel" (TX12 24).2.1 (TX12 24).2.2.1 ∈ GT := gtr_10 _ (List.mem_of_getElem? (i := 16) rfl)
theorem fl_X12_100 : Cond.fieldLink RX12 100 "EveryMeasureModel" (TX12 21).2.1 (TX12 21).2.2.1 ∈ GT := gtr_10 _ (List.mem_of_getElem? (i := 0) rfl)
set_option maxHeartbeats 4000000 in
set_option maxRecDepth 100000 in
theorem k_X12_clears_7 {E : ET} {F : FT} {fo : Option HS} (hC : Cx E F 3 cX12_clears RX12 GT) (hO : Ro F rm_X12_clears) (hR : RV E F fo) (hf : fo ≠ none) (t : Nat) (ht1 : kd t = 12) (ht2 : AL E t) : ∀ (n : Nat) (x2 : Int32) (σ : HS), f_X12_clears_7 t n x2 σ = fo → G E F 7 [(0, .ref (E.2.2.1 t)), (2, .int x2)] [] σ := by
  intro n
  induction n with
  | zero =>
    intro x2 σ h
    exact absurd (h.symm.trans rfl) hf
  | succ n ih =>
    intro x2 σ h
    refine g_iload_n hC dX12_clears_7 rfl 1 rfl ?_
    refine g_bipush (v := 8) hC dX12_clears_8 (by decide) ?_
    refine g_icmp_ge (tgt := 26) hC dX12_clears_10 (by decide) h (fun c10 h => ?_) (fun c10 h => ?_)
    · refine g_aload_n hC dX12_clears_26 rfl 0 rfl ?_
      refine g_iconst (v := 0) hC dX12_clears_27 (by decide) ?_
      obtain ⟨q1, hq1, h⟩ := bd_of h hf
      refine g_cVV (As := [.int 0]) hC hO (c_X12_forgetsChoice _ hC.2.2.2.2.2.2.1 t ht1 ht2 0 σ (nn_of hq1)) gc_X12_178 (xk_X12_forgetsChoice _ (Nat.le_of_ble_eq_true rfl) (Nat.le_of_ble_eq_true rfl)) cr12 ht1 ht2 rfl (Nat.le_of_ble_eq_true rfl) dX12_clears_28 hq1 ?_
      refine g_aload_n hC dX12_clears_31 rfl 0 rfl ?_
      refine g_sipush (v := 255) hC dX12_clears_32 (by decide) ?_
      refine g_putI (k := 23) hC cr12 ui_12 tyX12_ok nmX12 ht1 ht2 (by decide) fl_X12_207 rfl rfl rfl rfl dX12_clears_35 ?_
      refine g_aload_n hC dX12_clears_38 rfl 0 rfl ?_
      refine g_iconst (v := 0) hC dX12_clears_39 (by decide) ?_
      refine g_putI (k := 24) hC cr12 ui_12 tyX12_ok nmX12 ht1 ht2 (by decide) fl_X12_210 rfl rfl rfl rfl dX12_clears_40 ?_
      exact g_vret hC hR dX12_clears_43 h
    · refine g_aload_n hC dX12_clears_13 rfl 0 rfl ?_
      refine g_getR (cj := 16) (k := 21) hC cr12 ui_12 ht1 ht2 (by decide) fl_X12_100 rfl rfl dX12_clears_14 h hf (fun a2 ea2 ka2 na2 h => ?_)
      refine g_iload_n hC dX12_clears_17 rfl 1 rfl ?_
      refine g_iconst (v := 0) hC dX12_clears_18 (by decide) ?_
      refine g_zast hC ka2 na2 dX12_clears_19 h hf (fun h => ?_)
      refine g_iinc (v := x2 + 1) (lv' := [(2, .int (x2 + 1)), (0, .ref (E.2.2.1 t))]) hC dX12_clears_20 1 rfl rfl (by decide) rfl ?_
      refine g_goto (tgt := 7) hC dX12_clears_23 (by decide) ?_
      exact g_sub [1, 0] rfl (ih (x2 + 1) (sI σ a2 x2.toNatClampNeg (0 &&& 1)) h)
set_option maxHeartbeats 4000000 in
set_option maxRecDepth 100000 in
theorem k_X12_clears_0 {E : ET} {F : FT} {fo : Option HS} (hC : Cx E F 3 cX12_clears RX12 GT) (hO : Ro F rm_X12_clears) (hR : RV E F fo) (hf : fo ≠ none) (t : Nat) (ht1 : kd t = 12) (ht2 : AL E t) (x1 : Int32) (σ : HS) (h : f_X12_clears t x1 σ = fo) : G E F 0 [(0, .ref (E.2.2.1 t)), (1, .int x1)] [] σ := by
    refine g_aload_n hC dX12_clears_0 rfl 0 rfl ?_
    refine g_iload_n hC dX12_clears_1 rfl 1 rfl ?_
    refine g_putI (k := 20) hC cr12 ui_12 tyX12_ok nmX12 ht1 ht2 (by decide) fl_X12_193 rfl rfl rfl rfl dX12_clears_2 ?_
    refine g_iconst (v := 0) hC dX12_clears_5 (by decide) ?_
    refine g_istore_n (lv' := [(2, .int 0), (0, .ref (E.2.2.1 t)), (1, .int x1)]) hC dX12_clears_6 rfl (by decide) rfl ?_
    exact g_sub [1, 0] rfl (k_X12_clears_7 hC hO hR hf t ht1 ht2 FU 0 (sI σ t 20 x1) h)
theorem xk_X12_clears (R : Room) (h1 : 1 + 1 ≤ R.frames) (h2 : 68 ≤ R.locals) : xw R yX12_clears w_X12_clears GT cX12_clears 3 none rm_X12_clears 1 := ⟨rfl, rfl, rfl, h1, h2, ⟨by decide, by decide⟩, by decide +kernel⟩
theorem c_X12_clears (E : ET) (hE : EO E) (t : Nat) (ht1 : kd t = 12) (ht2 : AL E t) (x1 : Int32) (σ : HS) (hn : f_X12_clears t x1 σ ≠ none) : CoV E yX12_clears w_X12_clears rm_X12_clears [.ref (E.2.2.1 t), .int x1] σ (f_X12_clears t x1 σ) := CoV.of (lv := [(0, .ref (E.2.2.1 t)), (1, .int x1)]) hE (plainFor_of_name (by decide)) rfl (Nat.le_of_ble_eq_true rfl) rfl (fun F hC hO hR => k_X12_clears_0 hC hO hR hn t ht1 ht2 x1 σ rfl)
def rm_X12_measures : Room := { frames := 2, cells := 0, slots := 0, locals := 68 }
theorem wc_X12_within : Cond.code yX12_within cX12_within 3 (some .boolean) ∈ GT := gtr_11 _ (List.mem_of_getElem? (i := 8) rfl)
theorem gc_X12_213 : GoodIn GT (va_wsS RX12 213 yX12_within w_X12_within) := gi_S (gtr_11 _ (List.mem_of_getElem? (i := 6) rfl)) (gtr_11 _ (List.mem_of_getElem? (i := 7) rfl)) (gtr_1 _ (List.mem_of_getElem? (i := 5) rfl)) wc_X12_within
theorem wc_X12_clears : Cond.code yX12_clears cX12_clears 3 none ∈ GT := gtr_10 _ (List.mem_of_getElem? (i := 13) rfl)
theorem gc_X12_130 : GoodIn GT (wsV RX12 130 RX12 yX12_clears w_X12_clears) := gi_V (gtr_10 _ (List.mem_of_getElem? (i := 10) rfl)) (gtr_10 _ (List.mem_of_getElem? (i := 11) rfl)) (gtr_10 _ (List.mem_of_getElem? (i := 12) rfl)) (gtr_1 _ (List.mem_of_getElem? (i := 5) rfl)) wc_X12_clears
set_option maxHeartbeats 4000000 in
set_option maxRecDepth 100000 in
theorem k_X12_measures_0 {E : ET} {F : FT} {fo : Option (Int32 × HS)} (hC : Cx E F 2 cX12_measures RX12 GT) (hO : Ro F rm_X12_measures) (hR : RI E F .boolean fo) (hf : fo ≠ none) (t : Nat) (ht1 : kd t = 12) (ht2 : AL E t) (x1 : Int32) (σ : HS) (h : f_X12_measures t x1 σ = fo) : G E F 0 [(0, .ref (E.2.2.1 t)), (1, .int x1)] [] σ := by
    refine g_aload_n hC dX12_measures_0 rfl 0 rfl ?_
    refine g_iconst (v := 0) hC dX12_measures_1 (by decide) ?_
    refine g_putI (k := 0) hC cr12 ui_12 tyX12_ok nmX12 ht1 ht2 (by decide) fl_X12_1 rfl rfl rfl rfl dX12_measures_2 ?_
    refine g_iload_n hC dX12_measures_5 rfl 1 rfl ?_
    refine g_iconst (v := 1) hC dX12_measures_6 (by decide) ?_
    refine g_iconst (v := 4) hC dX12_measures_7 (by decide) ?_
    obtain ⟨q1, hq1, h⟩ := bd_of h hf
    refine g_cSI (As := [.int x1, .int 1, .int 4]) hC hO (c_X12_within _ hC.2.2.2.2.2.2.1 x1 1 4 (sI σ t 0 0) (nn_of hq1)) gc_X12_213 (xk_X12_within _ (Nat.le_of_ble_eq_true rfl) (Nat.le_of_ble_eq_true rfl)) rfl (Nat.le_of_ble_eq_true rfl) dX12_measures_8 hq1 ?_
    refine g_if_ne (tgt := 16) hC dX12_measures_11 (by decide) h (fun c11 h => ?_) (fun c11 h => ?_)
    · refine g_aload_n hC dX12_measures_16 rfl 0 rfl ?_
      refine g_iload_n hC dX12_measures_17 rfl 1 rfl ?_
      obtain ⟨q2, hq2, h⟩ := bd_of h hf
      refine g_cVV (As := [.int x1]) hC hO (c_X12_clears _ hC.2.2.2.2.2.2.1 t ht1 ht2 x1 q1.2 (nn_of hq2)) gc_X12_130 (xk_X12_clears _ (Nat.le_of_ble_eq_true rfl) (Nat.le_of_ble_eq_true rfl)) cr12 ht1 ht2 rfl (Nat.le_of_ble_eq_true rfl) dX12_measures_18 hq2 ?_
      refine g_iconst (v := 1) hC dX12_measures_21 (by decide) ?_
      exact g_iret hC hR dX12_measures_22 rfl h
    · refine g_iconst (v := 0) hC dX12_measures_14 (by decide) ?_
      exact g_iret hC hR dX12_measures_15 rfl h
theorem xk_X12_measures (R : Room) (h1 : 2 + 1 ≤ R.frames) (h2 : 101 ≤ R.locals) : xw R yX12_measures w_X12_measures GT cX12_measures 2 (some .boolean) rm_X12_measures 1 := ⟨rfl, rfl, rfl, h1, h2, ⟨by decide, by decide⟩, by decide +kernel⟩
theorem c_X12_measures (E : ET) (hE : EO E) (t : Nat) (ht1 : kd t = 12) (ht2 : AL E t) (x1 : Int32) (σ : HS) (hn : f_X12_measures t x1 σ ≠ none) : CoI E yX12_measures w_X12_measures rm_X12_measures [.ref (E.2.2.1 t), .int x1] σ (f_X12_measures t x1 σ) := CoI.of (lv := [(0, .ref (E.2.2.1 t)), (1, .int x1)]) hE (plainFor_of_name (by decide)) rfl (Nat.le_of_ble_eq_true rfl) rfl (fun F hC hO hR => k_X12_measures_0 hC hO hR hn t ht1 ht2 x1 σ rfl)
def rm_X12_thing : Room := { frames := 1, cells := 0, slots := 0, locals := 34 }
theorem fl_X12_103 : Cond.fieldLink RX12 103 "EveryMeasureModel" (TX12 22).2.1 (TX12 22).2.2.1 ∈ GT := gtr_10 _ (List.mem_of_getElem? (i := 1) rfl)
set_option maxHeartbeats 4000000 in
set_option maxRecDepth 100000 in
theorem k_X12_thing_93 {E : ET} {F : FT} {fo : Option (Int32 × HS)} (hC : Cx E F 7 cX12_thing RX12 GT) (hO : Ro F rm_X12_thing) (hR : RI E F .boolean fo) (hf : fo ≠ none) (σ : HS) (h : f_X12_thing_93 σ = fo) : G E F 93 [] [] σ := by
    refine g_iconst (v := 0) hC dX12_thing_93 (by decide) ?_
    exact g_iret hC hR dX12_thing_94 rfl h
set_option maxHeartbeats 4000000 in
set_option maxRecDepth 100000 in
theorem k_X12_thing_181 {E : ET} {F : FT} {fo : Option (Int32 × HS)} (hC : Cx E F 7 cX12_thing RX12 GT) (hO : Ro F rm_X12_thing) (hR : RI E F .boolean fo) (hf : fo ≠ none) (s0 : Int32) (s1 : Int32) (s2 : Nat) (hs2a : kd s2 = 14) (hs2b : AL E s2) (σ : HS) (h : f_X12_thing_181 s0 s1 s2 σ = fo) : G E F 181 [] [.int s0, .int s1, .ref (E.2.2.1 s2)] σ := by
    refine g_iast hC hs2a hs2b dX12_thing_181 h hf (fun h => ?_)
    refine g_iconst (v := 1) hC dX12_thing_182 (by decide) ?_
    exact g_iret hC hR dX12_thing_183 rfl h
set_option maxHeartbeats 4000000 in
set_option maxRecDepth 100000 in
theorem k_X12_thing_157 {E : ET} {F : FT} {fo : Option (Int32 × HS)} (hC : Cx E F 7 cX12_thing RX12 GT) (hO : Ro F rm_X12_thing) (hR : RI E F .boolean fo) (hf : fo ≠ none) (t : Nat) (ht1 : kd t = 12) (ht2 : AL E t) (x1 : Int32) (x5 : Int32) (s0 : Int32) (s1 : Int32) (s2 : Nat) (hs2a : kd s2 = 14) (hs2b : AL E s2) (σ : HS) (h : f_X12_thing_157 t x1 x5 s0 s1 s2 σ = fo) : G E F 157 [(0, .ref (E.2.2.1 t)), (1, .int x1), (5, .int x5)] [.int s0, .int s1, .ref (E.2.2.1 s2)] σ := by
    refine g_iast hC hs2a hs2b dX12_thing_157 h hf (fun h => ?_)
    refine g_aload_n hC dX12_thing_158 rfl 0 rfl ?_
    refine g_getR (cj := 14) (k := 22) hC cr12 ui_12 ht1 ht2 (by decide) fl_X12_103 rfl rfl dX12_thing_159 h hf (fun a1 ea1 ka1 na1 h => ?_)
    refine g_iconst (v := 4) hC dX12_thing_162 (by decide) ?_
    refine g_iload_n hC dX12_thing_163 rfl 1 rfl ?_
    refine g_imul hC dX12_thing_164 ?_
    refine g_iconst (v := 3) hC dX12_thing_165 (by decide) ?_
    refine g_iadd hC dX12_thing_166 ?_
    refine g_aload_n hC dX12_thing_167 rfl 0 rfl ?_
    refine g_getI (k := 20) hC cr12 ui_12 ht1 ht2 (by decide) fl_X12_193 rfl rfl dX12_thing_168 ?_
    refine g_iconst (v := 4) hC dX12_thing_171 (by decide) ?_
    refine g_icmp_ge (tgt := 179) hC dX12_thing_172 (by decide) h (fun c172 h => ?_) (fun c172 h => ?_)
    · refine g_iload hC dX12_thing_179 2 rfl ?_
      exact g_sub [] rfl (k_X12_thing_181 hC hO hR hf x5 (((4 : Int32) * x1) + 3) a1 ka1 na1 (sI σ s2 s1.toNatClampNeg s0) h)
    · refine g_iconst (v := 0) hC dX12_thing_175 (by decide) ?_
      refine g_goto (tgt := 181) hC dX12_thing_176 (by decide) ?_
      exact g_sub [] rfl (k_X12_thing_181 hC hO hR hf 0 (((4 : Int32) * x1) + 3) a1 ka1 na1 (sI σ s2 s1.toNatClampNeg s0) h)
set_option maxHeartbeats 4000000 in
set_option maxRecDepth 100000 in
theorem k_X12_thing_133 {E : ET} {F : FT} {fo : Option (Int32 × HS)} (hC : Cx E F 7 cX12_thing RX12 GT) (hO : Ro F rm_X12_thing) (hR : RI E F .boolean fo) (hf : fo ≠ none) (t : Nat) (ht1 : kd t = 12) (ht2 : AL E t) (x1 : Int32) (x4 : Int32) (x5 : Int32) (s0 : Int32) (s1 : Int32) (s2 : Nat) (hs2a : kd s2 = 14) (hs2b : AL E s2) (σ : HS) (h : f_X12_thing_133 t x1 x4 x5 s0 s1 s2 σ = fo) : G E F 133 [(0, .ref (E.2.2.1 t)), (1, .int x1), (4, .int x4), (5, .int x5)] [.int s0, .int s1, .ref (E.2.2.1 s2)] σ := by
    refine g_iast hC hs2a hs2b dX12_thing_133 h hf (fun h => ?_)
    refine g_aload_n hC dX12_thing_134 rfl 0 rfl ?_
    refine g_getR (cj := 14) (k := 22) hC cr12 ui_12 ht1 ht2 (by decide) fl_X12_103 rfl rfl dX12_thing_135 h hf (fun a1 ea1 ka1 na1 h => ?_)
    refine g_iconst (v := 4) hC dX12_thing_138 (by decide) ?_
    refine g_iload_n hC dX12_thing_139 rfl 1 rfl ?_
    refine g_imul hC dX12_thing_140 ?_
    refine g_iconst (v := 2) hC dX12_thing_141 (by decide) ?_
    refine g_iadd hC dX12_thing_142 ?_
    refine g_aload_n hC dX12_thing_143 rfl 0 rfl ?_
    refine g_getI (k := 20) hC cr12 ui_12 ht1 ht2 (by decide) fl_X12_193 rfl rfl dX12_thing_144 ?_
    refine g_iconst (v := 3) hC dX12_thing_147 (by decide) ?_
    refine g_icmp_ge (tgt := 155) hC dX12_thing_148 (by decide) h (fun c148 h => ?_) (fun c148 h => ?_)
    · refine g_iload hC dX12_thing_155 2 rfl ?_
      exact g_sub [0, 1, 3] rfl (k_X12_thing_157 hC hO hR hf t ht1 ht2 x1 x5 x4 (((4 : Int32) * x1) + 2) a1 ka1 na1 (sI σ s2 s1.toNatClampNeg s0) h)
    · refine g_iconst (v := 0) hC dX12_thing_151 (by decide) ?_
      refine g_goto (tgt := 157) hC dX12_thing_152 (by decide) ?_
      exact g_sub [0, 1, 3] rfl (k_X12_thing_157 hC hO hR hf t ht1 ht2 x1 x5 0 (((4 : Int32) * x1) + 2) a1 ka1 na1 (sI σ s2 s1.toNatClampNeg s0) h)
set_option maxHeartbeats 4000000 in
set_option maxRecDepth 100000 in
theorem k_X12_thing_95 {E : ET} {F : FT} {fo : Option (Int32 × HS)} (hC : Cx E F 7 cX12_thing RX12 GT) (hO : Ro F rm_X12_thing) (hR : RI E F .boolean fo) (hf : fo ≠ none) (t : Nat) (ht1 : kd t = 12) (ht2 : AL E t) (x1 : Int32) (x2 : Int32) (x3 : Int32) (x4 : Int32) (x5 : Int32) (σ : HS) (h : f_X12_thing_95 t x1 x2 x3 x4 x5 σ = fo) : G E F 95 [(0, .ref (E.2.2.1 t)), (1, .int x1), (2, .int x2), (3, .int x3), (4, .int x4), (5, .int x5)] [] σ := by
    refine g_aload_n hC dX12_thing_95 rfl 0 rfl ?_
    refine g_getR (cj := 16) (k := 21) hC cr12 ui_12 ht1 ht2 (by decide) fl_X12_100 rfl rfl dX12_thing_96 h hf (fun a1 ea1 ka1 na1 h => ?_)
    refine g_iload_n hC dX12_thing_99 rfl 1 rfl ?_
    refine g_iconst (v := 1) hC dX12_thing_100 (by decide) ?_
    refine g_zast hC ka1 na1 dX12_thing_101 h hf (fun h => ?_)
    refine g_aload_n hC dX12_thing_102 rfl 0 rfl ?_
    refine g_getR (cj := 14) (k := 22) hC cr12 ui_12 ht1 ht2 (by decide) fl_X12_103 rfl rfl dX12_thing_103 h hf (fun a2 ea2 ka2 na2 h => ?_)
    refine g_iconst (v := 4) hC dX12_thing_106 (by decide) ?_
    refine g_iload_n hC dX12_thing_107 rfl 1 rfl ?_
    refine g_imul hC dX12_thing_108 ?_
    refine g_iload_n hC dX12_thing_109 rfl 2 rfl ?_
    refine g_iast hC ka2 na2 dX12_thing_110 h hf (fun h => ?_)
    refine g_aload_n hC dX12_thing_111 rfl 0 rfl ?_
    refine g_getR (cj := 14) (k := 22) hC cr12 ui_12 ht1 ht2 (by decide) fl_X12_103 rfl rfl dX12_thing_112 h hf (fun a3 ea3 ka3 na3 h => ?_)
    refine g_iconst (v := 4) hC dX12_thing_115 (by decide) ?_
    refine g_iload_n hC dX12_thing_116 rfl 1 rfl ?_
    refine g_imul hC dX12_thing_117 ?_
    refine g_iconst (v := 1) hC dX12_thing_118 (by decide) ?_
    refine g_iadd hC dX12_thing_119 ?_
    refine g_aload_n hC dX12_thing_120 rfl 0 rfl ?_
    refine g_getI (k := 20) hC cr12 ui_12 ht1 ht2 (by decide) fl_X12_193 rfl rfl dX12_thing_121 ?_
    refine g_iconst (v := 2) hC dX12_thing_124 (by decide) ?_
    refine g_icmp_ge (tgt := 132) hC dX12_thing_125 (by decide) h (fun c125 h => ?_) (fun c125 h => ?_)
    · refine g_iload_n hC dX12_thing_132 rfl 3 rfl ?_
      exact g_sub [0, 1, 4, 5] rfl (k_X12_thing_133 hC hO hR hf t ht1 ht2 x1 x4 x5 x3 (((4 : Int32) * x1) + 1) a3 ka3 na3 (sI (sI σ a1 x1.toNatClampNeg (1 &&& 1)) a2 ((4 : Int32) * x1).toNatClampNeg x2) h)
    · refine g_iconst (v := 0) hC dX12_thing_128 (by decide) ?_
      refine g_goto (tgt := 133) hC dX12_thing_129 (by decide) ?_
      exact g_sub [0, 1, 4, 5] rfl (k_X12_thing_133 hC hO hR hf t ht1 ht2 x1 x4 x5 0 (((4 : Int32) * x1) + 1) a3 ka3 na3 (sI (sI σ a1 x1.toNatClampNeg (1 &&& 1)) a2 ((4 : Int32) * x1).toNatClampNeg x2) h)
set_option maxHeartbeats 4000000 in
set_option maxRecDepth 100000 in
theorem k_X12_thing_74 {E : ET} {F : FT} {fo : Option (Int32 × HS)} (hC : Cx E F 7 cX12_thing RX12 GT) (hO : Ro F rm_X12_thing) (hR : RI E F .boolean fo) (hf : fo ≠ none) (t : Nat) (ht1 : kd t = 12) (ht2 : AL E t) (x1 : Int32) (x2 : Int32) (x3 : Int32) (x4 : Int32) (x5 : Int32) (σ : HS) (h : f_X12_thing_74 t x1 x2 x3 x4 x5 σ = fo) : G E F 74 [(0, .ref (E.2.2.1 t)), (1, .int x1), (2, .int x2), (3, .int x3), (4, .int x4), (5, .int x5)] [] σ := by
    refine g_aload_n hC dX12_thing_74 rfl 0 rfl ?_
    refine g_getI (k := 20) hC cr12 ui_12 ht1 ht2 (by decide) fl_X12_193 rfl rfl dX12_thing_75 ?_
    refine g_iconst (v := 3) hC dX12_thing_78 (by decide) ?_
    refine g_icmp_le (tgt := 95) hC dX12_thing_79 (by decide) h (fun c79 h => ?_) (fun c79 h => ?_)
    · exact g_sub [0, 1, 2, 3, 4, 5] rfl (k_X12_thing_95 hC hO hR hf t ht1 ht2 x1 x2 x3 x4 x5 σ h)
    · refine g_iload hC dX12_thing_82 5 rfl ?_
      refine g_iconst (v := 0) hC dX12_thing_84 (by decide) ?_
      refine g_bipush (v := 100) hC dX12_thing_85 (by decide) ?_
      obtain ⟨q1, hq1, h⟩ := bd_of h hf
      refine g_cSI (As := [.int x5, .int 0, .int 100]) hC hO (c_X12_within _ hC.2.2.2.2.2.2.1 x5 0 100 σ (nn_of hq1)) gc_X12_213 (xk_X12_within _ (Nat.le_of_ble_eq_true rfl) (Nat.le_of_ble_eq_true rfl)) rfl (Nat.le_of_ble_eq_true rfl) dX12_thing_87 hq1 ?_
      refine g_if_ne (tgt := 95) hC dX12_thing_90 (by decide) h (fun c90 h => ?_) (fun c90 h => ?_)
      · exact g_sub [0, 1, 2, 3, 4, 5] rfl (k_X12_thing_95 hC hO hR hf t ht1 ht2 x1 x2 x3 x4 x5 q1.2 h)
      · exact g_sub [] rfl (k_X12_thing_93 hC hO hR hf q1.2 h)
set_option maxHeartbeats 4000000 in
set_option maxRecDepth 100000 in
theorem k_X12_thing_48 {E : ET} {F : FT} {fo : Option (Int32 × HS)} (hC : Cx E F 7 cX12_thing RX12 GT) (hO : Ro F rm_X12_thing) (hR : RI E F .boolean fo) (hf : fo ≠ none) (t : Nat) (ht1 : kd t = 12) (ht2 : AL E t) (x1 : Int32) (x2 : Int32) (x3 : Int32) (x4 : Int32) (x5 : Int32) (s0 : Int32) (σ : HS) (h : f_X12_thing_48 t x1 x2 x3 x4 x5 s0 σ = fo) : G E F 48 [(0, .ref (E.2.2.1 t)), (1, .int x1), (2, .int x2), (3, .int x3), (4, .int x4), (5, .int x5)] [.int s0] σ := by
    refine g_istore (lv' := [(6, .int s0), (0, .ref (E.2.2.1 t)), (1, .int x1), (2, .int x2), (3, .int x3), (4, .int x4), (5, .int x5)]) hC dX12_thing_48 (by decide) rfl ?_
    refine g_iload hC dX12_thing_50 0 rfl ?_
    refine g_if_eq (tgt := 93) hC dX12_thing_52 (by decide) h (fun c52 h => ?_) (fun c52 h => ?_)
    · exact g_sub [] rfl (k_X12_thing_93 hC hO hR hf σ h)
    · refine g_aload_n hC dX12_thing_55 rfl 1 rfl ?_
      refine g_getI (k := 20) hC cr12 ui_12 ht1 ht2 (by decide) fl_X12_193 rfl rfl dX12_thing_56 ?_
      refine g_iconst (v := 2) hC dX12_thing_59 (by decide) ?_
      refine g_icmp_le (tgt := 74) hC dX12_thing_60 (by decide) h (fun c60 h => ?_) (fun c60 h => ?_)
      · exact g_sub [1, 2, 3, 4, 5, 6] rfl (k_X12_thing_74 hC hO hR hf t ht1 ht2 x1 x2 x3 x4 x5 σ h)
      · refine g_iload hC dX12_thing_63 5 rfl ?_
        refine g_iconst (v := 0) hC dX12_thing_65 (by decide) ?_
        refine g_bipush (v := 100) hC dX12_thing_66 (by decide) ?_
        obtain ⟨q1, hq1, h⟩ := bd_of h hf
        refine g_cSI (As := [.int x4, .int 0, .int 100]) hC hO (c_X12_within _ hC.2.2.2.2.2.2.1 x4 0 100 σ (nn_of hq1)) gc_X12_213 (xk_X12_within _ (Nat.le_of_ble_eq_true rfl) (Nat.le_of_ble_eq_true rfl)) rfl (Nat.le_of_ble_eq_true rfl) dX12_thing_68 hq1 ?_
        refine g_if_eq (tgt := 93) hC dX12_thing_71 (by decide) h (fun c71 h => ?_) (fun c71 h => ?_)
        · exact g_sub [] rfl (k_X12_thing_93 hC hO hR hf q1.2 h)
        · exact g_sub [1, 2, 3, 4, 5, 6] rfl (k_X12_thing_74 hC hO hR hf t ht1 ht2 x1 x2 x3 x4 x5 q1.2 h)
set_option maxHeartbeats 4000000 in
set_option maxRecDepth 100000 in
theorem k_X12_thing_47 {E : ET} {F : FT} {fo : Option (Int32 × HS)} (hC : Cx E F 7 cX12_thing RX12 GT) (hO : Ro F rm_X12_thing) (hR : RI E F .boolean fo) (hf : fo ≠ none) (t : Nat) (ht1 : kd t = 12) (ht2 : AL E t) (x1 : Int32) (x2 : Int32) (x3 : Int32) (x4 : Int32) (x5 : Int32) (σ : HS) (h : f_X12_thing_47 t x1 x2 x3 x4 x5 σ = fo) : G E F 47 [(0, .ref (E.2.2.1 t)), (1, .int x1), (2, .int x2), (3, .int x3), (4, .int x4), (5, .int x5)] [] σ := by
    refine g_iconst (v := 0) hC dX12_thing_47 (by decide) ?_
    exact g_sub [0, 1, 2, 3, 4, 5] rfl (k_X12_thing_48 hC hO hR hf t ht1 ht2 x1 x2 x3 x4 x5 0 σ h)
set_option maxHeartbeats 4000000 in
set_option maxRecDepth 100000 in
theorem k_X12_thing_43 {E : ET} {F : FT} {fo : Option (Int32 × HS)} (hC : Cx E F 7 cX12_thing RX12 GT) (hO : Ro F rm_X12_thing) (hR : RI E F .boolean fo) (hf : fo ≠ none) (t : Nat) (ht1 : kd t = 12) (ht2 : AL E t) (x1 : Int32) (x2 : Int32) (x3 : Int32) (x4 : Int32) (x5 : Int32) (σ : HS) (h : f_X12_thing_43 t x1 x2 x3 x4 x5 σ = fo) : G E F 43 [(0, .ref (E.2.2.1 t)), (1, .int x1), (2, .int x2), (3, .int x3), (4, .int x4), (5, .int x5)] [] σ := by
    refine g_iconst (v := 1) hC dX12_thing_43 (by decide) ?_
    refine g_goto (tgt := 48) hC dX12_thing_44 (by decide) ?_
    exact g_sub [0, 1, 2, 3, 4, 5] rfl (k_X12_thing_48 hC hO hR hf t ht1 ht2 x1 x2 x3 x4 x5 1 σ h)
set_option maxHeartbeats 4000000 in
set_option maxRecDepth 100000 in
theorem k_X12_thing_0 {E : ET} {F : FT} {fo : Option (Int32 × HS)} (hC : Cx E F 7 cX12_thing RX12 GT) (hO : Ro F rm_X12_thing) (hR : RI E F .boolean fo) (hf : fo ≠ none) (t : Nat) (ht1 : kd t = 12) (ht2 : AL E t) (x1 : Int32) (x2 : Int32) (x3 : Int32) (x4 : Int32) (x5 : Int32) (σ : HS) (h : f_X12_thing t x1 x2 x3 x4 x5 σ = fo) : G E F 0 [(0, .ref (E.2.2.1 t)), (1, .int x1), (2, .int x2), (3, .int x3), (4, .int x4), (5, .int x5)] [] σ := by
    refine g_aload_n hC dX12_thing_0 rfl 0 rfl ?_
    refine g_iconst (v := 0) hC dX12_thing_1 (by decide) ?_
    refine g_putI (k := 0) hC cr12 ui_12 tyX12_ok nmX12 ht1 ht2 (by decide) fl_X12_1 rfl rfl rfl rfl dX12_thing_2 ?_
    refine g_iload_n hC dX12_thing_5 rfl 1 rfl ?_
    refine g_iconst (v := 0) hC dX12_thing_6 (by decide) ?_
    refine g_bipush (v := 7) hC dX12_thing_7 (by decide) ?_
    obtain ⟨q1, hq1, h⟩ := bd_of h hf
    refine g_cSI (As := [.int x1, .int 0, .int 7]) hC hO (c_X12_within _ hC.2.2.2.2.2.2.1 x1 0 7 (sI σ t 0 0) (nn_of hq1)) gc_X12_213 (xk_X12_within _ (Nat.le_of_ble_eq_true rfl) (Nat.le_of_ble_eq_true rfl)) rfl (Nat.le_of_ble_eq_true rfl) dX12_thing_9 hq1 ?_
    refine g_if_eq (tgt := 47) hC dX12_thing_12 (by decide) h (fun c12 h => ?_) (fun c12 h => ?_)
    · exact g_sub [0, 1, 2, 3, 4, 5] rfl (k_X12_thing_47 hC hO hR hf t ht1 ht2 x1 x2 x3 x4 x5 q1.2 h)
    · refine g_iload_n hC dX12_thing_15 rfl 2 rfl ?_
      refine g_iconst (v := 0) hC dX12_thing_16 (by decide) ?_
      refine g_bipush (v := 100) hC dX12_thing_17 (by decide) ?_
      obtain ⟨q2, hq2, h⟩ := bd_of h hf
      refine g_cSI (As := [.int x2, .int 0, .int 100]) hC hO (c_X12_within _ hC.2.2.2.2.2.2.1 x2 0 100 q1.2 (nn_of hq2)) gc_X12_213 (xk_X12_within _ (Nat.le_of_ble_eq_true rfl) (Nat.le_of_ble_eq_true rfl)) rfl (Nat.le_of_ble_eq_true rfl) dX12_thing_19 hq2 ?_
      refine g_if_eq (tgt := 47) hC dX12_thing_22 (by decide) h (fun c22 h => ?_) (fun c22 h => ?_)
      · exact g_sub [0, 1, 2, 3, 4, 5] rfl (k_X12_thing_47 hC hO hR hf t ht1 ht2 x1 x2 x3 x4 x5 q2.2 h)
      · refine g_aload_n hC dX12_thing_25 rfl 0 rfl ?_
        refine g_getI (k := 20) hC cr12 ui_12 ht1 ht2 (by decide) fl_X12_193 rfl rfl dX12_thing_26 ?_
        refine g_iconst (v := 2) hC dX12_thing_29 (by decide) ?_
        refine g_icmp_lt (tgt := 43) hC dX12_thing_30 (by decide) h (fun c30 h => ?_) (fun c30 h => ?_)
        · exact g_sub [0, 1, 2, 3, 4, 5] rfl (k_X12_thing_43 hC hO hR hf t ht1 ht2 x1 x2 x3 x4 x5 q2.2 h)
        · refine g_iload_n hC dX12_thing_33 rfl 3 rfl ?_
          refine g_iconst (v := 0) hC dX12_thing_34 (by decide) ?_
          refine g_bipush (v := 100) hC dX12_thing_35 (by decide) ?_
          obtain ⟨q3, hq3, h⟩ := bd_of h hf
          refine g_cSI (As := [.int x3, .int 0, .int 100]) hC hO (c_X12_within _ hC.2.2.2.2.2.2.1 x3 0 100 q2.2 (nn_of hq3)) gc_X12_213 (xk_X12_within _ (Nat.le_of_ble_eq_true rfl) (Nat.le_of_ble_eq_true rfl)) rfl (Nat.le_of_ble_eq_true rfl) dX12_thing_37 hq3 ?_
          refine g_if_eq (tgt := 47) hC dX12_thing_40 (by decide) h (fun c40 h => ?_) (fun c40 h => ?_)
          · exact g_sub [0, 1, 2, 3, 4, 5] rfl (k_X12_thing_47 hC hO hR hf t ht1 ht2 x1 x2 x3 x4 x5 q3.2 h)
          · exact g_sub [0, 1, 2, 3, 4, 5] rfl (k_X12_thing_43 hC hO hR hf t ht1 ht2 x1 x2 x3 x4 x5 q3.2 h)
theorem xk_X12_thing (R : Room) (h1 : 1 + 1 ≤ R.frames) (h2 : 72 ≤ R.locals) : xw R yX12_thing w_X12_thing GT cX12_thing 7 (some .boolean) rm_X12_thing 5 := ⟨rfl, rfl, rfl, h1, h2, ⟨by decide, by decide⟩, by decide +kernel⟩
theorem c_X12_thing (E : ET) (hE : EO E) (t : Nat) (ht1 : kd t = 12) (ht2 : AL E t) (x1 : Int32) (x2 : Int32) (x3 : Int32) (x4 : Int32) (x5 : Int32) (σ : HS) (hn : f_X12_thing t x1 x2 x3 x4 x5 σ ≠ none) : CoI E yX12_thing w_X12_thing rm_X12_thing [.ref (E.2.2.1 t), .int x1, .int x2, .int x3, .int x4, .int x5] σ (f_X12_thing t x1 x2 x3 x4 x5 σ) := CoI.of (lv := [(0, .ref (E.2.2.1 t)), (1, .int x1), (2, .int x2), (3, .int x3), (4, .int x4), (5, .int x5)]) hE (plainFor_of_name (by decide)) rfl (Nat.le_of_ble_eq_true rfl) rfl (fun F hC hO hR => k_X12_thing_0 hC hO hR hn t ht1 ht2 x1 x2 x3 x4 x5 σ rfl)
def rm_X12_isThing : Room := { frames := 1, cells := 0, slots := 0, locals := 34 }
set_option maxHeartbeats 4000000 in
set_option maxRecDepth 100000 in
theorem k_X12_isThing_24 {E : ET} {F : FT} {fo : Option (Int32 × HS)} (hC : Cx E F 2 cX12_isThing RX12 GT) (hO : Ro F rm_X12_isThing) (hR : RI E F .boolean fo) (hf : fo ≠ none) (s0 : Int32) (σ : HS) (h : f_X12_isThing_24 s0 σ = fo) : G E F 24 [] [.int s0] σ := by
    obtain ⟨hz, h⟩ := zr_of h hf
    exact g_iret hC hR dX12_isThing_24 hz h
set_option maxHeartbeats 4000000 in
set_option maxRecDepth 100000 in
theorem k_X12_isThing_23 {E : ET} {F : FT} {fo : Option (Int32 × HS)} (hC : Cx E F 2 cX12_isThing RX12 GT) (hO : Ro F rm_X12_isThing) (hR : RI E F .boolean fo) (hf : fo ≠ none) (σ : HS) (h : f_X12_isThing_23 σ = fo) : G E F 23 [] [] σ := by
    refine g_iconst (v := 0) hC dX12_isThing_23 (by decide) ?_
    exact g_sub [] rfl (k_X12_isThing_24 hC hO hR hf 0 σ h)
set_option maxHeartbeats 4000000 in
set_option maxRecDepth 100000 in
theorem k_X12_isThing_0 {E : ET} {F : FT} {fo : Option (Int32 × HS)} (hC : Cx E F 2 cX12_isThing RX12 GT) (hO : Ro F rm_X12_isThing) (hR : RI E F .boolean fo) (hf : fo ≠ none) (t : Nat) (ht1 : kd t = 12) (ht2 : AL E t) (x1 : Int32) (σ : HS) (h : f_X12_isThing t x1 σ = fo) : G E F 0 [(0, .ref (E.2.2.1 t)), (1, .int x1)] [] σ := by
    refine g_iload_n hC dX12_isThing_0 rfl 1 rfl ?_
    refine g_iconst (v := 0) hC dX12_isThing_1 (by decide) ?_
    refine g_bipush (v := 7) hC dX12_isThing_2 (by decide) ?_
    obtain ⟨q1, hq1, h⟩ := bd_of h hf
    refine g_cSI (As := [.int x1, .int 0, .int 7]) hC hO (c_X12_within _ hC.2.2.2.2.2.2.1 x1 0 7 σ (nn_of hq1)) gc_X12_213 (xk_X12_within _ (Nat.le_of_ble_eq_true rfl) (Nat.le_of_ble_eq_true rfl)) rfl (Nat.le_of_ble_eq_true rfl) dX12_isThing_4 hq1 ?_
    refine g_if_eq (tgt := 23) hC dX12_isThing_7 (by decide) h (fun c7 h => ?_) (fun c7 h => ?_)
    · exact g_sub [] rfl (k_X12_isThing_23 hC hO hR hf q1.2 h)
    · refine g_aload_n hC dX12_isThing_10 rfl 0 rfl ?_
      refine g_getR (cj := 16) (k := 21) hC cr12 ui_12 ht1 ht2 (by decide) fl_X12_100 rfl rfl dX12_isThing_11 h hf (fun a2 ea2 ka2 na2 h => ?_)
      refine g_iload_n hC dX12_isThing_14 rfl 1 rfl ?_
      refine g_zald hC ka2 na2 dX12_isThing_15 h hf (fun h => ?_)
      refine g_if_eq (tgt := 23) hC dX12_isThing_16 (by decide) h (fun c16 h => ?_) (fun c16 h => ?_)
      · exact g_sub [] rfl (k_X12_isThing_23 hC hO hR hf q1.2 h)
      · refine g_iconst (v := 1) hC dX12_isThing_19 (by decide) ?_
        refine g_goto (tgt := 24) hC dX12_isThing_20 (by decide) ?_
        exact g_sub [] rfl (k_X12_isThing_24 hC hO hR hf 1 q1.2 h)
theorem xk_X12_isThing (R : Room) (h1 : 1 + 1 ≤ R.frames) (h2 : 67 ≤ R.locals) : xw R yX12_isThing w_X12_isThing GT cX12_isThing 2 (some .boolean) rm_X12_isThing 1 := ⟨rfl, rfl, rfl, h1, h2, ⟨by decide, by decide⟩, by decide +kernel⟩
theorem c_X12_isThing (E : ET) (hE : EO E) (t : Nat) (ht1 : kd t = 12) (ht2 : AL E t) (x1 : Int32) (σ : HS) (hn : f_X12_isThing t x1 σ ≠ none) : CoI E yX12_isThing w_X12_isThing rm_X12_isThing [.ref (E.2.2.1 t), .int x1] σ (f_X12_isThing t x1 σ) := CoI.of (lv := [(0, .ref (E.2.2.1 t)), (1, .int x1)]) hE (plainFor_of_name (by decide)) rfl (Nat.le_of_ble_eq_true rfl) rfl (fun F hC hO hR => k_X12_isThing_0 hC hO hR hn t ht1 ht2 x1 σ rfl)
def rm_X12_drop : Room := { frames := 2, cells := 0, slots := 0, locals := 67 }
theorem wc_X12_isThing : Cond.code yX12_isThing cX12_isThing 2 (some .boolean) ∈ GT := gtr_12 _ (List.mem_of_getElem? (i := 16) rfl)
theorem gc_X12_217 : GoodIn GT (wsV RX12 217 RX12 yX12_isThing w_X12_isThing) := gi_V (gtr_12 _ (List.mem_of_getElem? (i := 13) rfl)) (gtr_12 _ (List.mem_of_getElem? (i := 14) rfl)) (gtr_12 _ (List.mem_of_getElem? (i := 15) rfl)) (gtr_1 _ (List.mem_of_getElem? (i := 5) rfl)) wc_X12_isThing
set_option maxHeartbeats 4000000 in
set_option maxRecDepth 100000 in
theorem k_X12_drop_0 {E : ET} {F : FT} {fo : Option (Int32 × HS)} (hC : Cx E F 2 cX12_drop RX12 GT) (hO : Ro F rm_X12_drop) (hR : RI E F .boolean fo) (hf : fo ≠ none) (t : Nat) (ht1 : kd t = 12) (ht2 : AL E t) (x1 : Int32) (σ : HS) (h : f_X12_drop t x1 σ = fo) : G E F 0 [(0, .ref (E.2.2.1 t)), (1, .int x1)] [] σ := by
    refine g_aload_n hC dX12_drop_0 rfl 0 rfl ?_
    refine g_iconst (v := 0) hC dX12_drop_1 (by decide) ?_
    refine g_putI (k := 0) hC cr12 ui_12 tyX12_ok nmX12 ht1 ht2 (by decide) fl_X12_1 rfl rfl rfl rfl dX12_drop_2 ?_
    refine g_aload_n hC dX12_drop_5 rfl 0 rfl ?_
    refine g_iload_n hC dX12_drop_6 rfl 1 rfl ?_
    obtain ⟨q1, hq1, h⟩ := bd_of h hf
    refine g_cVI (As := [.int x1]) hC hO (c_X12_isThing _ hC.2.2.2.2.2.2.1 t ht1 ht2 x1 (sI σ t 0 0) (nn_of hq1)) gc_X12_217 (xk_X12_isThing _ (Nat.le_of_ble_eq_true rfl) (Nat.le_of_ble_eq_true rfl)) cr12 ht1 ht2 rfl (Nat.le_of_ble_eq_true rfl) dX12_drop_7 hq1 ?_
    refine g_if_ne (tgt := 15) hC dX12_drop_10 (by decide) h (fun c10 h => ?_) (fun c10 h => ?_)
    · refine g_aload_n hC dX12_drop_15 rfl 0 rfl ?_
      refine g_getR (cj := 16) (k := 21) hC cr12 ui_12 ht1 ht2 (by decide) fl_X12_100 rfl rfl dX12_drop_16 h hf (fun a2 ea2 ka2 na2 h => ?_)
      refine g_iload_n hC dX12_drop_19 rfl 1 rfl ?_
      refine g_iconst (v := 0) hC dX12_drop_20 (by decide) ?_
      refine g_zast hC ka2 na2 dX12_drop_21 h hf (fun h => ?_)
      refine g_iconst (v := 1) hC dX12_drop_22 (by decide) ?_
      exact g_iret hC hR dX12_drop_23 rfl h
    · refine g_iconst (v := 0) hC dX12_drop_13 (by decide) ?_
      exact g_iret hC hR dX12_drop_14 rfl h
theorem xk_X12_drop (R : Room) (h1 : 2 + 1 ≤ R.frames) (h2 : 100 ≤ R.locals) : xw R yX12_drop w_X12_drop GT cX12_drop 2 (some .boolean) rm_X12_drop 1 := ⟨rfl, rfl, rfl, h1, h2, ⟨by decide, by decide⟩, by decide +kernel⟩
theorem c_X12_drop (E : ET) (hE : EO E) (t : Nat) (ht1 : kd t = 12) (ht2 : AL E t) (x1 : Int32) (σ : HS) (hn : f_X12_drop t x1 σ ≠ none) : CoI E yX12_drop w_X12_drop rm_X12_drop [.ref (E.2.2.1 t), .int x1] σ (f_X12_drop t x1 σ) := CoI.of (lv := [(0, .ref (E.2.2.1 t)), (1, .int x1)]) hE (plainFor_of_name (by decide)) rfl (Nat.le_of_ble_eq_true rfl) rfl (fun F hC hO hR => k_X12_drop_0 hC hO hR hn t ht1 ht2 x1 σ rfl)
def rm_X12_voices : Room := { frames := 1, cells := 0, slots := 0, locals := 34 }
set_option maxHeartbeats 4000000 in
set_option maxRecDepth 100000 in
theorem k_X12_voices_0 {E : ET} {F : FT} {fo : Option (Int32 × HS)} (hC : Cx E F 2 cX12_voices RX12 GT) (hO : Ro F rm_X12_voices) (hR : RI E F .boolean fo) (hf : fo ≠ none) (t : Nat) (ht1 : kd t = 12) (ht2 : AL E t) (x1 : Int32) (σ : HS) (h : f_X12_voices t x1 σ = fo) : G E F 0 [(0, .ref (E.2.2.1 t)), (1, .int x1)] [] σ := by
    refine g_aload_n hC dX12_voices_0 rfl 0 rfl ?_
    refine g_iconst (v := 0) hC dX12_voices_1 (by decide) ?_
    refine g_putI (k := 0) hC cr12 ui_12 tyX12_ok nmX12 ht1 ht2 (by decide) fl_X12_1 rfl rfl rfl rfl dX12_voices_2 ?_
    refine g_iload_n hC dX12_voices_5 rfl 1 rfl ?_
    refine g_iconst (v := 0) hC dX12_voices_6 (by decide) ?_
    refine g_sipush (v := 255) hC dX12_voices_7 (by decide) ?_
    obtain ⟨q1, hq1, h⟩ := bd_of h hf
    refine g_cSI (As := [.int x1, .int 0, .int 255]) hC hO (c_X12_within _ hC.2.2.2.2.2.2.1 x1 0 255 (sI σ t 0 0) (nn_of hq1)) gc_X12_213 (xk_X12_within _ (Nat.le_of_ble_eq_true rfl) (Nat.le_of_ble_eq_true rfl)) rfl (Nat.le_of_ble_eq_true rfl) dX12_voices_10 hq1 ?_
    refine g_if_ne (tgt := 18) hC dX12_voices_13 (by decide) h (fun c13 h => ?_) (fun c13 h => ?_)
    · refine g_aload_n hC dX12_voices_18 rfl 0 rfl ?_
      refine g_iload_n hC dX12_voices_19 rfl 1 rfl ?_
      refine g_putI (k := 23) hC cr12 ui_12 tyX12_ok nmX12 ht1 ht2 (by decide) fl_X12_207 rfl rfl rfl rfl dX12_voices_20 ?_
      refine g_iconst (v := 1) hC dX12_voices_23 (by decide) ?_
      exact g_iret hC hR dX12_voices_24 rfl h
    · refine g_iconst (v := 0) hC dX12_voices_16 (by decide) ?_
      exact g_iret hC hR dX12_voices_17 rfl h
theorem xk_X12_voices (R : Room) (h1 : 1 + 1 ≤ R.frames) (h2 : 67 ≤ R.locals) : xw R yX12_voices w_X12_voices GT cX12_voices 2 (some .boolean) rm_X12_voices 1 := ⟨rfl, rfl, rfl, h1, h2, ⟨by decide, by decide⟩, by decide +kernel⟩
theorem c_X12_voices (E : ET) (hE : EO E) (t : Nat) (ht1 : kd t = 12) (ht2 : AL E t) (x1 : Int32) (σ : HS) (hn : f_X12_voices t x1 σ ≠ none) : CoI E yX12_voices w_X12_voices rm_X12_voices [.ref (E.2.2.1 t), .int x1] σ (f_X12_voices t x1 σ) := CoI.of (lv := [(0, .ref (E.2.2.1 t)), (1, .int x1)]) hE (plainFor_of_name (by decide)) rfl (Nat.le_of_ble_eq_true rfl) rfl (fun F hC hO hR => k_X12_voices_0 hC hO hR hn t ht1 ht2 x1 σ rfl)
def rm_X12_uncapped : Room := { frames := 0, cells := 0, slots := 0, locals := 0 }
set_option maxHeartbeats 4000000 in
set_option maxRecDepth 100000 in
theorem k_X12_uncapped_35 {E : ET} {F : FT} {fo : Option (Int32 × HS)} (hC : Cx E F 3 cX12_uncapped RX12 GT) (hO : Ro F rm_X12_uncapped) (hR : RI E F .int fo) (hf : fo ≠ none) (s0 : Int32) (σ : HS) (h : f_X12_uncapped_35 s0 σ = fo) : G E F 35 [] [.int s0] σ := by
    exact g_iret hC hR dX12_uncapped_35 rfl h
set_option maxHeartbeats 4000000 in
set_option maxRecDepth 100000 in
theorem k_X12_uncapped_0 {E : ET} {F : FT} {fo : Option (Int32 × HS)} (hC : Cx E F 3 cX12_uncapped RX12 GT) (hO : Ro F rm_X12_uncapped) (hR : RI E F .int fo) (hf : fo ≠ none) (t : Nat) (ht1 : kd t = 12) (ht2 : AL E t) (x1 : Int32) (x2 : Int32) (σ : HS) (h : f_X12_uncapped t x1 x2 σ = fo) : G E F 0 [(0, .ref (E.2.2.1 t)), (1, .int x1), (2, .int x2)] [] σ := by
    refine g_aload_n hC dX12_uncapped_0 rfl 0 rfl ?_
    refine g_getR (cj := 16) (k := 10) hC cr12 ui_12 ht1 ht2 (by decide) fl_X12_69 rfl rfl dX12_uncapped_1 h hf (fun a1 ea1 ka1 na1 h => ?_)
    refine g_iload_n hC dX12_uncapped_4 rfl 2 rfl ?_
    refine g_zald hC ka1 na1 dX12_uncapped_5 h hf (fun h => ?_)
    refine g_if_eq (tgt := 25) hC dX12_uncapped_6 (by decide) h (fun c6 h => ?_) (fun c6 h => ?_)
    · refine g_aload_n hC dX12_uncapped_25 rfl 0 rfl ?_
      refine g_getR (cj := 14) (k := 22) hC cr12 ui_12 ht1 ht2 (by decide) fl_X12_103 rfl rfl dX12_uncapped_26 h hf (fun a2 ea2 ka2 na2 h => ?_)
      refine g_iconst (v := 4) hC dX12_uncapped_29 (by decide) ?_
      refine g_iload_n hC dX12_uncapped_30 rfl 1 rfl ?_
      refine g_imul hC dX12_uncapped_31 ?_
      refine g_iload_n hC dX12_uncapped_32 rfl 2 rfl ?_
      refine g_iadd hC dX12_uncapped_33 ?_
      refine g_iald hC ka2 na2 dX12_uncapped_34 h hf (fun h => ?_)
      exact g_sub [] rfl (k_X12_uncapped_35 hC hO hR hf (σ.1 a2 (((4 : Int32) * x1) + x2).toNatClampNeg) σ h)
    · refine g_bipush (v := 100) hC dX12_uncapped_9 (by decide) ?_
      refine g_aload_n hC dX12_uncapped_11 rfl 0 rfl ?_
      refine g_getR (cj := 14) (k := 22) hC cr12 ui_12 ht1 ht2 (by decide) fl_X12_103 rfl rfl dX12_uncapped_12 h hf (fun a3 ea3 ka3 na3 h => ?_)
      refine g_iconst (v := 4) hC dX12_uncapped_15 (by decide) ?_
      refine g_iload_n hC dX12_uncapped_16 rfl 1 rfl ?_
      refine g_imul hC dX12_uncapped_17 ?_
      refine g_iload_n hC dX12_uncapped_18 rfl 2 rfl ?_
      refine g_iadd hC dX12_uncapped_19 ?_
      refine g_iald hC ka3 na3 dX12_uncapped_20 h hf (fun h => ?_)
      refine g_isub hC dX12_uncapped_21 ?_
      refine g_goto (tgt := 35) hC dX12_uncapped_22 (by decide) ?_
      exact g_sub [] rfl (k_X12_uncapped_35 hC hO hR hf ((100 : Int32) - (σ.1 a3 (((4 : Int32) * x1) + x2).toNatClampNeg)) σ h)
theorem xk_X12_uncapped (R : Room) (h1 : 0 + 1 ≤ R.frames) (h2 : 34 ≤ R.locals) : xw R yX12_uncapped w_X12_uncapped GT cX12_uncapped 3 (some .int) rm_X12_uncapped 2 := ⟨rfl, rfl, rfl, h1, h2, ⟨by decide, by decide⟩, by decide +kernel⟩
theorem c_X12_uncapped (E : ET) (hE : EO E) (t : Nat) (ht1 : kd t = 12) (ht2 : AL E t) (x1 : Int32) (x2 : Int32) (σ : HS) (hn : f_X12_uncapped t x1 x2 σ ≠ none) : CoI E yX12_uncapped w_X12_uncapped rm_X12_uncapped [.ref (E.2.2.1 t), .int x1, .int x2] σ (f_X12_uncapped t x1 x2 σ) := CoI.of (lv := [(0, .ref (E.2.2.1 t)), (1, .int x1), (2, .int x2)]) hE (plainFor_of_name (by decide)) rfl (Nat.le_of_ble_eq_true rfl) rfl (fun F hC hO hR => k_X12_uncapped_0 hC hO hR hn t ht1 ht2 x1 x2 σ rfl)
def rm_X12_valueOf : Room := { frames := 1, cells := 0, slots := 0, locals := 34 }
theorem wc_X12_uncapped : Cond.code yX12_uncapped cX12_uncapped 3 (some .int) ∈ GT := gtr_27 _ (List.mem_of_getElem? (i := 4) rfl)
theorem gc_X12_220 : GoodIn GT (wsV RX12 220 RX12 yX12_uncapped w_X12_uncapped) := gi_V (gtr_27 _ (List.mem_of_getElem? (i := 1) rfl)) (gtr_27 _ (List.mem_of_getElem? (i := 2) rfl)) (gtr_27 _ (List.mem_of_getElem? (i := 3) rfl)) (gtr_1 _ (List.mem_of_getElem? (i := 5) rfl)) wc_X12_uncapped
set_option maxHeartbeats 4000000 in
set_option maxRecDepth 100000 in
theorem k_X12_valueOf_36 {E : ET} {F : FT} {fo : Option (Int32 × HS)} (hC : Cx E F 4 cX12_valueOf RX12 GT) (hO : Ro F rm_X12_valueOf) (hR : RI E F .int fo) (hf : fo ≠ none) (s0 : Int32) (σ : HS) (h : f_X12_valueOf_36 s0 σ = fo) : G E F 36 [] [.int s0] σ := by
    exact g_iret hC hR dX12_valueOf_36 rfl h
set_option maxHeartbeats 4000000 in
set_option maxRecDepth 100000 in
theorem k_X12_valueOf_35 {E : ET} {F : FT} {fo : Option (Int32 × HS)} (hC : Cx E F 4 cX12_valueOf RX12 GT) (hO : Ro F rm_X12_valueOf) (hR : RI E F .int fo) (hf : fo ≠ none) (x3 : Int32) (σ : HS) (h : f_X12_valueOf_35 x3 σ = fo) : G E F 35 [(3, .int x3)] [] σ := by
    refine g_iload_n hC dX12_valueOf_35 rfl 0 rfl ?_
    exact g_sub [] rfl (k_X12_valueOf_36 hC hO hR hf x3 σ h)
set_option maxHeartbeats 4000000 in
set_option maxRecDepth 100000 in
theorem k_X12_valueOf_0 {E : ET} {F : FT} {fo : Option (Int32 × HS)} (hC : Cx E F 4 cX12_valueOf RX12 GT) (hO : Ro F rm_X12_valueOf) (hR : RI E F .int fo) (hf : fo ≠ none) (t : Nat) (ht1 : kd t = 12) (ht2 : AL E t) (x1 : Int32) (x2 : Int32) (σ : HS) (h : f_X12_valueOf t x1 x2 σ = fo) : G E F 0 [(0, .ref (E.2.2.1 t)), (1, .int x1), (2, .int x2)] [] σ := by
    refine g_aload_n hC dX12_valueOf_0 rfl 0 rfl ?_
    refine g_iload_n hC dX12_valueOf_1 rfl 1 rfl ?_
    refine g_iload_n hC dX12_valueOf_2 rfl 2 rfl ?_
    obtain ⟨q1, hq1, h⟩ := bd_of h hf
    refine g_cVI (As := [.int x1, .int x2]) hC hO (c_X12_uncapped _ hC.2.2.2.2.2.2.1 t ht1 ht2 x1 x2 σ (nn_of hq1)) gc_X12_220 (xk_X12_uncapped _ (Nat.le_of_ble_eq_true rfl) (Nat.le_of_ble_eq_true rfl)) cr12 ht1 ht2 rfl (Nat.le_of_ble_eq_true rfl) dX12_valueOf_3 hq1 ?_
    refine g_istore_n (lv' := [(3, .int q1.1), (0, .ref (E.2.2.1 t)), (1, .int x1), (2, .int x2)]) hC dX12_valueOf_6 rfl (by decide) rfl ?_
    refine g_aload_n hC dX12_valueOf_7 rfl 1 rfl ?_
    refine g_getR (cj := 14) (k := 11) hC cr12 ui_12 ht1 ht2 (by decide) fl_X12_73 rfl rfl dX12_valueOf_8 h hf (fun a2 ea2 ka2 na2 h => ?_)
    refine g_iload_n hC dX12_valueOf_11 rfl 3 rfl ?_
    refine g_iald hC ka2 na2 dX12_valueOf_12 h hf (fun h => ?_)
    refine g_if_lt (tgt := 35) hC dX12_valueOf_13 (by decide) h (fun c13 h => ?_) (fun c13 h => ?_)
    · exact g_sub [0] rfl (k_X12_valueOf_35 hC hO hR hf q1.1 q1.2 h)
    · refine g_iload_n hC dX12_valueOf_16 rfl 0 rfl ?_
      refine g_aload_n hC dX12_valueOf_17 rfl 1 rfl ?_
      refine g_getR (cj := 14) (k := 11) hC cr12 ui_12 ht1 ht2 (by decide) fl_X12_73 rfl rfl dX12_valueOf_18 h hf (fun a3 ea3 ka3 na3 h => ?_)
      refine g_iload_n hC dX12_valueOf_21 rfl 3 rfl ?_
      refine g_iald hC ka3 na3 dX12_valueOf_22 h hf (fun h => ?_)
      refine g_icmp_le (tgt := 35) hC dX12_valueOf_23 (by decide) h (fun c23 h => ?_) (fun c23 h => ?_)
      · exact g_sub [0] rfl (k_X12_valueOf_35 hC hO hR hf q1.1 q1.2 h)
      · refine g_aload_n hC dX12_valueOf_26 rfl 1 rfl ?_
        refine g_getR (cj := 14) (k := 11) hC cr12 ui_12 ht1 ht2 (by decide) fl_X12_73 rfl rfl dX12_valueOf_27 h hf (fun a4 ea4 ka4 na4 h => ?_)
        refine g_iload_n hC dX12_valueOf_30 rfl 3 rfl ?_
        refine g_iald hC ka4 na4 dX12_valueOf_31 h hf (fun h => ?_)
        refine g_goto (tgt := 36) hC dX12_valueOf_32 (by decide) ?_
        exact g_sub [] rfl (k_X12_valueOf_36 hC hO hR hf (q1.2.1 a4 x2.toNatClampNeg) q1.2 h)
theorem xk_X12_valueOf (R : Room) (h1 : 1 + 1 ≤ R.frames) (h2 : 69 ≤ R.locals) : xw R yX12_valueOf w_X12_valueOf GT cX12_valueOf 4 (some .int) rm_X12_valueOf 2 := ⟨rfl, rfl, rfl, h1, h2, ⟨by decide, by decide⟩, by decide +kernel⟩
theorem c_X12_valueOf (E : ET) (hE : EO E) (t : Nat) (ht1 : kd t = 12) (ht2 : AL E t) (x1 : Int32) (x2 : Int32) (σ : HS) (hn : f_X12_valueOf t x1 x2 σ ≠ none) : CoI E yX12_valueOf w_X12_valueOf rm_X12_valueOf [.ref (E.2.2.1 t), .int x1, .int x2] σ (f_X12_valueOf t x1 x2 σ) := CoI.of (lv := [(0, .ref (E.2.2.1 t)), (1, .int x1), (2, .int x2)]) hE (plainFor_of_name (by decide)) rfl (Nat.le_of_ble_eq_true rfl) rfl (fun F hC hO hR => k_X12_valueOf_0 hC hO hR hn t ht1 ht2 x1 x2 σ rfl)
def rm_X12_isIn : Room := { frames := 2, cells := 0, slots := 0, locals := 67 }
set_option maxHeartbeats 4000000 in
set_option maxRecDepth 100000 in
theorem k_X12_isIn_56 {E : ET} {F : FT} {fo : Option (Int32 × HS)} (hC : Cx E F 4 cX12_isIn RX12 GT) (hO : Ro F rm_X12_isIn) (hR : RI E F .boolean fo) (hf : fo ≠ none) (x2 : Int32) (σ : HS) (h : f_X12_isIn_56 x2 σ = fo) : G E F 56 [(2, .int x2)] [] σ := by
    refine g_iload_n hC dX12_isIn_56 rfl 0 rfl ?_
    obtain ⟨hz, h⟩ := zr_of h hf
    exact g_iret hC hR dX12_isIn_57 hz h
set_option maxHeartbeats 4000000 in
set_option maxRecDepth 100000 in
theorem k_X12_isIn_49 {E : ET} {F : FT} {fo : Option (Int32 × HS)} (hC : Cx E F 4 cX12_isIn RX12 GT) (hO : Ro F rm_X12_isIn) (hR : RI E F .boolean fo) (hf : fo ≠ none) (t : Nat) (ht1 : kd t = 12) (ht2 : AL E t) (x1 : Int32) (x3 : Int32) (s0 : Int32) (r8 : Int32 → Int32 → HS → Option (Int32 × HS)) (h8 : ∀ (x2 : Int32) (x3 : Int32) (σ : HS), r8 x2 x3 σ = fo → G E F 8 [(0, .ref (E.2.2.1 t)), (1, .int x1), (2, .int x2), (3, .int x3)] [] σ) (σ : HS) (h : f_X12_isIn_49 r8 t x1 x3 s0 σ = fo) : G E F 49 [(0, .ref (E.2.2.1 t)), (1, .int x1), (3, .int x3)] [.int s0] σ := by
    refine g_istore_n (lv' := [(2, .int s0), (0, .ref (E.2.2.1 t)), (1, .int x1), (3, .int x3)]) hC dX12_isIn_49 rfl (by decide) rfl ?_
    refine g_iinc (v := x3 + 1) (lv' := [(3, .int (x3 + 1)), (2, .int s0), (0, .ref (E.2.2.1 t)), (1, .int x1)]) hC dX12_isIn_50 3 rfl rfl (by decide) rfl ?_
    refine g_goto (tgt := 8) hC dX12_isIn_53 (by decide) ?_
    exact g_sub [2, 3, 1, 0] rfl (h8 s0 (x3 + 1) σ h)
set_option maxHeartbeats 4000000 in
set_option maxRecDepth 100000 in
theorem k_X12_isIn_44 {E : ET} {F : FT} {fo : Option (Int32 × HS)} (hC : Cx E F 4 cX12_isIn RX12 GT) (hO : Ro F rm_X12_isIn) (hR : RI E F .boolean fo) (hf : fo ≠ none) (t : Nat) (ht1 : kd t = 12) (ht2 : AL E t) (x1 : Int32) (x3 : Int32) (r8 : Int32 → Int32 → HS → Option (Int32 × HS)) (h8 : ∀ (x2 : Int32) (x3 : Int32) (σ : HS), r8 x2 x3 σ = fo → G E F 8 [(0, .ref (E.2.2.1 t)), (1, .int x1), (2, .int x2), (3, .int x3)] [] σ) (σ : HS) (h : f_X12_isIn_44 r8 t x1 x3 σ = fo) : G E F 44 [(0, .ref (E.2.2.1 t)), (1, .int x1), (3, .int x3)] [] σ := by
    refine g_iconst (v := 1) hC dX12_isIn_44 (by decide) ?_
    refine g_goto (tgt := 49) hC dX12_isIn_45 (by decide) ?_
    exact g_sub [0, 1, 2] rfl (k_X12_isIn_49 hC hO hR hf t ht1 ht2 x1 x3 1 r8 h8 σ h)
set_option maxHeartbeats 4000000 in
set_option maxRecDepth 100000 in
theorem k_X12_isIn_8 {E : ET} {F : FT} {fo : Option (Int32 × HS)} (hC : Cx E F 4 cX12_isIn RX12 GT) (hO : Ro F rm_X12_isIn) (hR : RI E F .boolean fo) (hf : fo ≠ none) (t : Nat) (ht1 : kd t = 12) (ht2 : AL E t) (x1 : Int32) : ∀ (n : Nat) (x2 : Int32) (x3 : Int32) (σ : HS), f_X12_isIn_8 t x1 n x2 x3 σ = fo → G E F 8 [(0, .ref (E.2.2.1 t)), (1, .int x1), (2, .int x2), (3, .int x3)] [] σ := by
  intro n
  induction n with
  | zero =>
    intro x2 x3 σ h
    exact absurd (h.symm.trans rfl) hf
  | succ n ih =>
    intro x2 x3 σ h
    refine g_iload_n hC dX12_isIn_8 rfl 3 rfl ?_
    refine g_aload_n hC dX12_isIn_9 rfl 0 rfl ?_
    refine g_getI (k := 20) hC cr12 ui_12 ht1 ht2 (by decide) fl_X12_193 rfl rfl dX12_isIn_10 ?_
    refine g_icmp_ge (tgt := 56) hC dX12_isIn_13 (by decide) h (fun c13 h => ?_) (fun c13 h => ?_)
    · exact g_sub [2] rfl (k_X12_isIn_56 hC hO hR hf x2 σ h)
    · refine g_iload_n hC dX12_isIn_16 rfl 2 rfl ?_
      refine g_if_eq (tgt := 56) hC dX12_isIn_17 (by decide) h (fun c17 h => ?_) (fun c17 h => ?_)
      · exact g_sub [2] rfl (k_X12_isIn_56 hC hO hR hf x2 σ h)
      · refine g_aload_n hC dX12_isIn_20 rfl 0 rfl ?_
        refine g_getR (cj := 14) (k := 12) hC cr12 ui_12 ht1 ht2 (by decide) fl_X12_76 rfl rfl dX12_isIn_21 h hf (fun a1 ea1 ka1 na1 h => ?_)
        refine g_iload_n hC dX12_isIn_24 rfl 3 rfl ?_
        refine g_iald hC ka1 na1 dX12_isIn_25 h hf (fun h => ?_)
        refine g_if_lt (tgt := 44) hC dX12_isIn_26 (by decide) h (fun c26 h => ?_) (fun c26 h => ?_)
        · exact g_sub [0, 1, 3] rfl (k_X12_isIn_44 hC hO hR hf t ht1 ht2 x1 x3 (f_X12_isIn_8 t x1 n) ih σ h)
        · refine g_aload_n hC dX12_isIn_29 rfl 0 rfl ?_
          refine g_iload_n hC dX12_isIn_30 rfl 1 rfl ?_
          refine g_iload_n hC dX12_isIn_31 rfl 3 rfl ?_
          obtain ⟨q2, hq2, h⟩ := bd_of h hf
          refine g_cVI (As := [.int x1, .int x3]) hC hO (c_X12_uncapped _ hC.2.2.2.2.2.2.1 t ht1 ht2 x1 x3 σ (nn_of hq2)) gc_X12_220 (xk_X12_uncapped _ (Nat.le_of_ble_eq_true rfl) (Nat.le_of_ble_eq_true rfl)) cr12 ht1 ht2 rfl (Nat.le_of_ble_eq_true rfl) dX12_isIn_32 hq2 ?_
          refine g_aload_n hC dX12_isIn_35 rfl 0 rfl ?_
          refine g_getR (cj := 14) (k := 12) hC cr12 ui_12 ht1 ht2 (by decide) fl_X12_76 rfl rfl dX12_isIn_36 h hf (fun a3 ea3 ka3 na3 h => ?_)
          refine g_iload_n hC dX12_isIn_39 rfl 3 rfl ?_
          refine g_iald hC ka3 na3 dX12_isIn_40 h hf (fun h => ?_)
          refine g_icmp_lt (tgt := 48) hC dX12_isIn_41 (by decide) h (fun c41 h => ?_) (fun c41 h => ?_)
          · refine g_iconst (v := 0) hC dX12_isIn_48 (by decide) ?_
            exact g_sub [0, 1, 3] rfl (k_X12_isIn_49 hC hO hR hf t ht1 ht2 x1 x3 0 (f_X12_isIn_8 t x1 n) ih q2.2 h)
          · exact g_sub [0, 1, 3] rfl (k_X12_isIn_44 hC hO hR hf t ht1 ht2 x1 x3 (f_X12_isIn_8 t x1 n) ih q2.2 h)
set_option maxHeartbeats 4000000 in
set_option maxRecDepth 100000 in
theorem k_X12_isIn_0 {E : ET} {F : FT} {fo : Option (Int32 × HS)} (hC : Cx E F 4 cX12_isIn RX12 GT) (hO : Ro F rm_X12_isIn) (hR : RI E F .boolean fo) (hf : fo ≠ none) (t : Nat) (ht1 : kd t = 12) (ht2 : AL E t) (x1 : Int32) (σ : HS) (h : f_X12_isIn t x1 σ = fo) : G E F 0 [(0, .ref (E.2.2.1 t)), (1, .int x1)] [] σ := by
    refine g_aload_n hC dX12_isIn_0 rfl 0 rfl ?_
    refine g_iload_n hC dX12_isIn_1 rfl 1 rfl ?_
    obtain ⟨q1, hq1, h⟩ := bd_of h hf
    refine g_cVI (As := [.int x1]) hC hO (c_X12_isThing _ hC.2.2.2.2.2.2.1 t ht1 ht2 x1 σ (nn_of hq1)) gc_X12_217 (xk_X12_isThing _ (Nat.le_of_ble_eq_true rfl) (Nat.le_of_ble_eq_true rfl)) cr12 ht1 ht2 rfl (Nat.le_of_ble_eq_true rfl) dX12_isIn_2 hq1 ?_
    refine g_istore_n (lv' := [(2, .int q1.1), (0, .ref (E.2.2.1 t)), (1, .int x1)]) hC dX12_isIn_5 rfl (by decide) rfl ?_
    refine g_iconst (v := 0) hC dX12_isIn_6 (by decide) ?_
    refine g_istore_n (lv' := [(3, .int 0), (2, .int q1.1), (0, .ref (E.2.2.1 t)), (1, .int x1)]) hC dX12_isIn_7 rfl (by decide) rfl ?_
    exact g_sub [2, 3, 1, 0] rfl (k_X12_isIn_8 hC hO hR hf t ht1 ht2 x1 FU q1.1 0 q1.2 h)
theorem xk_X12_isIn (R : Room) (h1 : 2 + 1 ≤ R.frames) (h2 : 102 ≤ R.locals) : xw R yX12_isIn w_X12_isIn GT cX12_isIn 4 (some .boolean) rm_X12_isIn 1 := ⟨rfl, rfl, rfl, h1, h2, ⟨by decide, by decide⟩, by decide +kernel⟩
theorem c_X12_isIn (E : ET) (hE : EO E) (t : Nat) (ht1 : kd t = 12) (ht2 : AL E t) (x1 : Int32) (σ : HS) (hn : f_X12_isIn t x1 σ ≠ none) : CoI E yX12_isIn w_X12_isIn rm_X12_isIn [.ref (E.2.2.1 t), .int x1] σ (f_X12_isIn t x1 σ) := CoI.of (lv := [(0, .ref (E.2.2.1 t)), (1, .int x1)]) hE (plainFor_of_name (by decide)) rfl (Nat.le_of_ble_eq_true rfl) rfl (fun F hC hO hR => k_X12_isIn_0 hC hO hR hn t ht1 ht2 x1 σ rfl)
def rm_X12_inMany : Room := { frames := 3, cells := 0, slots := 0, locals := 102 }
theorem wc_X12_isIn : Cond.code yX12_isIn cX12_isIn 4 (some .boolean) ∈ GT := gtr_28 _ (List.mem_of_getElem? (i := 0) rfl)
theorem gc_X12_223 : GoodIn GT (wsV RX12 223 RX12 yX12_isIn w_X12_isIn) := gi_V (gtr_27 _ (List.mem_of_getElem? (i := 21) rfl)) (gtr_27 _ (List.mem_of_getElem? (i := 22) rfl)) (gtr_27 _ (List.mem_of_getElem? (i := 23) rfl)) (gtr_1 _ (List.mem_of_getElem? (i := 5) rfl)) wc_X12_isIn
set_option maxHeartbeats 4000000 in
set_option maxRecDepth 100000 in
theorem k_X12_inMany_24 {E : ET} {F : FT} {fo : Option (Int32 × HS)} (hC : Cx E F 3 cX12_inMany RX12 GT) (hO : Ro F rm_X12_inMany) (hR : RI E F .int fo) (hf : fo ≠ none) (t : Nat) (ht1 : kd t = 12) (ht2 : AL E t) (x2 : Int32) (s0 : Int32) (s1 : Int32) (r4 : Int32 → Int32 → HS → Option (Int32 × HS)) (h4 : ∀ (x1 : Int32) (x2 : Int32) (σ : HS), r4 x1 x2 σ = fo → G E F 4 [(0, .ref (E.2.2.1 t)), (1, .int x1), (2, .int x2)] [] σ) (σ : HS) (h : f_X12_inMany_24 r4 t x2 s0 s1 σ = fo) : G E F 24 [(0, .ref (E.2.2.1 t)), (2, .int x2)] [.int s0, .int s1] σ := by
    refine g_iadd hC dX12_inMany_24 ?_
    refine g_istore_n (lv' := [(1, .int (s1 + s0)), (0, .ref (E.2.2.1 t)), (2, .int x2)]) hC dX12_inMany_25 rfl (by decide) rfl ?_
    refine g_iinc (v := x2 + 1) (lv' := [(2, .int (x2 + 1)), (1, .int (s1 + s0)), (0, .ref (E.2.2.1 t))]) hC dX12_inMany_26 2 rfl rfl (by decide) rfl ?_
    refine g_goto (tgt := 4) hC dX12_inMany_29 (by decide) ?_
    exact g_sub [2, 1, 0] rfl (h4 (s1 + s0) (x2 + 1) σ h)
set_option maxHeartbeats 4000000 in
set_option maxRecDepth 100000 in
theorem k_X12_inMany_4 {E : ET} {F : FT} {fo : Option (Int32 × HS)} (hC : Cx E F 3 cX12_inMany RX12 GT) (hO : Ro F rm_X12_inMany) (hR : RI E F .int fo) (hf : fo ≠ none) (t : Nat) (ht1 : kd t = 12) (ht2 : AL E t) : ∀ (n : Nat) (x1 : Int32) (x2 : Int32) (σ : HS), f_X12_inMany_4 t n x1 x2 σ = fo → G E F 4 [(0, .ref (E.2.2.1 t)), (1, .int x1), (2, .int x2)] [] σ := by
  intro n
  induction n with
  | zero =>
    intro x1 x2 σ h
    exact absurd (h.symm.trans rfl) hf
  | succ n ih =>
    intro x1 x2 σ h
    refine g_iload_n hC dX12_inMany_4 rfl 2 rfl ?_
    refine g_bipush (v := 8) hC dX12_inMany_5 (by decide) ?_
    refine g_icmp_ge (tgt := 32) hC dX12_inMany_7 (by decide) h (fun c7 h => ?_) (fun c7 h => ?_)
    · refine g_iload_n hC dX12_inMany_32 rfl 1 rfl ?_
      exact g_iret hC hR dX12_inMany_33 rfl h
    · refine g_iload_n hC dX12_inMany_10 rfl 1 rfl ?_
      refine g_aload_n hC dX12_inMany_11 rfl 0 rfl ?_
      refine g_iload_n hC dX12_inMany_12 rfl 2 rfl ?_
      obtain ⟨q1, hq1, h⟩ := bd_of h hf
      refine g_cVI (As := [.int x2]) hC hO (c_X12_isIn _ hC.2.2.2.2.2.2.1 t ht1 ht2 x2 σ (nn_of hq1)) gc_X12_223 (xk_X12_isIn _ (Nat.le_of_ble_eq_true rfl) (Nat.le_of_ble_eq_true rfl)) cr12 ht1 ht2 rfl (Nat.le_of_ble_eq_true rfl) dX12_inMany_13 hq1 ?_
      refine g_if_eq (tgt := 23) hC dX12_inMany_16 (by decide) h (fun c16 h => ?_) (fun c16 h => ?_)
      · refine g_iconst (v := 0) hC dX12_inMany_23 (by decide) ?_
        exact g_sub [0, 2] rfl (k_X12_inMany_24 hC hO hR hf t ht1 ht2 x2 0 x1 (f_X12_inMany_4 t n) ih q1.2 h)
      · refine g_iconst (v := 1) hC dX12_inMany_19 (by decide) ?_
        refine g_goto (tgt := 24) hC dX12_inMany_20 (by decide) ?_
        exact g_sub [0, 2] rfl (k_X12_inMany_24 hC hO hR hf t ht1 ht2 x2 1 x1 (f_X12_inMany_4 t n) ih q1.2 h)
set_option maxHeartbeats 4000000 in
set_option maxRecDepth 100000 in
theorem k_X12_inMany_0 {E : ET} {F : FT} {fo : Option (Int32 × HS)} (hC : Cx E F 3 cX12_inMany RX12 GT) (hO : Ro F rm_X12_inMany) (hR : RI E F .int fo) (hf : fo ≠ none) (t : Nat) (ht1 : kd t = 12) (ht2 : AL E t) (σ : HS) (h : f_X12_inMany t σ = fo) : G E F 0 [(0, .ref (E.2.2.1 t))] [] σ := by
    refine g_iconst (v := 0) hC dX12_inMany_0 (by decide) ?_
    refine g_istore_n (lv' := [(1, .int 0), (0, .ref (E.2.2.1 t))]) hC dX12_inMany_1 rfl (by decide) rfl ?_
    refine g_iconst (v := 0) hC dX12_inMany_2 (by decide) ?_
    refine g_istore_n (lv' := [(2, .int 0), (1, .int 0), (0, .ref (E.2.2.1 t))]) hC dX12_inMany_3 rfl (by decide) rfl ?_
    exact g_sub [2, 1, 0] rfl (k_X12_inMany_4 hC hO hR hf t ht1 ht2 FU 0 0 σ h)
theorem xk_X12_inMany (R : Room) (h1 : 3 + 1 ≤ R.frames) (h2 : 136 ≤ R.locals) : xw R yX12_inMany w_X12_inMany GT cX12_inMany 3 (some .int) rm_X12_inMany 0 := ⟨rfl, rfl, rfl, h1, h2, ⟨by decide, by decide⟩, by decide +kernel⟩
theorem c_X12_inMany (E : ET) (hE : EO E) (t : Nat) (ht1 : kd t = 12) (ht2 : AL E t) (σ : HS) (hn : f_X12_inMany t σ ≠ none) : CoI E yX12_inMany w_X12_inMany rm_X12_inMany [.ref (E.2.2.1 t)] σ (f_X12_inMany t σ) := CoI.of (lv := [(0, .ref (E.2.2.1 t))]) hE (plainFor_of_name (by decide)) rfl (Nat.le_of_ble_eq_true rfl) rfl (fun F hC hO hR => k_X12_inMany_0 hC hO hR hn t ht1 ht2 σ rfl)
def rm_X12_value : Room := { frames := 2, cells := 0, slots := 0, locals := 69 }
theorem wc_X12_valueOf : Cond.code yX12_valueOf cX12_valueOf 4 (some .int) ∈ GT := gtr_27 _ (List.mem_of_getElem? (i := 0) rfl)
theorem gc_X12_226 : GoodIn GT (wsV RX12 226 RX12 yX12_valueOf w_X12_valueOf) := gi_V (gtr_26 _ (List.mem_of_getElem? (i := 21) rfl)) (gtr_26 _ (List.mem_of_getElem? (i := 22) rfl)) (gtr_26 _ (List.mem_of_getElem? (i := 23) rfl)) (gtr_1 _ (List.mem_of_getElem? (i := 5) rfl)) wc_X12_valueOf
set_option maxHeartbeats 4000000 in
set_option maxRecDepth 100000 in
theorem k_X12_value_48 {E : ET} {F : FT} {fo : Option (Int32 × HS)} (hC : Cx E F 3 cX12_value RX12 GT) (hO : Ro F rm_X12_value) (hR : RI E F .int fo) (hf : fo ≠ none) (s0 : Int32) (σ : HS) (h : f_X12_value_48 s0 σ = fo) : G E F 48 [] [.int s0] σ := by
    exact g_iret hC hR dX12_value_48 rfl h
set_option maxHeartbeats 4000000 in
set_option maxRecDepth 100000 in
theorem k_X12_value_28 {E : ET} {F : FT} {fo : Option (Int32 × HS)} (hC : Cx E F 3 cX12_value RX12 GT) (hO : Ro F rm_X12_value) (hR : RI E F .int fo) (hf : fo ≠ none) (t : Nat) (ht1 : kd t = 12) (ht2 : AL E t) (x1 : Int32) (x2 : Int32) (s0 : Int32) (s1 : Nat) (hs1a : kd s1 = 12) (hs1b : AL E s1) (σ : HS) (h : f_X12_value_28 t x1 x2 s0 s1 σ = fo) : G E F 28 [(0, .ref (E.2.2.1 t)), (1, .int x1), (2, .int x2)] [.int s0, .ref (E.2.2.1 s1)] σ := by
    refine g_putI (k := 0) hC cr12 ui_12 tyX12_ok nmX12 hs1a hs1b (by decide) fl_X12_1 rfl rfl rfl rfl dX12_value_28 ?_
    refine g_aload_n hC dX12_value_31 rfl 0 rfl ?_
    refine g_getI (k := 0) hC cr12 ui_12 ht1 ht2 (by decide) fl_X12_1 rfl rfl dX12_value_32 ?_
    refine g_if_le (tgt := 42) hC dX12_value_35 (by decide) h (fun c35 h => ?_) (fun c35 h => ?_)
    · refine g_aload_n hC dX12_value_42 rfl 0 rfl ?_
      refine g_iload_n hC dX12_value_43 rfl 1 rfl ?_
      refine g_iload_n hC dX12_value_44 rfl 2 rfl ?_
      obtain ⟨q1, hq1, h⟩ := bd_of h hf
      refine g_cVI (As := [.int x1, .int x2]) hC hO (c_X12_valueOf _ hC.2.2.2.2.2.2.1 t ht1 ht2 x1 x2 (sI σ s1 0 s0) (nn_of hq1)) gc_X12_226 (xk_X12_valueOf _ (Nat.le_of_ble_eq_true rfl) (Nat.le_of_ble_eq_true rfl)) cr12 ht1 ht2 rfl (Nat.le_of_ble_eq_true rfl) dX12_value_45 hq1 ?_
      exact g_sub [] rfl (k_X12_value_48 hC hO hR hf q1.1 q1.2 h)
    · refine g_iconst (v := 0) hC dX12_value_38 (by decide) ?_
      refine g_goto (tgt := 48) hC dX12_value_39 (by decide) ?_
      exact g_sub [] rfl (k_X12_value_48 hC hO hR hf 0 (sI σ s1 0 s0) h)
set_option maxHeartbeats 4000000 in
set_option maxRecDepth 100000 in
theorem k_X12_value_27 {E : ET} {F : FT} {fo : Option (Int32 × HS)} (hC : Cx E F 3 cX12_value RX12 GT) (hO : Ro F rm_X12_value) (hR : RI E F .int fo) (hf : fo ≠ none) (t : Nat) (ht1 : kd t = 12) (ht2 : AL E t) (x1 : Int32) (x2 : Int32) (s0 : Nat) (hs0a : kd s0 = 12) (hs0b : AL E s0) (σ : HS) (h : f_X12_value_27 t x1 x2 s0 σ = fo) : G E F 27 [(0, .ref (E.2.2.1 t)), (1, .int x1), (2, .int x2)] [.ref (E.2.2.1 s0)] σ := by
    refine g_iconst (v := 1) hC dX12_value_27 (by decide) ?_
    exact g_sub [0, 1, 2] rfl (k_X12_value_28 hC hO hR hf t ht1 ht2 x1 x2 1 s0 hs0a hs0b σ h)
set_option maxHeartbeats 4000000 in
set_option maxRecDepth 100000 in
theorem k_X12_value_0 {E : ET} {F : FT} {fo : Option (Int32 × HS)} (hC : Cx E F 3 cX12_value RX12 GT) (hO : Ro F rm_X12_value) (hR : RI E F .int fo) (hf : fo ≠ none) (t : Nat) (ht1 : kd t = 12) (ht2 : AL E t) (x1 : Int32) (x2 : Int32) (σ : HS) (h : f_X12_value t x1 x2 σ = fo) : G E F 0 [(0, .ref (E.2.2.1 t)), (1, .int x1), (2, .int x2)] [] σ := by
    refine g_aload_n hC dX12_value_0 rfl 0 rfl ?_
    refine g_aload_n hC dX12_value_1 rfl 0 rfl ?_
    refine g_iload_n hC dX12_value_2 rfl 1 rfl ?_
    obtain ⟨q1, hq1, h⟩ := bd_of h hf
    refine g_cVI (As := [.int x1]) hC hO (c_X12_isThing _ hC.2.2.2.2.2.2.1 t ht1 ht2 x1 σ (nn_of hq1)) gc_X12_217 (xk_X12_isThing _ (Nat.le_of_ble_eq_true rfl) (Nat.le_of_ble_eq_true rfl)) cr12 ht1 ht2 rfl (Nat.le_of_ble_eq_true rfl) dX12_value_3 hq1 ?_
    refine g_if_eq (tgt := 27) hC dX12_value_6 (by decide) h (fun c6 h => ?_) (fun c6 h => ?_)
    · exact g_sub [0, 1, 2] rfl (k_X12_value_27 hC hO hR hf t ht1 ht2 x1 x2 t ht1 ht2 q1.2 h)
    · refine g_iload_n hC dX12_value_9 rfl 2 rfl ?_
      refine g_iconst (v := 0) hC dX12_value_10 (by decide) ?_
      refine g_aload_n hC dX12_value_11 rfl 0 rfl ?_
      refine g_getI (k := 20) hC cr12 ui_12 ht1 ht2 (by decide) fl_X12_193 rfl rfl dX12_value_12 ?_
      refine g_iconst (v := 1) hC dX12_value_15 (by decide) ?_
      refine g_isub hC dX12_value_16 ?_
      obtain ⟨q2, hq2, h⟩ := bd_of h hf
      refine g_cSI (As := [.int x2, .int 0, .int ((q1.2.1 t 20) - 1)]) hC hO (c_X12_within _ hC.2.2.2.2.2.2.1 x2 0 ((q1.2.1 t 20) - 1) q1.2 (nn_of hq2)) gc_X12_213 (xk_X12_within _ (Nat.le_of_ble_eq_true rfl) (Nat.le_of_ble_eq_true rfl)) rfl (Nat.le_of_ble_eq_true rfl) dX12_value_17 hq2 ?_
      refine g_if_eq (tgt := 27) hC dX12_value_20 (by decide) h (fun c20 h => ?_) (fun c20 h => ?_)
      · exact g_sub [0, 1, 2] rfl (k_X12_value_27 hC hO hR hf t ht1 ht2 x1 x2 t ht1 ht2 q2.2 h)
      · refine g_iconst (v := 0) hC dX12_value_23 (by decide) ?_
        refine g_goto (tgt := 28) hC dX12_value_24 (by decide) ?_
        exact g_sub [0, 1, 2] rfl (k_X12_value_28 hC hO hR hf t ht1 ht2 x1 x2 0 t ht1 ht2 q2.2 h)
theorem xk_X12_value (R : Room) (h1 : 2 + 1 ≤ R.frames) (h2 : 103 ≤ R.locals) : xw R yX12_value w_X12_value GT cX12_value 3 (some .int) rm_X12_value 2 := ⟨rfl, rfl, rfl, h1, h2, ⟨by decide, by decide⟩, by decide +kernel⟩
theorem c_X12_value (E : ET) (hE : EO E) (t : Nat) (ht1 : kd t = 12) (ht2 : AL E t) (x1 : Int32) (x2 : Int32) (σ : HS) (hn : f_X12_value t x1 x2 σ ≠ none) : CoI E yX12_value w_X12_value rm_X12_value [.ref (E.2.2.1 t), .int x1, .int x2] σ (f_X12_value t x1 x2 σ) := CoI.of (lv := [(0, .ref (E.2.2.1 t)), (1, .int x1), (2, .int x2)]) hE (plainFor_of_name (by decide)) rfl (Nat.le_of_ble_eq_true rfl) rfl (fun F hC hO hR => k_X12_value_0 hC hO hR hn t ht1 ht2 x1 x2 σ rfl)
def rm_X12_standing : Room := { frames := 3, cells := 0, slots := 0, locals := 102 }
set_option maxHeartbeats 4000000 in
set_option maxRecDepth 100000 in
theorem k_X12_standing_30 {E : ET} {F : FT} {fo : Option (Int32 × HS)} (hC : Cx E F 2 cX12_standing RX12 GT) (hO : Ro F rm_X12_standing) (hR : RI E F .int fo) (hf : fo ≠ none) (s0 : Int32) (σ : HS) (h : f_X12_standing_30 s0 σ = fo) : G E F 30 [] [.int s0] σ := by
    exact g_iret hC hR dX12_standing_30 rfl h
set_option maxHeartbeats 4000000 in
set_option maxRecDepth 100000 in
theorem k_X12_standing_0 {E : ET} {F : FT} {fo : Option (Int32 × HS)} (hC : Cx E F 2 cX12_standing RX12 GT) (hO : Ro F rm_X12_standing) (hR : RI E F .int fo) (hf : fo ≠ none) (t : Nat) (ht1 : kd t = 12) (ht2 : AL E t) (x1 : Int32) (σ : HS) (h : f_X12_standing t x1 σ = fo) : G E F 0 [(0, .ref (E.2.2.1 t)), (1, .int x1)] [] σ := by
    refine g_aload_n hC dX12_standing_0 rfl 0 rfl ?_
    refine g_iconst (v := 0) hC dX12_standing_1 (by decide) ?_
    refine g_putI (k := 0) hC cr12 ui_12 tyX12_ok nmX12 ht1 ht2 (by decide) fl_X12_1 rfl rfl rfl rfl dX12_standing_2 ?_
    refine g_aload_n hC dX12_standing_5 rfl 0 rfl ?_
    refine g_iload_n hC dX12_standing_6 rfl 1 rfl ?_
    obtain ⟨q1, hq1, h⟩ := bd_of h hf
    refine g_cVI (As := [.int x1]) hC hO (c_X12_isThing _ hC.2.2.2.2.2.2.1 t ht1 ht2 x1 (sI σ t 0 0) (nn_of hq1)) gc_X12_217 (xk_X12_isThing _ (Nat.le_of_ble_eq_true rfl) (Nat.le_of_ble_eq_true rfl)) cr12 ht1 ht2 rfl (Nat.le_of_ble_eq_true rfl) dX12_standing_7 hq1 ?_
    refine g_if_ne (tgt := 17) hC dX12_standing_10 (by decide) h (fun c10 h => ?_) (fun c10 h => ?_)
    · refine g_aload_n hC dX12_standing_17 rfl 0 rfl ?_
      refine g_iload_n hC dX12_standing_18 rfl 1 rfl ?_
      obtain ⟨q2, hq2, h⟩ := bd_of h hf
      refine g_cVI (As := [.int x1]) hC hO (c_X12_isIn _ hC.2.2.2.2.2.2.1 t ht1 ht2 x1 q1.2 (nn_of hq2)) gc_X12_223 (xk_X12_isIn _ (Nat.le_of_ble_eq_true rfl) (Nat.le_of_ble_eq_true rfl)) cr12 ht1 ht2 rfl (Nat.le_of_ble_eq_true rfl) dX12_standing_19 hq2 ?_
      refine g_if_eq (tgt := 29) hC dX12_standing_22 (by decide) h (fun c22 h => ?_) (fun c22 h => ?_)
      · refine g_iconst (v := 0) hC dX12_standing_29 (by decide) ?_
        exact g_sub [] rfl (k_X12_standing_30 hC hO hR hf 0 q2.2 h)
      · refine g_iconst (v := 1) hC dX12_standing_25 (by decide) ?_
        refine g_goto (tgt := 30) hC dX12_standing_26 (by decide) ?_
        exact g_sub [] rfl (k_X12_standing_30 hC hO hR hf 1 q2.2 h)
    · refine g_iconst (v := (-1)) hC dX12_standing_13 (by decide) ?_
      refine g_goto (tgt := 30) hC dX12_standing_14 (by decide) ?_
      exact g_sub [] rfl (k_X12_standing_30 hC hO hR hf (-1) q1.2 h)
theorem xk_X12_standing (R : Room) (h1 : 3 + 1 ≤ R.frames) (h2 : 135 ≤ R.locals) : xw R yX12_standing w_X12_standing GT cX12_standing 2 (some .int) rm_X12_standing 1 := ⟨rfl, rfl, rfl, h1, h2, ⟨by decide, by decide⟩, by decide +kernel⟩
theorem c_X12_standing (E : ET) (hE : EO E) (t : Nat) (ht1 : kd t = 12) (ht2 : AL E t) (x1 : Int32) (σ : HS) (hn : f_X12_standing t x1 σ ≠ none) : CoI E yX12_standing w_X12_standing rm_X12_standing [.ref (E.2.2.1 t), .int x1] σ (f_X12_standing t x1 σ) := CoI.of (lv := [(0, .ref (E.2.2.1 t)), (1, .int x1)]) hE (plainFor_of_name (by decide)) rfl (Nat.le_of_ble_eq_true rfl) rfl (fun F hC hO hR => k_X12_standing_0 hC hO hR hn t ht1 ht2 x1 σ rfl)
