def rm_X12_thrown : Room := { frames := 0, cells := 0, slots := 0, locals := 0 }
theorem kf_X12_thrown_1 : Cond.fieldLink yX12_thrown.cls 1 "EveryMeasureModel" (TX12 0).2.1 (TX12 0).2.2.1 ∈ wsX12_thrown := by decide +kernel
theorem hi_X12_thrown_12 : ∀ w ∈ u_ws RX12 TX12 39, w ∈ wsX12_thrown := by decide +kernel
set_option maxHeartbeats 4000000 in
set_option maxRecDepth 100000 in
theorem k_X12_thrown_0 {E : ET} {F : FT} {fo : Option (Int32 × HS)} (hC : Cx E F 1 cX12_thrown yX12_thrown.cls wsX12_thrown) (hO : Ro F rm_X12_thrown) (hR : RI E F .int fo) (hf : fo ≠ none) (t : Nat) (ht1 : kd t = 12) (ht2 : t < NN) (σ : HS) (h : f_X12_thrown t σ = fo) : G E F 0 [(0, .ref (E.2.2.1 t))] [] σ := by
    refine g_aload_n hC dX12_thrown_0 rfl 0 rfl ?_
    refine g_getI (k := 0) hC cr12 hi_X12_thrown_12 ht1 ht2 (by decide) kf_X12_thrown_1 rfl rfl dX12_thrown_1 ?_
    exact g_iret hC hR dX12_thrown_4 rfl h
theorem xk_X12_thrown (R : Room) (h1 : 0 + 1 ≤ R.frames) (h2 : 32 ≤ R.locals) : xw R yX12_thrown wsX12_thrown (List.tail wsX12_thrown) cX12_thrown 1 (some .int) rm_X12_thrown 0 := ⟨rfl, rfl, rfl, h1, h2, ⟨by decide, by decide⟩, by decide +kernel⟩
theorem c_X12_thrown (E : ET) (hE : EO E) (t : Nat) (ht1 : kd t = 12) (ht2 : t < NN) (σ : HS) (hn : f_X12_thrown t σ ≠ none) : CoI E yX12_thrown wsX12_thrown rm_X12_thrown [.ref (E.2.2.1 t)] σ (f_X12_thrown t σ) := CoI.of (lv := [(0, .ref (E.2.2.1 t))]) hE (by decide) rfl (Nat.le_of_ble_eq_true rfl) rfl (fun F hC hO hR => k_X12_thrown_0 hC hO hR hn t ht1 ht2 σ rfl)
def rm_X12_lay : Room := { frames := 0, cells := 0, slots := 0, locals := 0 }
theorem kf_X12_lay_11 : Cond.fieldLink yX12_lay.cls 11 "EveryMeasureModel" (TX12 2).2.1 (TX12 2).2.2.1 ∈ wsX12_lay := by decide +kernel
theorem hi_X12_lay_12 : ∀ w ∈ u_ws RX12 TX12 39, w ∈ wsX12_lay := by decide +kernel
theorem kf_X12_lay_14 : Cond.fieldLink yX12_lay.cls 14 "EveryMeasureModel" (TX12 1).2.1 (TX12 1).2.2.1 ∈ wsX12_lay := by decide +kernel
set_option maxHeartbeats 4000000 in
set_option maxRecDepth 100000 in
theorem k_X12_lay_69 {E : ET} {F : FT} {fo : Option HS} (hC : Cx E F 5 cX12_lay yX12_lay.cls wsX12_lay) (hO : Ro F rm_X12_lay) (hR : RV E F fo) (hf : fo ≠ none) (t : Nat) (ht1 : kd t = 12) (ht2 : t < NN) (x1 : Int64) (x3 : Int32) (r3 : Int32 → HS → Option HS) (h3 : ∀ (x3 : Int32) (σ : HS), r3 x3 σ = fo → G E F 3 [(0, .ref (E.2.2.1 t)), (1, .long x1), (3, .int x3)] [] σ) (σ : HS) (h : f_X12_lay_69 r3 t x1 x3 σ = fo) : G E F 69 [(0, .ref (E.2.2.1 t)), (1, .long x1), (3, .int x3)] [] σ := by
    refine g_iinc (v := x3 + (-8)) (lv' := [(3, .int (x3 + (-8))), (0, .ref (E.2.2.1 t)), (1, .long x1)]) hC dX12_lay_69 2 rfl rfl (by decide) rfl ?_
    refine g_goto (tgt := 3) hC dX12_lay_72 (by decide) ?_
    exact g_sub [1, 2, 0] rfl (h3 (x3 + (-8)) σ h)
set_option maxHeartbeats 4000000 in
set_option maxRecDepth 100000 in
theorem k_X12_lay_38 {E : ET} {F : FT} {fo : Option HS} (hC : Cx E F 5 cX12_lay yX12_lay.cls wsX12_lay) (hO : Ro F rm_X12_lay) (hR : RV E F fo) (hf : fo ≠ none) (t : Nat) (ht1 : kd t = 12) (ht2 : t < NN) (x1 : Int64) (x3 : Int32) (x4 : Int32) (r3 : Int32 → HS → Option HS) (h3 : ∀ (x3 : Int32) (σ : HS), r3 x3 σ = fo → G E F 3 [(0, .ref (E.2.2.1 t)), (1, .long x1), (3, .int x3)] [] σ) (σ : HS) (h : f_X12_lay_38 r3 t x1 x3 x4 σ = fo) : G E F 38 [(0, .ref (E.2.2.1 t)), (1, .long x1), (3, .int x3), (4, .int x4)] [] σ := by
    refine g_aload_n hC dX12_lay_38 rfl 0 rfl ?_
    refine g_getI (k := 2) hC cr12 hi_X12_lay_12 ht1 ht2 (by decide) kf_X12_lay_11 rfl rfl dX12_lay_39 ?_
    refine g_sipush (v := 1000) hC dX12_lay_42 (by decide) ?_
    refine g_icmp_ge (tgt := 69) hC dX12_lay_45 (by decide) h (fun c45 h => ?_) (fun c45 h => ?_)
    · exact g_sub [0, 1, 2] rfl (k_X12_lay_69 hC hO hR hf t ht1 ht2 x1 x3 r3 h3 σ h)
    · refine g_aload_n hC dX12_lay_48 rfl 0 rfl ?_
      refine g_getR (cj := 14) (k := 1) hC cr12 hi_X12_lay_12 ht1 ht2 (by decide) kf_X12_lay_14 rfl rfl dX12_lay_49 h hf (fun a1 ea1 ka1 na1 h => ?_)
      refine g_aload_n hC dX12_lay_52 rfl 0 rfl ?_
      refine g_getI (k := 2) hC cr12 hi_X12_lay_12 ht1 ht2 (by decide) kf_X12_lay_11 rfl rfl dX12_lay_53 ?_
      refine g_iload hC dX12_lay_56 3 rfl ?_
      refine g_iast hC ka1 na1 dX12_lay_58 h hf (fun h => ?_)
      refine g_aload_n hC dX12_lay_59 rfl 0 rfl ?_
      refine g_dup hC dX12_lay_60 rfl ?_
      refine g_getI (k := 2) hC cr12 hi_X12_lay_12 ht1 ht2 (by decide) kf_X12_lay_11 rfl rfl dX12_lay_61 ?_
      refine g_iconst (v := 1) hC dX12_lay_64 (by decide) ?_
      refine g_iadd hC dX12_lay_65 ?_
      refine g_putI (k := 2) hC cr12 hi_X12_lay_12 tyX12_ok nmX12 ht1 ht2 (by decide) kf_X12_lay_11 rfl rfl rfl rfl dX12_lay_66 ?_
      exact g_sub [0, 1, 2] rfl (k_X12_lay_69 hC hO hR hf t ht1 ht2 x1 x3 r3 h3 (sI (sI σ a1 (σ.1 t 2).toNatClampNeg x4) t 2 (((sI σ a1 (σ.1 t 2).toNatClampNeg x4).1 t 2) + 1)) h)
set_option maxHeartbeats 4000000 in
set_option maxRecDepth 100000 in
theorem k_X12_lay_3 {E : ET} {F : FT} {fo : Option HS} (hC : Cx E F 5 cX12_lay yX12_lay.cls wsX12_lay) (hO : Ro F rm_X12_lay) (hR : RV E F fo) (hf : fo ≠ none) (t : Nat) (ht1 : kd t = 12) (ht2 : t < NN) (x1 : Int64) : ∀ (n : Nat) (x3 : Int32) (σ : HS), f_X12_lay_3 t x1 n x3 σ = fo → G E F 3 [(0, .ref (E.2.2.1 t)), (1, .long x1), (3, .int x3)] [] σ := by
  intro n
  induction n with
  | zero =>
    intro x3 σ h
    exact absurd (h.symm.trans rfl) hf
  | succ n ih =>
    intro x3 σ h
    refine g_iload_n hC dX12_lay_3 rfl 2 rfl ?_
    refine g_if_lt (tgt := 75) hC dX12_lay_4 (by decide) h (fun c4 h => ?_) (fun c4 h => ?_)
    · exact g_vret hC hR dX12_lay_75 h
    · refine g_lload_n hC dX12_lay_7 rfl 1 rfl ?_
      refine g_iload_n hC dX12_lay_8 rfl 2 rfl ?_
      refine g_lshr hC dX12_lay_9 ?_
      refine g_l2i hC dX12_lay_10 ?_
      refine g_sipush (v := 255) hC dX12_lay_11 (by decide) ?_
      refine g_iand hC dX12_lay_14 ?_
      refine g_istore (lv' := [(4, .int (((x1 >>> (x3.toInt64 &&& 63)).toInt32) &&& 255)), (0, .ref (E.2.2.1 t)), (1, .long x1), (3, .int x3)]) hC dX12_lay_15 (by decide) rfl ?_
      refine g_iload hC dX12_lay_17 0 rfl ?_
      refine g_bipush (v := 10) hC dX12_lay_19 (by decide) ?_
      refine g_icmp_eq (tgt := 38) hC dX12_lay_21 (by decide) h (fun c21 h => ?_) (fun c21 h => ?_)
      · exact g_sub [1, 2, 3, 0] rfl (k_X12_lay_38 hC hO hR hf t ht1 ht2 x1 x3 (((x1 >>> (x3.toInt64 &&& 63)).toInt32) &&& 255) (f_X12_lay_3 t x1 n) ih σ h)
      · refine g_iload hC dX12_lay_24 0 rfl ?_
        refine g_bipush (v := 32) hC dX12_lay_26 (by decide) ?_
        refine g_icmp_lt (tgt := 69) hC dX12_lay_28 (by decide) h (fun c28 h => ?_) (fun c28 h => ?_)
        · exact g_sub [1, 2, 3] rfl (k_X12_lay_69 hC hO hR hf t ht1 ht2 x1 x3 (f_X12_lay_3 t x1 n) ih σ h)
        · refine g_iload hC dX12_lay_31 0 rfl ?_
          refine g_bipush (v := 126) hC dX12_lay_33 (by decide) ?_
          refine g_icmp_gt (tgt := 69) hC dX12_lay_35 (by decide) h (fun c35 h => ?_) (fun c35 h => ?_)
          · exact g_sub [1, 2, 3] rfl (k_X12_lay_69 hC hO hR hf t ht1 ht2 x1 x3 (f_X12_lay_3 t x1 n) ih σ h)
          · exact g_sub [1, 2, 3, 0] rfl (k_X12_lay_38 hC hO hR hf t ht1 ht2 x1 x3 (((x1 >>> (x3.toInt64 &&& 63)).toInt32) &&& 255) (f_X12_lay_3 t x1 n) ih σ h)
set_option maxHeartbeats 4000000 in
set_option maxRecDepth 100000 in
theorem k_X12_lay_0 {E : ET} {F : FT} {fo : Option HS} (hC : Cx E F 5 cX12_lay yX12_lay.cls wsX12_lay) (hO : Ro F rm_X12_lay) (hR : RV E F fo) (hf : fo ≠ none) (t : Nat) (ht1 : kd t = 12) (ht2 : t < NN) (x1 : Int64) (σ : HS) (h : f_X12_lay t x1 σ = fo) : G E F 0 [(0, .ref (E.2.2.1 t)), (1, .long x1)] [] σ := by
    refine g_bipush (v := 56) hC dX12_lay_0 (by decide) ?_
    refine g_istore_n (lv' := [(3, .int 56), (0, .ref (E.2.2.1 t)), (1, .long x1)]) hC dX12_lay_2 rfl (by decide) rfl ?_
    exact g_sub [1, 2, 0] rfl (k_X12_lay_3 hC hO hR hf t ht1 ht2 x1 FU 56 σ h)
theorem xk_X12_lay (R : Room) (h1 : 0 + 1 ≤ R.frames) (h2 : 36 ≤ R.locals) : xw R yX12_lay wsX12_lay (List.tail wsX12_lay) cX12_lay 5 none rm_X12_lay 1 := ⟨rfl, rfl, rfl, h1, h2, ⟨by decide, by decide⟩, by decide +kernel⟩
theorem c_X12_lay (E : ET) (hE : EO E) (t : Nat) (ht1 : kd t = 12) (ht2 : t < NN) (x1 : Int64) (σ : HS) (hn : f_X12_lay t x1 σ ≠ none) : CoV E yX12_lay wsX12_lay rm_X12_lay [.ref (E.2.2.1 t), .long x1] σ (f_X12_lay t x1 σ) := CoV.of (lv := [(0, .ref (E.2.2.1 t)), (1, .long x1)]) hE (by decide) rfl (Nat.le_of_ble_eq_true rfl) rfl (fun F hC hO hR => k_X12_lay_0 hC hO hR hn t ht1 ht2 x1 σ rfl)
def rm_X12_feed : Room := { frames := 1, cells := 0, slots := 0, locals := 36 }
theorem kf_X12_feed_1 : Cond.fieldLink yX12_feed.cls 1 "EveryMeasureModel" (TX12 0).2.1 (TX12 0).2.2.1 ∈ wsX12_feed := by decide +kernel
theorem hi_X12_feed_12 : ∀ w ∈ u_ws RX12 TX12 39, w ∈ wsX12_feed := by decide +kernel
theorem kf_X12_feed_11 : Cond.fieldLink yX12_feed.cls 11 "EveryMeasureModel" (TX12 2).2.1 (TX12 2).2.2.1 ∈ wsX12_feed := by decide +kernel
set_option maxHeartbeats 4000000 in
set_option maxRecDepth 100000 in
theorem k_X12_feed_0 {E : ET} {F : FT} {fo : Option (Int32 × HS)} (hC : Cx E F 7 cX12_feed yX12_feed.cls wsX12_feed) (hO : Ro F rm_X12_feed) (hR : RI E F .int fo) (hf : fo ≠ none) (t : Nat) (ht1 : kd t = 12) (ht2 : t < NN) (x1 : Int64) (x3 : Int64) (x5 : Int64) (σ : HS) (h : f_X12_feed t x1 x3 x5 σ = fo) : G E F 0 [(0, .ref (E.2.2.1 t)), (1, .long x1), (3, .long x3), (5, .long x5)] [] σ := by
    refine g_aload_n hC dX12_feed_0 rfl 0 rfl ?_
    refine g_iconst (v := 0) hC dX12_feed_1 (by decide) ?_
    refine g_putI (k := 0) hC cr12 hi_X12_feed_12 tyX12_ok nmX12 ht1 ht2 (by decide) kf_X12_feed_1 rfl rfl rfl rfl dX12_feed_2 ?_
    refine g_aload_n hC dX12_feed_5 rfl 0 rfl ?_
    refine g_lload_n hC dX12_feed_6 rfl 1 rfl ?_
    obtain ⟨q1, hq1, h⟩ := bd_of h hf
    refine g_cVV (As := [.long x1]) hC hO (c_X12_lay E hC.2.2.2.2.2.2.1 t ht1 ht2 x1 (sI σ t 0 0) (nn_of hq1)) gX12_feed_X12_lay (xk_X12_lay _ (Nat.le_of_ble_eq_true rfl) (Nat.le_of_ble_eq_true rfl)) cr12 ht1 ht2 rfl (Nat.le_of_ble_eq_true rfl) dX12_feed_7 hq1 ?_
    refine g_aload_n hC dX12_feed_10 rfl 0 rfl ?_
    refine g_lload_n hC dX12_feed_11 rfl 2 rfl ?_
    obtain ⟨q2, hq2, h⟩ := bd_of h hf
    refine g_cVV (As := [.long x3]) hC hO (c_X12_lay E hC.2.2.2.2.2.2.1 t ht1 ht2 x3 q1 (nn_of hq2)) gX12_feed_X12_lay (xk_X12_lay _ (Nat.le_of_ble_eq_true rfl) (Nat.le_of_ble_eq_true rfl)) cr12 ht1 ht2 rfl (Nat.le_of_ble_eq_true rfl) dX12_feed_12 hq2 ?_
    refine g_aload_n hC dX12_feed_15 rfl 0 rfl ?_
    refine g_lload hC dX12_feed_16 3 rfl ?_
    obtain ⟨q3, hq3, h⟩ := bd_of h hf
    refine g_cVV (As := [.long x5]) hC hO (c_X12_lay E hC.2.2.2.2.2.2.1 t ht1 ht2 x5 q2 (nn_of hq3)) gX12_feed_X12_lay (xk_X12_lay _ (Nat.le_of_ble_eq_true rfl) (Nat.le_of_ble_eq_true rfl)) cr12 ht1 ht2 rfl (Nat.le_of_ble_eq_true rfl) dX12_feed_18 hq3 ?_
    refine g_aload_n hC dX12_feed_21 rfl 0 rfl ?_
    refine g_getI (k := 2) hC cr12 hi_X12_feed_12 ht1 ht2 (by decide) kf_X12_feed_11 rfl rfl dX12_feed_22 ?_
    exact g_iret hC hR dX12_feed_25 rfl h
theorem xk_X12_feed (R : Room) (h1 : 1 + 1 ≤ R.frames) (h2 : 74 ≤ R.locals) : xw R yX12_feed wsX12_feed (List.tail wsX12_feed) cX12_feed 7 (some .int) rm_X12_feed 3 := ⟨rfl, rfl, rfl, h1, h2, ⟨by decide, by decide⟩, by decide +kernel⟩
theorem c_X12_feed (E : ET) (hE : EO E) (t : Nat) (ht1 : kd t = 12) (ht2 : t < NN) (x1 : Int64) (x3 : Int64) (x5 : Int64) (σ : HS) (hn : f_X12_feed t x1 x3 x5 σ ≠ none) : CoI E yX12_feed wsX12_feed rm_X12_feed [.ref (E.2.2.1 t), .long x1, .long x3, .long x5] σ (f_X12_feed t x1 x3 x5 σ) := CoI.of (lv := [(0, .ref (E.2.2.1 t)), (1, .long x1), (3, .long x3), (5, .long x5)]) hE (by decide) rfl (Nat.le_of_ble_eq_true rfl) rfl (fun F hC hO hR => k_X12_feed_0 hC hO hR hn t ht1 ht2 x1 x3 x5 σ rfl)
def rm_X12_forgetsChoice : Room := { frames := 0, cells := 0, slots := 0, locals := 0 }
theorem kf_X12_forgetsChoice_79 : Cond.fieldLink yX12_forgetsChoice.cls 79 "EveryMeasureModel" (TX12 13).2.1 (TX12 13).2.2.1 ∈ wsX12_forgetsChoice := by decide +kernel
theorem hi_X12_forgetsChoice_12 : ∀ w ∈ u_ws RX12 TX12 39, w ∈ wsX12_forgetsChoice := by decide +kernel
theorem kf_X12_forgetsChoice_69 : Cond.fieldLink yX12_forgetsChoice.cls 69 "EveryMeasureModel" (TX12 10).2.1 (TX12 10).2.2.1 ∈ wsX12_forgetsChoice := by decide +kernel
theorem kf_X12_forgetsChoice_73 : Cond.fieldLink yX12_forgetsChoice.cls 73 "EveryMeasureModel" (TX12 11).2.1 (TX12 11).2.2.1 ∈ wsX12_forgetsChoice := by decide +kernel
theorem kf_X12_forgetsChoice_76 : Cond.fieldLink yX12_forgetsChoice.cls 76 "EveryMeasureModel" (TX12 12).2.1 (TX12 12).2.2.1 ∈ wsX12_forgetsChoice := by decide +kernel
set_option maxHeartbeats 4000000 in
set_option maxRecDepth 100000 in
theorem k_X12_forgetsChoice_9 {E : ET} {F : FT} {fo : Option HS} (hC : Cx E F 3 cX12_forgetsChoice yX12_forgetsChoice.cls wsX12_forgetsChoice) (hO : Ro F rm_X12_forgetsChoice) (hR : RV E F fo) (hf : fo ≠ none) (t : Nat) (ht1 : kd t = 12) (ht2 : t < NN) (x1 : Int32) : ∀ (n : Nat) (x2 : Int32) (σ : HS), f_X12_forgetsChoice_9 t x1 n x2 σ = fo → G E F 9 [(0, .ref (E.2.2.1 t)), (1, .int x1), (2, .int x2)] [] σ := by
  intro n
  induction n with
  | zero =>
    intro x2 σ h
    exact absurd (h.symm.trans rfl) hf
  | succ n ih =>
    intro x2 σ h
    refine g_iload_n hC dX12_forgetsChoice_9 rfl 2 rfl ?_
    refine g_iconst (v := 4) hC dX12_forgetsChoice_10 (by decide) ?_
    refine g_icmp_ge (tgt := 53) hC dX12_forgetsChoice_11 (by decide) h (fun c11 h => ?_) (fun c11 h => ?_)
    · exact g_vret hC hR dX12_forgetsChoice_53 h
    · refine g_aload_n hC dX12_forgetsChoice_14 rfl 0 rfl ?_
      refine g_getR (cj := 16) (k := 10) hC cr12 hi_X12_forgetsChoice_12 ht1 ht2 (by decide) kf_X12_forgetsChoice_69 rfl rfl dX12_forgetsChoice_15 h hf (fun a1 ea1 ka1 na1 h => ?_)
      refine g_iconst (v := 4) hC dX12_forgetsChoice_18 (by decide) ?_
      refine g_iload_n hC dX12_forgetsChoice_19 rfl 1 rfl ?_
      refine g_imul hC dX12_forgetsChoice_20 ?_
      refine g_iload_n hC dX12_forgetsChoice_21 rfl 2 rfl ?_
      refine g_iadd hC dX12_forgetsChoice_22 ?_
      refine g_iconst (v := 0) hC dX12_forgetsChoice_23 (by decide) ?_
      refine g_zast hC ka1 na1 dX12_forgetsChoice_24 h hf (fun h => ?_)
      refine g_aload_n hC dX12_forgetsChoice_25 rfl 0 rfl ?_
      refine g_getR (cj := 14) (k := 11) hC cr12 hi_X12_forgetsChoice_12 ht1 ht2 (by decide) kf_X12_forgetsChoice_73 rfl rfl dX12_forgetsChoice_26 h hf (fun a2 ea2 ka2 na2 h => ?_)
      refine g_iconst (v := 4) hC dX12_forgetsChoice_29 (by decide) ?_
      refine g_iload_n hC dX12_forgetsChoice_30 rfl 1 rfl ?_
      refine g_imul hC dX12_forgetsChoice_31 ?_
      refine g_iload_n hC dX12_forgetsChoice_32 rfl 2 rfl ?_
      refine g_iadd hC dX12_forgetsChoice_33 ?_
      refine g_iconst (v := (-1)) hC dX12_forgetsChoice_34 (by decide) ?_
      refine g_iast hC ka2 na2 dX12_forgetsChoice_35 h hf (fun h => ?_)
      refine g_aload_n hC dX12_forgetsChoice_36 rfl 0 rfl ?_
      refine g_getR (cj := 14) (k := 12) hC cr12 hi_X12_forgetsChoice_12 ht1 ht2 (by decide) kf_X12_forgetsChoice_76 rfl rfl dX12_forgetsChoice_37 h hf (fun a3 ea3 ka3 na3 h => ?_)
      refine g_iconst (v := 4) hC dX12_forgetsChoice_40 (by decide) ?_
      refine g_iload_n hC dX12_forgetsChoice_41 rfl 1 rfl ?_
      refine g_imul hC dX12_forgetsChoice_42 ?_
      refine g_iload_n hC dX12_forgetsChoice_43 rfl 2 rfl ?_
      refine g_iadd hC dX12_forgetsChoice_44 ?_
      refine g_iconst (v := (-1)) hC dX12_forgetsChoice_45 (by decide) ?_
      refine g_iast hC ka3 na3 dX12_forgetsChoice_46 h hf (fun h => ?_)
      refine g_iinc (v := x2 + 1) (lv' := [(2, .int (x2 + 1)), (0, .ref (E.2.2.1 t)), (1, .int x1)]) hC dX12_forgetsChoice_47 2 rfl rfl (by decide) rfl ?_
      refine g_goto (tgt := 9) hC dX12_forgetsChoice_50 (by decide) ?_
      exact g_sub [1, 2, 0] rfl (ih (x2 + 1) (sI (sI (sI σ a1 (((4 : Int32) * x1) + x2).toNatClampNeg (0 &&& 1)) a2 (((4 : Int32) * x1) + x2).toNatClampNeg (-1)) a3 (((4 : Int32) * x1) + x2).toNatClampNeg (-1)) h)
set_option maxHeartbeats 4000000 in
set_option maxRecDepth 100000 in
theorem k_X12_forgetsChoice_0 {E : ET} {F : FT} {fo : Option HS} (hC : Cx E F 3 cX12_forgetsChoice yX12_forgetsChoice.cls wsX12_forgetsChoice) (hO : Ro F rm_X12_forgetsChoice) (hR : RV E F fo) (hf : fo ≠ none) (t : Nat) (ht1 : kd t = 12) (ht2 : t < NN) (x1 : Int32) (σ : HS) (h : f_X12_forgetsChoice t x1 σ = fo) : G E F 0 [(0, .ref (E.2.2.1 t)), (1, .int x1)] [] σ := by
    refine g_aload_n hC dX12_forgetsChoice_0 rfl 0 rfl ?_
    refine g_getR (cj := 14) (k := 13) hC cr12 hi_X12_forgetsChoice_12 ht1 ht2 (by decide) kf_X12_forgetsChoice_79 rfl rfl dX12_forgetsChoice_1 h hf (fun a1 ea1 ka1 na1 h => ?_)
    refine g_iload_n hC dX12_forgetsChoice_4 rfl 1 rfl ?_
    refine g_iconst (v := 0) hC dX12_forgetsChoice_5 (by decide) ?_
    refine g_iast hC ka1 na1 dX12_forgetsChoice_6 h hf (fun h => ?_)
    refine g_iconst (v := 0) hC dX12_forgetsChoice_7 (by decide) ?_
    refine g_istore_n (lv' := [(2, .int 0), (0, .ref (E.2.2.1 t)), (1, .int x1)]) hC dX12_forgetsChoice_8 rfl (by decide) rfl ?_
    exact g_sub [1, 2, 0] rfl (k_X12_forgetsChoice_9 hC hO hR hf t ht1 ht2 x1 FU 0 (sI σ a1 x1.toNatClampNeg 0) h)
theorem xk_X12_forgetsChoice (R : Room) (h1 : 0 + 1 ≤ R.frames) (h2 : 34 ≤ R.locals) : xw R yX12_forgetsChoice wsX12_forgetsChoice (List.tail wsX12_forgetsChoice) cX12_forgetsChoice 3 none rm_X12_forgetsChoice 1 := ⟨rfl, rfl, rfl, h1, h2, ⟨by decide, by decide⟩, by decide +kernel⟩
theorem c_X12_forgetsChoice (E : ET) (hE : EO E) (t : Nat) (ht1 : kd t = 12) (ht2 : t < NN) (x1 : Int32) (σ : HS) (hn : f_X12_forgetsChoice t x1 σ ≠ none) : CoV E yX12_forgetsChoice wsX12_forgetsChoice rm_X12_forgetsChoice [.ref (E.2.2.1 t), .int x1] σ (f_X12_forgetsChoice t x1 σ) := CoV.of (lv := [(0, .ref (E.2.2.1 t)), (1, .int x1)]) hE (by decide) rfl (Nat.le_of_ble_eq_true rfl) rfl (fun F hC hO hR => k_X12_forgetsChoice_0 hC hO hR hn t ht1 ht2 x1 σ rfl)
def rm_X12_clears : Room := { frames := 1, cells := 0, slots := 0, locals := 34 }
theorem kf_X12_clears_193 : Cond.fieldLink yX12_clears.cls 193 "EveryMeasureModel" (TX12 20).2.1 (TX12 20).2.2.1 ∈ wsX12_clears := by decide +kernel
theorem hi_X12_clears_12 : ∀ w ∈ u_ws RX12 TX12 39, w ∈ wsX12_clears := by decide +kernel
theorem kf_X12_clears_207 : Cond.fieldLink yX12_clears.cls 207 "EveryMeasureModel" (TX12 23).2.1 (TX12 23).2.2.1 ∈ wsX12_clears := by decide +kernel
theorem kf_X12_clears_210 : Cond.fieldLink yX12_clears.cls 210 "EveryMeasureModel" (TX12 24).2.1 (TX12 24).2.2.1 ∈ wsX12_clears := by decide +kernel
theorem kf_X12_clears_100 : Cond.fieldLink yX12_clears.cls 100 "EveryMeasureModel" (TX12 21).2.1 (TX12 21).2.2.1 ∈ wsX12_clears := by decide +kernel
set_option maxHeartbeats 4000000 in
set_option maxRecDepth 100000 in
theorem k_X12_clears_7 {E : ET} {F : FT} {fo : Option HS} (hC : Cx E F 3 cX12_clears yX12_clears.cls wsX12_clears) (hO : Ro F rm_X12_clears) (hR : RV E F fo) (hf : fo ≠ none) (t : Nat) (ht1 : kd t = 12) (ht2 : t < NN) : ∀ (n : Nat) (x2 : Int32) (σ : HS), f_X12_clears_7 t n x2 σ = fo → G E F 7 [(0, .ref (E.2.2.1 t)), (2, .int x2)] [] σ := by
  intro n
  induction n with
  | zero =>
    intro x2 σ h
    exact absurd (h.symm.trans rfl) hf
  | succ n ih =>
    intro x2 σ h
    refine g_iload_n hC dX12_clears_7 rfl 1 rfl ?_
    refine g_bipush (v := 8) hC dX12_clears_8 (by decide) ?_
    refine g_icmp_ge (tgt := 26) hC dX12_clears_10 (by decide) h (fun c10 h => ?_) (fun c10 h => ?_)
    · refine g_aload_n hC dX12_clears_26 rfl 0 rfl ?_
      refine g_iconst (v := 0) hC dX12_clears_27 (by decide) ?_
      obtain ⟨q1, hq1, h⟩ := bd_of h hf
      refine g_cVV (As := [.int 0]) hC hO (c_X12_forgetsChoice E hC.2.2.2.2.2.2.1 t ht1 ht2 0 σ (nn_of hq1)) gX12_clears_X12_forgetsChoice (xk_X12_forgetsChoice _ (Nat.le_of_ble_eq_true rfl) (Nat.le_of_ble_eq_true rfl)) cr12 ht1 ht2 rfl (Nat.le_of_ble_eq_true rfl) dX12_clears_28 hq1 ?_
      refine g_aload_n hC dX12_clears_31 rfl 0 rfl ?_
      refine g_sipush (v := 255) hC dX12_clears_32 (by decide) ?_
      refine g_putI (k := 23) hC cr12 hi_X12_clears_12 tyX12_ok nmX12 ht1 ht2 (by decide) kf_X12_clears_207 rfl rfl rfl rfl dX12_clears_35 ?_
      refine g_aload_n hC dX12_clears_38 rfl 0 rfl ?_
      refine g_iconst (v := 0) hC dX12_clears_39 (by decide) ?_
      refine g_putI (k := 24) hC cr12 hi_X12_clears_12 tyX12_ok nmX12 ht1 ht2 (by decide) kf_X12_clears_210 rfl rfl rfl rfl dX12_clears_40 ?_
      exact g_vret hC hR dX12_clears_43 h
    · refine g_aload_n hC dX12_clears_13 rfl 0 rfl ?_
      refine g_getR (cj := 16) (k := 21) hC cr12 hi_X12_clears_12 ht1 ht2 (by decide) kf_X12_clears_100 rfl rfl dX12_clears_14 h hf (fun a2 ea2 ka2 na2 h => ?_)
      refine g_iload_n hC dX12_clears_17 rfl 1 rfl ?_
      refine g_iconst (v := 0) hC dX12_clears_18 (by decide) ?_
      refine g_zast hC ka2 na2 dX12_clears_19 h hf (fun h => ?_)
      refine g_iinc (v := x2 + 1) (lv' := [(2, .int (x2 + 1)), (0, .ref (E.2.2.1 t))]) hC dX12_clears_20 1 rfl rfl (by decide) rfl ?_
      refine g_goto (tgt := 7) hC dX12_clears_23 (by decide) ?_
      exact g_sub [1, 0] rfl (ih (x2 + 1) (sI σ a2 x2.toNatClampNeg (0 &&& 1)) h)
set_option maxHeartbeats 4000000 in
set_option maxRecDepth 100000 in
theorem k_X12_clears_0 {E : ET} {F : FT} {fo : Option HS} (hC : Cx E F 3 cX12_clears yX12_clears.cls wsX12_clears) (hO : Ro F rm_X12_clears) (hR : RV E F fo) (hf : fo ≠ none) (t : Nat) (ht1 : kd t = 12) (ht2 : t < NN) (x1 : Int32) (σ : HS) (h : f_X12_clears t x1 σ = fo) : G E F 0 [(0, .ref (E.2.2.1 t)), (1, .int x1)] [] σ := by
    refine g_aload_n hC dX12_clears_0 rfl 0 rfl ?_
    refine g_iload_n hC dX12_clears_1 rfl 1 rfl ?_
    refine g_putI (k := 20) hC cr12 hi_X12_clears_12 tyX12_ok nmX12 ht1 ht2 (by decide) kf_X12_clears_193 rfl rfl rfl rfl dX12_clears_2 ?_
    refine g_iconst (v := 0) hC dX12_clears_5 (by decide) ?_
    refine g_istore_n (lv' := [(2, .int 0), (0, .ref (E.2.2.1 t)), (1, .int x1)]) hC dX12_clears_6 rfl (by decide) rfl ?_
    exact g_sub [1, 0] rfl (k_X12_clears_7 hC hO hR hf t ht1 ht2 FU 0 (sI σ t 20 x1) h)
theorem xk_X12_clears (R : Room) (h1 : 1 + 1 ≤ R.frames) (h2 : 68 ≤ R.locals) : xw R yX12_clears wsX12_clears (List.tail wsX12_clears) cX12_clears 3 none rm_X12_clears 1 := ⟨rfl, rfl, rfl, h1, h2, ⟨by decide, by decide⟩, by decide +kernel⟩
theorem c_X12_clears (E : ET) (hE : EO E) (t : Nat) (ht1 : kd t = 12) (ht2 : t < NN) (x1 : Int32) (σ : HS) (hn : f_X12_clears t x1 σ ≠ none) : CoV E yX12_clears wsX12_clears rm_X12_clears [.ref (E.2.2.1 t), .int x1] σ (f_X12_clears t x1 σ) := CoV.of (lv := [(0, .ref (E.2.2.1 t)), (1, .int x1)]) hE (by decide) rfl (Nat.le_of_ble_eq_true rfl) rfl (fun F hC hO hR => k_X12_clears_0 hC hO hR hn t ht1 ht2 x1 σ rfl)
def rm_X12_isLetter : Room := { frames := 0, cells := 0, slots := 0, locals := 0 }
set_option maxHeartbeats 4000000 in
set_option maxRecDepth 100000 in
theorem k_X12_isLetter_17 {E : ET} {F : FT} {fo : Option (Int32 × HS)} (hC : Cx E F 1 cX12_isLetter yX12_isLetter.cls wsX12_isLetter) (hO : Ro F rm_X12_isLetter) (hR : RI E F .boolean fo) (hf : fo ≠ none) (s0 : Int32) (σ : HS) (h : f_X12_isLetter_17 s0 σ = fo) : G E F 17 [] [.int s0] σ := by
    obtain ⟨hz, h⟩ := zr_of h hf
    exact g_iret hC hR dX12_isLetter_17 hz h
set_option maxHeartbeats 4000000 in
set_option maxRecDepth 100000 in
theorem k_X12_isLetter_16 {E : ET} {F : FT} {fo : Option (Int32 × HS)} (hC : Cx E F 1 cX12_isLetter yX12_isLetter.cls wsX12_isLetter) (hO : Ro F rm_X12_isLetter) (hR : RI E F .boolean fo) (hf : fo ≠ none) (σ : HS) (h : f_X12_isLetter_16 σ = fo) : G E F 16 [] [] σ := by
    refine g_iconst (v := 0) hC dX12_isLetter_16 (by decide) ?_
    exact g_sub [] rfl (k_X12_isLetter_17 hC hO hR hf 0 σ h)
set_option maxHeartbeats 4000000 in
set_option maxRecDepth 100000 in
theorem k_X12_isLetter_0 {E : ET} {F : FT} {fo : Option (Int32 × HS)} (hC : Cx E F 1 cX12_isLetter yX12_isLetter.cls wsX12_isLetter) (hO : Ro F rm_X12_isLetter) (hR : RI E F .boolean fo) (hf : fo ≠ none) (x0 : Int32) (σ : HS) (h : f_X12_isLetter x0 σ = fo) : G E F 0 [(0, .int x0)] [] σ := by
    refine g_iload_n hC dX12_isLetter_0 rfl 0 rfl ?_
    refine g_bipush (v := 97) hC dX12_isLetter_1 (by decide) ?_
    refine g_icmp_lt (tgt := 16) hC dX12_isLetter_3 (by decide) h (fun c3 h => ?_) (fun c3 h => ?_)
    · exact g_sub [] rfl (k_X12_isLetter_16 hC hO hR hf σ h)
    · refine g_iload_n hC dX12_isLetter_6 rfl 0 rfl ?_
      refine g_bipush (v := 122) hC dX12_isLetter_7 (by decide) ?_
      refine g_icmp_gt (tgt := 16) hC dX12_isLetter_9 (by decide) h (fun c9 h => ?_) (fun c9 h => ?_)
      · exact g_sub [] rfl (k_X12_isLetter_16 hC hO hR hf σ h)
      · refine g_iconst (v := 1) hC dX12_isLetter_12 (by decide) ?_
        refine g_goto (tgt := 17) hC dX12_isLetter_13 (by decide) ?_
        exact g_sub [] rfl (k_X12_isLetter_17 hC hO hR hf 1 σ h)
theorem xk_X12_isLetter (R : Room) (h1 : 0 + 1 ≤ R.frames) (h2 : 32 ≤ R.locals) : xw R yX12_isLetter wsX12_isLetter (List.tail wsX12_isLetter) cX12_isLetter 1 (some .boolean) rm_X12_isLetter 1 := ⟨rfl, rfl, rfl, h1, h2, ⟨by decide, by decide⟩, by decide +kernel⟩
theorem c_X12_isLetter (E : ET) (hE : EO E) (x0 : Int32) (σ : HS) (hn : f_X12_isLetter x0 σ ≠ none) : CoI E yX12_isLetter wsX12_isLetter rm_X12_isLetter [.int x0] σ (f_X12_isLetter x0 σ) := CoI.of (lv := [(0, .int x0)]) hE (by decide) rfl (Nat.le_of_ble_eq_true rfl) rfl (fun F hC hO hR => k_X12_isLetter_0 hC hO hR hn x0 σ rfl)
def rm_X12_isDigit : Room := { frames := 0, cells := 0, slots := 0, locals := 0 }
set_option maxHeartbeats 4000000 in
set_option maxRecDepth 100000 in
theorem k_X12_isDigit_17 {E : ET} {F : FT} {fo : Option (Int32 × HS)} (hC : Cx E F 1 cX12_isDigit yX12_isDigit.cls wsX12_isDigit) (hO : Ro F rm_X12_isDigit) (hR : RI E F .boolean fo) (hf : fo ≠ none) (s0 : Int32) (σ : HS) (h : f_X12_isDigit_17 s0 σ = fo) : G E F 17 [] [.int s0] σ := by
    obtain ⟨hz, h⟩ := zr_of h hf
    exact g_iret hC hR dX12_isDigit_17 hz h
set_option maxHeartbeats 4000000 in
set_option maxRecDepth 100000 in
theorem k_X12_isDigit_16 {E : ET} {F : FT} {fo : Option (Int32 × HS)} (hC : Cx E F 1 cX12_isDigit yX12_isDigit.cls wsX12_isDigit) (hO : Ro F rm_X12_isDigit) (hR : RI E F .boolean fo) (hf : fo ≠ none) (σ : HS) (h : f_X12_isDigit_16 σ = fo) : G E F 16 [] [] σ := by
    refine g_iconst (v := 0) hC dX12_isDigit_16 (by decide) ?_
    exact g_sub [] rfl (k_X12_isDigit_17 hC hO hR hf 0 σ h)
set_option maxHeartbeats 4000000 in
set_option maxRecDepth 100000 in
theorem k_X12_isDigit_0 {E : ET} {F : FT} {fo : Option (Int32 × HS)} (hC : Cx E F 1 cX12_isDigit yX12_isDigit.cls wsX12_isDigit) (hO : Ro F rm_X12_isDigit) (hR : RI E F .boolean fo) (hf : fo ≠ none) (x0 : Int32) (σ : HS) (h : f_X12_isDigit x0 σ = fo) : G E F 0 [(0, .int x0)] [] σ := by
    refine g_iload_n hC dX12_isDigit_0 rfl 0 rfl ?_
    refine g_bipush (v := 48) hC dX12_isDigit_1 (by decide) ?_
    refine g_icmp_lt (tgt := 16) hC dX12_isDigit_3 (by decide) h (fun c3 h => ?_) (fun c3 h => ?_)
    · exact g_sub [] rfl (k_X12_isDigit_16 hC hO hR hf σ h)
    · refine g_iload_n hC dX12_isDigit_6 rfl 0 rfl ?_
      refine g_bipush (v := 57) hC dX12_isDigit_7 (by decide) ?_
      refine g_icmp_gt (tgt := 16) hC dX12_isDigit_9 (by decide) h (fun c9 h => ?_) (fun c9 h => ?_)
      · exact g_sub [] rfl (k_X12_isDigit_16 hC hO hR hf σ h)
      · refine g_iconst (v := 1) hC dX12_isDigit_12 (by decide) ?_
        refine g_goto (tgt := 17) hC dX12_isDigit_13 (by decide) ?_
        exact g_sub [] rfl (k_X12_isDigit_17 hC hO hR hf 1 σ h)
theorem xk_X12_isDigit (R : Room) (h1 : 0 + 1 ≤ R.frames) (h2 : 32 ≤ R.locals) : xw R yX12_isDigit wsX12_isDigit (List.tail wsX12_isDigit) cX12_isDigit 1 (some .boolean) rm_X12_isDigit 1 := ⟨rfl, rfl, rfl, h1, h2, ⟨by decide, by decide⟩, by decide +kernel⟩
theorem c_X12_isDigit (E : ET) (hE : EO E) (x0 : Int32) (σ : HS) (hn : f_X12_isDigit x0 σ ≠ none) : CoI E yX12_isDigit wsX12_isDigit rm_X12_isDigit [.int x0] σ (f_X12_isDigit x0 σ) := CoI.of (lv := [(0, .int x0)]) hE (by decide) rfl (Nat.le_of_ble_eq_true rfl) rfl (fun F hC hO hR => k_X12_isDigit_0 hC hO hR hn x0 σ rfl)
def rm_X12_rank : Room := { frames := 1, cells := 0, slots := 0, locals := 32 }
set_option maxHeartbeats 4000000 in
set_option maxRecDepth 100000 in
theorem k_X12_rank_18 {E : ET} {F : FT} {fo : Option (Int32 × HS)} (hC : Cx E F 1 cX12_rank yX12_rank.cls wsX12_rank) (hO : Ro F rm_X12_rank) (hR : RI E F .int fo) (hf : fo ≠ none) (s0 : Int32) (σ : HS) (h : f_X12_rank_18 s0 σ = fo) : G E F 18 [] [.int s0] σ := by
    exact g_iret hC hR dX12_rank_18 rfl h
set_option maxHeartbeats 4000000 in
set_option maxRecDepth 100000 in
theorem k_X12_rank_0 {E : ET} {F : FT} {fo : Option (Int32 × HS)} (hC : Cx E F 1 cX12_rank yX12_rank.cls wsX12_rank) (hO : Ro F rm_X12_rank) (hR : RI E F .int fo) (hf : fo ≠ none) (x0 : Int32) (σ : HS) (h : f_X12_rank x0 σ = fo) : G E F 0 [(0, .int x0)] [] σ := by
    refine g_iload_n hC dX12_rank_0 rfl 0 rfl ?_
    obtain ⟨q1, hq1, h⟩ := bd_of h hf
    refine g_cSI (As := [.int x0]) hC hO (c_X12_isLetter E hC.2.2.2.2.2.2.1 x0 σ (nn_of hq1)) gX12_rank_X12_isLetter (xk_X12_isLetter _ (Nat.le_of_ble_eq_true rfl) (Nat.le_of_ble_eq_true rfl)) rfl (Nat.le_of_ble_eq_true rfl) dX12_rank_1 hq1 ?_
    refine g_if_eq (tgt := 14) hC dX12_rank_4 (by decide) h (fun c4 h => ?_) (fun c4 h => ?_)
    · refine g_iload_n hC dX12_rank_14 rfl 0 rfl ?_
      refine g_bipush (v := 21) hC dX12_rank_15 (by decide) ?_
      refine g_isub hC dX12_rank_17 ?_
      exact g_sub [] rfl (k_X12_rank_18 hC hO hR hf (x0 - 21) q1.2 h)
    · refine g_iload_n hC dX12_rank_7 rfl 0 rfl ?_
      refine g_bipush (v := 96) hC dX12_rank_8 (by decide) ?_
      refine g_isub hC dX12_rank_10 ?_
      refine g_goto (tgt := 18) hC dX12_rank_11 (by decide) ?_
      exact g_sub [] rfl (k_X12_rank_18 hC hO hR hf (x0 - 96) q1.2 h)
theorem xk_X12_rank (R : Room) (h1 : 1 + 1 ≤ R.frames) (h2 : 64 ≤ R.locals) : xw R yX12_rank wsX12_rank (List.tail wsX12_rank) cX12_rank 1 (some .int) rm_X12_rank 1 := ⟨rfl, rfl, rfl, h1, h2, ⟨by decide, by decide⟩, by decide +kernel⟩
theorem c_X12_rank (E : ET) (hE : EO E) (x0 : Int32) (σ : HS) (hn : f_X12_rank x0 σ ≠ none) : CoI E yX12_rank wsX12_rank rm_X12_rank [.int x0] σ (f_X12_rank x0 σ) := CoI.of (lv := [(0, .int x0)]) hE (by decide) rfl (Nat.le_of_ble_eq_true rfl) rfl (fun F hC hO hR => k_X12_rank_0 hC hO hR hn x0 σ rfl)
def rm_X12_isSignOf : Room := { frames := 0, cells := 0, slots := 0, locals := 0 }
set_option maxHeartbeats 4000000 in
set_option maxRecDepth 100000 in
theorem k_X12_isSignOf_11 {E : ET} {F : FT} {fo : Option (Int32 × HS)} (hC : Cx E F 1 cX12_isSignOf yX12_isSignOf.cls wsX12_isSignOf) (hO : Ro F rm_X12_isSignOf) (hR : RI E F .boolean fo) (hf : fo ≠ none) (s0 : Int32) (σ : HS) (h : f_X12_isSignOf_11 s0 σ = fo) : G E F 11 [] [.int s0] σ := by
    obtain ⟨hz, h⟩ := zr_of h hf
    exact g_iret hC hR dX12_isSignOf_11 hz h
set_option maxHeartbeats 4000000 in
set_option maxRecDepth 100000 in
theorem k_X12_isSignOf_0 {E : ET} {F : FT} {fo : Option (Int32 × HS)} (hC : Cx E F 1 cX12_isSignOf yX12_isSignOf.cls wsX12_isSignOf) (hO : Ro F rm_X12_isSignOf) (hR : RI E F .boolean fo) (hf : fo ≠ none) (x0 : Int32) (σ : HS) (h : f_X12_isSignOf x0 σ = fo) : G E F 0 [(0, .int x0)] [] σ := by
    refine g_iload_n hC dX12_isSignOf_0 rfl 0 rfl ?_
    refine g_bipush (v := 59) hC dX12_isSignOf_1 (by decide) ?_
    refine g_icmp_ne (tgt := 10) hC dX12_isSignOf_3 (by decide) h (fun c3 h => ?_) (fun c3 h => ?_)
    · refine g_iconst (v := 0) hC dX12_isSignOf_10 (by decide) ?_
      exact g_sub [] rfl (k_X12_isSignOf_11 hC hO hR hf 0 σ h)
    · refine g_iconst (v := 1) hC dX12_isSignOf_6 (by decide) ?_
      refine g_goto (tgt := 11) hC dX12_isSignOf_7 (by decide) ?_
      exact g_sub [] rfl (k_X12_isSignOf_11 hC hO hR hf 1 σ h)
theorem xk_X12_isSignOf (R : Room) (h1 : 0 + 1 ≤ R.frames) (h2 : 32 ≤ R.locals) : xw R yX12_isSignOf wsX12_isSignOf (List.tail wsX12_isSignOf) cX12_isSignOf 1 (some .boolean) rm_X12_isSignOf 1 := ⟨rfl, rfl, rfl, h1, h2, ⟨by decide, by decide⟩, by decide +kernel⟩
theorem c_X12_isSignOf (E : ET) (hE : EO E) (x0 : Int32) (σ : HS) (hn : f_X12_isSignOf x0 σ ≠ none) : CoI E yX12_isSignOf wsX12_isSignOf rm_X12_isSignOf [.int x0] σ (f_X12_isSignOf x0 σ) := CoI.of (lv := [(0, .int x0)]) hE (by decide) rfl (Nat.le_of_ble_eq_true rfl) rfl (fun F hC hO hR => k_X12_isSignOf_0 hC hO hR hn x0 σ rfl)
def rm_X12_cutAll : Room := { frames := 2, cells := 0, slots := 0, locals := 64 }
theorem kf_X12_cutAll_11 : Cond.fieldLink yX12_cutAll.cls 11 "EveryMeasureModel" (TX12 2).2.1 (TX12 2).2.2.1 ∈ wsX12_cutAll := by decide +kernel
theorem hi_X12_cutAll_12 : ∀ w ∈ u_ws RX12 TX12 39, w ∈ wsX12_cutAll := by decide +kernel
theorem kf_X12_cutAll_138 : Cond.fieldLink yX12_cutAll.cls 138 "EveryMeasureModel" (TX12 3).2.1 (TX12 3).2.2.1 ∈ wsX12_cutAll := by decide +kernel
theorem kf_X12_cutAll_24 : Cond.fieldLink yX12_cutAll.cls 24 "EveryMeasureModel" (TX12 4).2.1 (TX12 4).2.2.1 ∈ wsX12_cutAll := by decide +kernel
theorem kf_X12_cutAll_27 : Cond.fieldLink yX12_cutAll.cls 27 "EveryMeasureModel" (TX12 5).2.1 (TX12 5).2.2.1 ∈ wsX12_cutAll := by decide +kernel
theorem kf_X12_cutAll_157 : Cond.fieldLink yX12_cutAll.cls 157 "EveryMeasureModel" (TX12 7).2.1 (TX12 7).2.2.1 ∈ wsX12_cutAll := by decide +kernel
theorem kf_X12_cutAll_160 : Cond.fieldLink yX12_cutAll.cls 160 "EveryMeasureModel" (TX12 8).2.1 (TX12 8).2.2.1 ∈ wsX12_cutAll := by decide +kernel
theorem kf_X12_cutAll_14 : Cond.fieldLink yX12_cutAll.cls 14 "EveryMeasureModel" (TX12 1).2.1 (TX12 1).2.2.1 ∈ wsX12_cutAll := by decide +kernel
theorem kf_X12_cutAll_30 : Cond.fieldLink yX12_cutAll.cls 30 "EveryMeasureModel" (TX12 6).2.1 (TX12 6).2.2.1 ∈ wsX12_cutAll := by decide +kernel
theorem kf_X12_cutAll_150 : Jvm.Cond.constantLong yX12_cutAll.cls 150 (10) ∈ wsX12_cutAll := by decide +kernel
theorem kf_X12_cutAll_152 : Jvm.Cond.constantLong yX12_cutAll.cls 152 (48) ∈ wsX12_cutAll := by decide +kernel
theorem kf_X12_cutAll_141 : Jvm.Cond.constantLong yX12_cutAll.cls 141 (37) ∈ wsX12_cutAll := by decide +kernel
set_option maxHeartbeats 4000000 in
set_option maxRecDepth 100000 in
theorem k_X12_cutAll_44 {E : ET} {F : FT} {fo : Option HS} (hC : Cx E F 7 cX12_cutAll yX12_cutAll.cls wsX12_cutAll) (hO : Ro F rm_X12_cutAll) (hR : RV E F fo) (hf : fo ≠ none) (t : Nat) (ht1 : kd t = 12) (ht2 : t < NN) (x1 : Int32) (x2 : Int32) (r17 : Int32 → Int32 → HS → Option HS) (h17 : ∀ (x1 : Int32) (x2 : Int32) (σ : HS), r17 x1 x2 σ = fo → G E F 17 [(0, .ref (E.2.2.1 t)), (1, .int x1), (2, .int x2)] [] σ) (σ : HS) (h : f_X12_cutAll_44 r17 t x1 x2 σ = fo) : G E F 44 [(0, .ref (E.2.2.1 t)), (1, .int x1), (2, .int x2)] [] σ := by
    refine g_iinc (v := x2 + 1) (lv' := [(2, .int (x2 + 1)), (0, .ref (E.2.2.1 t)), (1, .int x1)]) hC dX12_cutAll_44 2 rfl rfl (by decide) rfl ?_
    refine g_goto (tgt := 17) hC dX12_cutAll_47 (by decide) ?_
    exact g_sub [1, 2, 0] rfl (h17 x1 (x2 + 1) σ h)
set_option maxHeartbeats 4000000 in
set_option maxRecDepth 100000 in
theorem k_X12_cutAll_265 {E : ET} {F : FT} {fo : Option HS} (hC : Cx E F 7 cX12_cutAll yX12_cutAll.cls wsX12_cutAll) (hO : Ro F rm_X12_cutAll) (hR : RV E F fo) (hf : fo ≠ none) (t : Nat) (ht1 : kd t = 12) (ht2 : t < NN) (x1 : Int32) (x2 : Int32) (x5 : Int64) (r17 : Int32 → Int32 → HS → Option HS) (h17 : ∀ (x1 : Int32) (x2 : Int32) (σ : HS), r17 x1 x2 σ = fo → G E F 17 [(0, .ref (E.2.2.1 t)), (1, .int x1), (2, .int x2)] [] σ) (σ : HS) (h : f_X12_cutAll_265 r17 t x1 x2 x5 σ = fo) : G E F 265 [(0, .ref (E.2.2.1 t)), (1, .int x1), (2, .int x2), (5, .long x5)] [] σ := by
    refine g_aload_n hC dX12_cutAll_265 rfl 0 rfl ?_
    refine g_getR (cj := 15) (k := 6) hC cr12 hi_X12_cutAll_12 ht1 ht2 (by decide) kf_X12_cutAll_30 rfl rfl dX12_cutAll_266 h hf (fun a1 ea1 ka1 na1 h => ?_)
    refine g_iload_n hC dX12_cutAll_269 rfl 1 rfl ?_
    refine g_lload hC dX12_cutAll_270 3 rfl ?_
    refine g_last hC ka1 na1 dX12_cutAll_272 h hf (fun h => ?_)
    refine g_iinc (v := x1 + 1) (lv' := [(1, .int (x1 + 1)), (0, .ref (E.2.2.1 t)), (2, .int x2), (5, .long x5)]) hC dX12_cutAll_273 1 rfl rfl (by decide) rfl ?_
    refine g_goto (tgt := 17) hC dX12_cutAll_276 (by decide) ?_
    exact g_sub [1, 0, 2] rfl (h17 (x1 + 1) x2 (sJ σ a1 x1.toNatClampNeg x5) h)
set_option maxHeartbeats 4000000 in
set_option maxRecDepth 100000 in
theorem k_X12_cutAll_261 {E : ET} {F : FT} {fo : Option HS} (hC : Cx E F 7 cX12_cutAll yX12_cutAll.cls wsX12_cutAll) (hO : Ro F rm_X12_cutAll) (hR : RV E F fo) (hf : fo ≠ none) (t : Nat) (ht1 : kd t = 12) (ht2 : t < NN) (x1 : Int32) (x2 : Int32) (x5 : Int64) (s0 : Int32) (s1 : Int32) (s2 : Nat) (hs2a : kd s2 = 14) (hs2b : s2 < NN) (r17 : Int32 → Int32 → HS → Option HS) (h17 : ∀ (x1 : Int32) (x2 : Int32) (σ : HS), r17 x1 x2 σ = fo → G E F 17 [(0, .ref (E.2.2.1 t)), (1, .int x1), (2, .int x2)] [] σ) (σ : HS) (h : f_X12_cutAll_261 r17 t x1 x2 x5 s0 s1 s2 σ = fo) : G E F 261 [(0, .ref (E.2.2.1 t)), (1, .int x1), (2, .int x2), (5, .long x5)] [.int s0, .int s1, .ref (E.2.2.1 s2)] σ := by
    refine g_iast hC hs2a hs2b dX12_cutAll_261 h hf (fun h => ?_)
    refine g_iinc (v := x2 + 1) (lv' := [(2, .int (x2 + 1)), (0, .ref (E.2.2.1 t)), (1, .int x1), (5, .long x5)]) hC dX12_cutAll_262 2 rfl rfl (by decide) rfl ?_
    exact g_sub [1, 2, 0, 3] rfl (k_X12_cutAll_265 hC hO hR hf t ht1 ht2 x1 (x2 + 1) x5 r17 h17 (sI σ s2 s1.toNatClampNeg s0) h)
set_option maxHeartbeats 4000000 in
set_option maxRecDepth 100000 in
theorem k_X12_cutAll_236 {E : ET} {F : FT} {fo : Option HS} (hC : Cx E F 7 cX12_cutAll yX12_cutAll.cls wsX12_cutAll) (hO : Ro F rm_X12_cutAll) (hR : RV E F fo) (hf : fo ≠ none) (t : Nat) (ht1 : kd t = 12) (ht2 : t < NN) (x1 : Int32) (x2 : Int32) (x5 : Int64) (s0 : Int32) (s1 : Int32) (s2 : Nat) (hs2a : kd s2 = 14) (hs2b : s2 < NN) (r17 : Int32 → Int32 → HS → Option HS) (h17 : ∀ (x1 : Int32) (x2 : Int32) (σ : HS), r17 x1 x2 σ = fo → G E F 17 [(0, .ref (E.2.2.1 t)), (1, .int x1), (2, .int x2)] [] σ) (σ : HS) (h : f_X12_cutAll_236 r17 t x1 x2 x5 s0 s1 s2 σ = fo) : G E F 236 [(0, .ref (E.2.2.1 t)), (1, .int x1), (2, .int x2), (5, .long x5)] [.int s0, .int s1, .ref (E.2.2.1 s2)] σ := by
    refine g_iast hC hs2a hs2b dX12_cutAll_236 h hf (fun h => ?_)
    refine g_goto (tgt := 265) hC dX12_cutAll_237 (by decide) ?_
    exact g_sub [0, 1, 2, 3] rfl (k_X12_cutAll_265 hC hO hR hf t ht1 ht2 x1 x2 x5 r17 h17 (sI σ s2 s1.toNatClampNeg s0) h)
set_option maxHeartbeats 4000000 in
set_option maxRecDepth 100000 in
theorem k_X12_cutAll_218 {E : ET} {F : FT} {fo : Option HS} (hC : Cx E F 7 cX12_cutAll yX12_cutAll.cls wsX12_cutAll) (hO : Ro F rm_X12_cutAll) (hR : RV E F fo) (hf : fo ≠ none) (t : Nat) (ht1 : kd t = 12) (ht2 : t < NN) (x1 : Int32) (x2 : Int32) (x4 : Int32) (x5 : Int64) (r17 : Int32 → Int32 → HS → Option HS) (h17 : ∀ (x1 : Int32) (x2 : Int32) (σ : HS), r17 x1 x2 σ = fo → G E F 17 [(0, .ref (E.2.2.1 t)), (1, .int x1), (2, .int x2)] [] σ) (σ : HS) (h : f_X12_cutAll_218 r17 t x1 x2 x4 x5 σ = fo) : G E F 218 [(0, .ref (E.2.2.1 t)), (1, .int x1), (2, .int x2), (4, .int x4), (5, .long x5)] [] σ := by
    refine g_aload_n hC dX12_cutAll_218 rfl 0 rfl ?_
    refine g_getR (cj := 14) (k := 4) hC cr12 hi_X12_cutAll_12 ht1 ht2 (by decide) kf_X12_cutAll_24 rfl rfl dX12_cutAll_219 h hf (fun a1 ea1 ka1 na1 h => ?_)
    refine g_iload_n hC dX12_cutAll_222 rfl 1 rfl ?_
    refine g_iload_n hC dX12_cutAll_223 rfl 2 rfl ?_
    refine g_iload hC dX12_cutAll_224 3 rfl ?_
    refine g_isub hC dX12_cutAll_226 ?_
    refine g_iconst (v := 3) hC dX12_cutAll_227 (by decide) ?_
    refine g_icmp_le (tgt := 235) hC dX12_cutAll_228 (by decide) h (fun c228 h => ?_) (fun c228 h => ?_)
    · refine g_iconst (v := 2) hC dX12_cutAll_235 (by decide) ?_
      exact g_sub [0, 1, 2, 4] rfl (k_X12_cutAll_236 hC hO hR hf t ht1 ht2 x1 x2 x5 2 x1 a1 ka1 na1 r17 h17 σ h)
    · refine g_iconst (v := 4) hC dX12_cutAll_231 (by decide) ?_
      refine g_goto (tgt := 236) hC dX12_cutAll_232 (by decide) ?_
      exact g_sub [0, 1, 2, 4] rfl (k_X12_cutAll_236 hC hO hR hf t ht1 ht2 x1 x2 x5 4 x1 a1 ka1 na1 r17 h17 σ h)
set_option maxHeartbeats 4000000 in
set_option maxRecDepth 100000 in
theorem k_X12_cutAll_210 {E : ET} {F : FT} {fo : Option HS} (hC : Cx E F 7 cX12_cutAll yX12_cutAll.cls wsX12_cutAll) (hO : Ro F rm_X12_cutAll) (hR : RV E F fo) (hf : fo ≠ none) (t : Nat) (ht1 : kd t = 12) (ht2 : t < NN) (x1 : Int32) (x2 : Int32) (x4 : Int32) (s0 : Int64) (r17 : Int32 → Int32 → HS → Option HS) (h17 : ∀ (x1 : Int32) (x2 : Int32) (σ : HS), r17 x1 x2 σ = fo → G E F 17 [(0, .ref (E.2.2.1 t)), (1, .int x1), (2, .int x2)] [] σ) (r159 : Int32 → Int64 → HS → Option HS) (h159 : ∀ (x2 : Int32) (x5 : Int64) (σ : HS), r159 x2 x5 σ = fo → G E F 159 [(0, .ref (E.2.2.1 t)), (1, .int x1), (2, .int x2), (4, .int x4), (5, .long x5)] [] σ) (σ : HS) (h : f_X12_cutAll_210 r17 r159 t x1 x2 x4 s0 σ = fo) : G E F 210 [(0, .ref (E.2.2.1 t)), (1, .int x1), (2, .int x2), (4, .int x4)] [.long s0] σ := by
    refine g_lstore (lv' := [(5, .long s0), (0, .ref (E.2.2.1 t)), (1, .int x1), (2, .int x2), (4, .int x4)]) hC dX12_cutAll_210 (by decide) rfl ?_
    refine g_iinc (v := x2 + 1) (lv' := [(2, .int (x2 + 1)), (5, .long s0), (0, .ref (E.2.2.1 t)), (1, .int x1), (4, .int x4)]) hC dX12_cutAll_212 3 rfl rfl (by decide) rfl ?_
    refine g_goto (tgt := 159) hC dX12_cutAll_215 (by decide) ?_
    exact g_sub [2, 3, 0, 4, 1] rfl (h159 (x2 + 1) s0 σ h)
set_option maxHeartbeats 4000000 in
set_option maxRecDepth 100000 in
theorem k_X12_cutAll_159 {E : ET} {F : FT} {fo : Option HS} (hC : Cx E F 7 cX12_cutAll yX12_cutAll.cls wsX12_cutAll) (hO : Ro F rm_X12_cutAll) (hR : RV E F fo) (hf : fo ≠ none) (t : Nat) (ht1 : kd t = 12) (ht2 : t < NN) (x1 : Int32) (x4 : Int32) (r17 : Int32 → Int32 → HS → Option HS) (h17 : ∀ (x1 : Int32) (x2 : Int32) (σ : HS), r17 x1 x2 σ = fo → G E F 17 [(0, .ref (E.2.2.1 t)), (1, .int x1), (2, .int x2)] [] σ) : ∀ (n : Nat) (x2 : Int32) (x5 : Int64) (σ : HS), f_X12_cutAll_159 t x1 x4 r17 n x2 x5 σ = fo → G E F 159 [(0, .ref (E.2.2.1 t)), (1, .int x1), (2, .int x2), (4, .int x4), (5, .long x5)] [] σ := by
  intro n
  induction n with
  | zero =>
    intro x2 x5 σ h
    exact absurd (h.symm.trans rfl) hf
  | succ n ih =>
    intro x2 x5 σ h
    refine g_iload_n hC dX12_cutAll_159 rfl 2 rfl ?_
    refine g_aload_n hC dX12_cutAll_160 rfl 0 rfl ?_
    refine g_getI (k := 3) hC cr12 hi_X12_cutAll_12 ht1 ht2 (by decide) kf_X12_cutAll_138 rfl rfl dX12_cutAll_161 ?_
    refine g_icmp_ge (tgt := 218) hC dX12_cutAll_164 (by decide) h (fun c164 h => ?_) (fun c164 h => ?_)
    · exact g_sub [0, 1, 2, 3, 4] rfl (k_X12_cutAll_218 hC hO hR hf t ht1 ht2 x1 x2 x4 x5 r17 h17 σ h)
    · refine g_aload_n hC dX12_cutAll_167 rfl 0 rfl ?_
      refine g_getR (cj := 14) (k := 1) hC cr12 hi_X12_cutAll_12 ht1 ht2 (by decide) kf_X12_cutAll_14 rfl rfl dX12_cutAll_168 h hf (fun a1 ea1 ka1 na1 h => ?_)
      refine g_iload_n hC dX12_cutAll_171 rfl 2 rfl ?_
      refine g_iald hC ka1 na1 dX12_cutAll_172 h hf (fun h => ?_)
      obtain ⟨q2, hq2, h⟩ := bd_of h hf
      refine g_cSI (As := [.int (σ.1 a1 x2.toNatClampNeg)]) hC hO (c_X12_isDigit E hC.2.2.2.2.2.2.1 (σ.1 a1 x2.toNatClampNeg) σ (nn_of hq2)) gX12_cutAll_X12_isDigit (xk_X12_isDigit _ (Nat.le_of_ble_eq_true rfl) (Nat.le_of_ble_eq_true rfl)) rfl (Nat.le_of_ble_eq_true rfl) dX12_cutAll_173 hq2 ?_
      refine g_if_eq (tgt := 218) hC dX12_cutAll_176 (by decide) h (fun c176 h => ?_) (fun c176 h => ?_)
      · exact g_sub [0, 1, 2, 3, 4] rfl (k_X12_cutAll_218 hC hO hR hf t ht1 ht2 x1 x2 x4 x5 r17 h17 q2.2 h)
      · refine g_iload_n hC dX12_cutAll_179 rfl 2 rfl ?_
        refine g_iload hC dX12_cutAll_180 3 rfl ?_
        refine g_isub hC dX12_cutAll_182 ?_
        refine g_iconst (v := 3) hC dX12_cutAll_183 (by decide) ?_
        refine g_icmp_ge (tgt := 208) hC dX12_cutAll_184 (by decide) h (fun c184 h => ?_) (fun c184 h => ?_)
        · refine g_lload hC dX12_cutAll_208 4 rfl ?_
          exact g_sub [0, 1, 2, 3] rfl (k_X12_cutAll_210 hC hO hR hf t ht1 ht2 x1 x2 x4 x5 r17 h17 (f_X12_cutAll_159 t x1 x4 r17 n) ih q2.2 h)
        · refine g_ldc2 (v := 10) hC kf_X12_cutAll_150 dX12_cutAll_187 ?_
          refine g_lload hC dX12_cutAll_190 4 rfl ?_
          refine g_lmul hC dX12_cutAll_192 ?_
          refine g_aload_n hC dX12_cutAll_193 rfl 0 rfl ?_
          refine g_getR (cj := 14) (k := 1) hC cr12 hi_X12_cutAll_12 ht1 ht2 (by decide) kf_X12_cutAll_14 rfl rfl dX12_cutAll_194 h hf (fun a3 ea3 ka3 na3 h => ?_)
          refine g_iload_n hC dX12_cutAll_197 rfl 2 rfl ?_
          refine g_iald hC ka3 na3 dX12_cutAll_198 h hf (fun h => ?_)
          refine g_i2l hC dX12_cutAll_199 ?_
          refine g_ladd hC dX12_cutAll_200 ?_
          refine g_ldc2 (v := 48) hC kf_X12_cutAll_152 dX12_cutAll_201 ?_
          refine g_lsub hC dX12_cutAll_204 ?_
          refine g_goto (tgt := 210) hC dX12_cutAll_205 (by decide) ?_
          exact g_sub [0, 1, 2, 3] rfl (k_X12_cutAll_210 hC hO hR hf t ht1 ht2 x1 x2 x4 ((((10 : Int64) * x5) + ((q2.2.1 a3 x2.toNatClampNeg).toInt64)) - 48) r17 h17 (f_X12_cutAll_159 t x1 x4 r17 n) ih q2.2 h)
set_option maxHeartbeats 4000000 in
set_option maxRecDepth 100000 in
theorem k_X12_cutAll_148 {E : ET} {F : FT} {fo : Option HS} (hC : Cx E F 7 cX12_cutAll yX12_cutAll.cls wsX12_cutAll) (hO : Ro F rm_X12_cutAll) (hR : RV E F fo) (hf : fo ≠ none) (t : Nat) (ht1 : kd t = 12) (ht2 : t < NN) (x1 : Int32) (x2 : Int32) (x5 : Int64) (s0 : Int32) (s1 : Int32) (s2 : Nat) (hs2a : kd s2 = 14) (hs2b : s2 < NN) (r17 : Int32 → Int32 → HS → Option HS) (h17 : ∀ (x1 : Int32) (x2 : Int32) (σ : HS), r17 x1 x2 σ = fo → G E F 17 [(0, .ref (E.2.2.1 t)), (1, .int x1), (2, .int x2)] [] σ) (σ : HS) (h : f_X12_cutAll_148 r17 t x1 x2 x5 s0 s1 s2 σ = fo) : G E F 148 [(0, .ref (E.2.2.1 t)), (1, .int x1), (2, .int x2), (5, .long x5)] [.int s0, .int s1, .ref (E.2.2.1 s2)] σ := by
    refine g_iast hC hs2a hs2b dX12_cutAll_148 h hf (fun h => ?_)
    refine g_goto (tgt := 265) hC dX12_cutAll_149 (by decide) ?_
    exact g_sub [0, 1, 2, 3] rfl (k_X12_cutAll_265 hC hO hR hf t ht1 ht2 x1 x2 x5 r17 h17 (sI σ s2 s1.toNatClampNeg s0) h)
set_option maxHeartbeats 4000000 in
set_option maxRecDepth 100000 in
theorem k_X12_cutAll_129 {E : ET} {F : FT} {fo : Option HS} (hC : Cx E F 7 cX12_cutAll yX12_cutAll.cls wsX12_cutAll) (hO : Ro F rm_X12_cutAll) (hR : RV E F fo) (hf : fo ≠ none) (t : Nat) (ht1 : kd t = 12) (ht2 : t < NN) (x1 : Int32) (x2 : Int32) (x4 : Int32) (x5 : Int64) (r17 : Int32 → Int32 → HS → Option HS) (h17 : ∀ (x1 : Int32) (x2 : Int32) (σ : HS), r17 x1 x2 σ = fo → G E F 17 [(0, .ref (E.2.2.1 t)), (1, .int x1), (2, .int x2)] [] σ) (σ : HS) (h : f_X12_cutAll_129 r17 t x1 x2 x4 x5 σ = fo) : G E F 129 [(0, .ref (E.2.2.1 t)), (1, .int x1), (2, .int x2), (4, .int x4), (5, .long x5)] [] σ := by
    refine g_aload_n hC dX12_cutAll_129 rfl 0 rfl ?_
    refine g_getR (cj := 14) (k := 4) hC cr12 hi_X12_cutAll_12 ht1 ht2 (by decide) kf_X12_cutAll_24 rfl rfl dX12_cutAll_130 h hf (fun a1 ea1 ka1 na1 h => ?_)
    refine g_iload_n hC dX12_cutAll_133 rfl 1 rfl ?_
    refine g_iload_n hC dX12_cutAll_134 rfl 2 rfl ?_
    refine g_iload hC dX12_cutAll_135 3 rfl ?_
    refine g_isub hC dX12_cutAll_137 ?_
    refine g_bipush (v := 8) hC dX12_cutAll_138 (by decide) ?_
    refine g_icmp_le (tgt := 147) hC dX12_cutAll_140 (by decide) h (fun c140 h => ?_) (fun c140 h => ?_)
    · refine g_iconst (v := 1) hC dX12_cutAll_147 (by decide) ?_
      exact g_sub [0, 1, 2, 4] rfl (k_X12_cutAll_148 hC hO hR hf t ht1 ht2 x1 x2 x5 1 x1 a1 ka1 na1 r17 h17 σ h)
    · refine g_iconst (v := 4) hC dX12_cutAll_143 (by decide) ?_
      refine g_goto (tgt := 148) hC dX12_cutAll_144 (by decide) ?_
      exact g_sub [0, 1, 2, 4] rfl (k_X12_cutAll_148 hC hO hR hf t ht1 ht2 x1 x2 x5 4 x1 a1 ka1 na1 r17 h17 σ h)
set_option maxHeartbeats 4000000 in
set_option maxRecDepth 100000 in
theorem k_X12_cutAll_121 {E : ET} {F : FT} {fo : Option HS} (hC : Cx E F 7 cX12_cutAll yX12_cutAll.cls wsX12_cutAll) (hO : Ro F rm_X12_cutAll) (hR : RV E F fo) (hf : fo ≠ none) (t : Nat) (ht1 : kd t = 12) (ht2 : t < NN) (x1 : Int32) (x2 : Int32) (x4 : Int32) (s0 : Int64) (r17 : Int32 → Int32 → HS → Option HS) (h17 : ∀ (x1 : Int32) (x2 : Int32) (σ : HS), r17 x1 x2 σ = fo → G E F 17 [(0, .ref (E.2.2.1 t)), (1, .int x1), (2, .int x2)] [] σ) (r70 : Int32 → Int64 → HS → Option HS) (h70 : ∀ (x2 : Int32) (x5 : Int64) (σ : HS), r70 x2 x5 σ = fo → G E F 70 [(0, .ref (E.2.2.1 t)), (1, .int x1), (2, .int x2), (4, .int x4), (5, .long x5)] [] σ) (σ : HS) (h : f_X12_cutAll_121 r17 r70 t x1 x2 x4 s0 σ = fo) : G E F 121 [(0, .ref (E.2.2.1 t)), (1, .int x1), (2, .int x2), (4, .int x4)] [.long s0] σ := by
    refine g_lstore (lv' := [(5, .long s0), (0, .ref (E.2.2.1 t)), (1, .int x1), (2, .int x2), (4, .int x4)]) hC dX12_cutAll_121 (by decide) rfl ?_
    refine g_iinc (v := x2 + 1) (lv' := [(2, .int (x2 + 1)), (5, .long s0), (0, .ref (E.2.2.1 t)), (1, .int x1), (4, .int x4)]) hC dX12_cutAll_123 3 rfl rfl (by decide) rfl ?_
    refine g_goto (tgt := 70) hC dX12_cutAll_126 (by decide) ?_
    exact g_sub [2, 3, 0, 4, 1] rfl (h70 (x2 + 1) s0 σ h)
set_option maxHeartbeats 4000000 in
set_option maxRecDepth 100000 in
theorem k_X12_cutAll_70 {E : ET} {F : FT} {fo : Option HS} (hC : Cx E F 7 cX12_cutAll yX12_cutAll.cls wsX12_cutAll) (hO : Ro F rm_X12_cutAll) (hR : RV E F fo) (hf : fo ≠ none) (t : Nat) (ht1 : kd t = 12) (ht2 : t < NN) (x1 : Int32) (x4 : Int32) (r17 : Int32 → Int32 → HS → Option HS) (h17 : ∀ (x1 : Int32) (x2 : Int32) (σ : HS), r17 x1 x2 σ = fo → G E F 17 [(0, .ref (E.2.2.1 t)), (1, .int x1), (2, .int x2)] [] σ) : ∀ (n : Nat) (x2 : Int32) (x5 : Int64) (σ : HS), f_X12_cutAll_70 t x1 x4 r17 n x2 x5 σ = fo → G E F 70 [(0, .ref (E.2.2.1 t)), (1, .int x1), (2, .int x2), (4, .int x4), (5, .long x5)] [] σ := by
  intro n
  induction n with
  | zero =>
    intro x2 x5 σ h
    exact absurd (h.symm.trans rfl) hf
  | succ n ih =>
    intro x2 x5 σ h
    refine g_iload_n hC dX12_cutAll_70 rfl 2 rfl ?_
    refine g_aload_n hC dX12_cutAll_71 rfl 0 rfl ?_
    refine g_getI (k := 3) hC cr12 hi_X12_cutAll_12 ht1 ht2 (by decide) kf_X12_cutAll_138 rfl rfl dX12_cutAll_72 ?_
    refine g_icmp_ge (tgt := 129) hC dX12_cutAll_75 (by decide) h (fun c75 h => ?_) (fun c75 h => ?_)
    · exact g_sub [0, 1, 2, 3, 4] rfl (k_X12_cutAll_129 hC hO hR hf t ht1 ht2 x1 x2 x4 x5 r17 h17 σ h)
    · refine g_aload_n hC dX12_cutAll_78 rfl 0 rfl ?_
      refine g_getR (cj := 14) (k := 1) hC cr12 hi_X12_cutAll_12 ht1 ht2 (by decide) kf_X12_cutAll_14 rfl rfl dX12_cutAll_79 h hf (fun a1 ea1 ka1 na1 h => ?_)
      refine g_iload_n hC dX12_cutAll_82 rfl 2 rfl ?_
      refine g_iald hC ka1 na1 dX12_cutAll_83 h hf (fun h => ?_)
      obtain ⟨q2, hq2, h⟩ := bd_of h hf
      refine g_cSI (As := [.int (σ.1 a1 x2.toNatClampNeg)]) hC hO (c_X12_isLetter E hC.2.2.2.2.2.2.1 (σ.1 a1 x2.toNatClampNeg) σ (nn_of hq2)) gX12_cutAll_X12_isLetter (xk_X12_isLetter _ (Nat.le_of_ble_eq_true rfl) (Nat.le_of_ble_eq_true rfl)) rfl (Nat.le_of_ble_eq_true rfl) dX12_cutAll_84 hq2 ?_
      refine g_if_eq (tgt := 129) hC dX12_cutAll_87 (by decide) h (fun c87 h => ?_) (fun c87 h => ?_)
      · exact g_sub [0, 1, 2, 3, 4] rfl (k_X12_cutAll_129 hC hO hR hf t ht1 ht2 x1 x2 x4 x5 r17 h17 q2.2 h)
      · refine g_iload_n hC dX12_cutAll_90 rfl 2 rfl ?_
        refine g_iload hC dX12_cutAll_91 3 rfl ?_
        refine g_isub hC dX12_cutAll_93 ?_
        refine g_bipush (v := 8) hC dX12_cutAll_94 (by decide) ?_
        refine g_icmp_ge (tgt := 119) hC dX12_cutAll_96 (by decide) h (fun c96 h => ?_) (fun c96 h => ?_)
        · refine g_lload hC dX12_cutAll_119 4 rfl ?_
          exact g_sub [0, 1, 2, 3] rfl (k_X12_cutAll_121 hC hO hR hf t ht1 ht2 x1 x2 x4 x5 r17 h17 (f_X12_cutAll_70 t x1 x4 r17 n) ih q2.2 h)
        · refine g_ldc2 (v := 37) hC kf_X12_cutAll_141 dX12_cutAll_99 ?_
          refine g_lload hC dX12_cutAll_102 4 rfl ?_
          refine g_lmul hC dX12_cutAll_104 ?_
          refine g_aload_n hC dX12_cutAll_105 rfl 0 rfl ?_
          refine g_getR (cj := 14) (k := 1) hC cr12 hi_X12_cutAll_12 ht1 ht2 (by decide) kf_X12_cutAll_14 rfl rfl dX12_cutAll_106 h hf (fun a3 ea3 ka3 na3 h => ?_)
          refine g_iload_n hC dX12_cutAll_109 rfl 2 rfl ?_
          refine g_iald hC ka3 na3 dX12_cutAll_110 h hf (fun h => ?_)
          obtain ⟨q4, hq4, h⟩ := bd_of h hf
          refine g_cSI (As := [.int (q2.2.1 a3 x2.toNatClampNeg)]) hC hO (c_X12_rank E hC.2.2.2.2.2.2.1 (q2.2.1 a3 x2.toNatClampNeg) q2.2 (nn_of hq4)) gX12_cutAll_X12_rank (xk_X12_rank _ (Nat.le_of_ble_eq_true rfl) (Nat.le_of_ble_eq_true rfl)) rfl (Nat.le_of_ble_eq_true rfl) dX12_cutAll_111 hq4 ?_
          refine g_i2l hC dX12_cutAll_114 ?_
          refine g_ladd hC dX12_cutAll_115 ?_
          refine g_goto (tgt := 121) hC dX12_cutAll_116 (by decide) ?_
          exact g_sub [0, 1, 2, 3] rfl (k_X12_cutAll_121 hC hO hR hf t ht1 ht2 x1 x2 x4 (((37 : Int64) * x5) + q4.1.toInt64) r17 h17 (f_X12_cutAll_70 t x1 x4 r17 n) ih q4.2 h)
set_option maxHeartbeats 4000000 in
set_option maxRecDepth 100000 in
theorem k_X12_cutAll_17 {E : ET} {F : FT} {fo : Option HS} (hC : Cx E F 7 cX12_cutAll yX12_cutAll.cls wsX12_cutAll) (hO : Ro F rm_X12_cutAll) (hR : RV E F fo) (hf : fo ≠ none) (t : Nat) (ht1 : kd t = 12) (ht2 : t < NN) : ∀ (n : Nat) (x1 : Int32) (x2 : Int32) (σ : HS), f_X12_cutAll_17 t n x1 x2 σ = fo → G E F 17 [(0, .ref (E.2.2.1 t)), (1, .int x1), (2, .int x2)] [] σ := by
  intro n
  induction n with
  | zero =>
    intro x1 x2 σ h
    exact absurd (h.symm.trans rfl) hf
  | succ n ih =>
    intro x1 x2 σ h
    refine g_iload_n hC dX12_cutAll_17 rfl 2 rfl ?_
    refine g_aload_n hC dX12_cutAll_18 rfl 0 rfl ?_
    refine g_getI (k := 3) hC cr12 hi_X12_cutAll_12 ht1 ht2 (by decide) kf_X12_cutAll_138 rfl rfl dX12_cutAll_19 ?_
    refine g_icmp_ge (tgt := 279) hC dX12_cutAll_22 (by decide) h (fun c22 h => ?_) (fun c22 h => ?_)
    · refine g_aload_n hC dX12_cutAll_279 rfl 0 rfl ?_
      refine g_getR (cj := 14) (k := 4) hC cr12 hi_X12_cutAll_12 ht1 ht2 (by decide) kf_X12_cutAll_24 rfl rfl dX12_cutAll_280 h hf (fun a1 ea1 ka1 na1 h => ?_)
      refine g_iload_n hC dX12_cutAll_283 rfl 1 rfl ?_
      refine g_iconst (v := 0) hC dX12_cutAll_284 (by decide) ?_
      refine g_iast hC ka1 na1 dX12_cutAll_285 h hf (fun h => ?_)
      refine g_aload_n hC dX12_cutAll_286 rfl 0 rfl ?_
      refine g_getR (cj := 14) (k := 5) hC cr12 hi_X12_cutAll_12 ht1 ht2 (by decide) kf_X12_cutAll_27 rfl rfl dX12_cutAll_287 h hf (fun a2 ea2 ka2 na2 h => ?_)
      refine g_iload_n hC dX12_cutAll_290 rfl 1 rfl ?_
      refine g_aload_n hC dX12_cutAll_291 rfl 0 rfl ?_
      refine g_getI (k := 3) hC cr12 hi_X12_cutAll_12 ht1 ht2 (by decide) kf_X12_cutAll_138 rfl rfl dX12_cutAll_292 ?_
      refine g_iast hC ka2 na2 dX12_cutAll_295 h hf (fun h => ?_)
      refine g_aload_n hC dX12_cutAll_296 rfl 0 rfl ?_
      refine g_iconst (v := 0) hC dX12_cutAll_297 (by decide) ?_
      refine g_putI (k := 7) hC cr12 hi_X12_cutAll_12 tyX12_ok nmX12 ht1 ht2 (by decide) kf_X12_cutAll_157 rfl rfl rfl rfl dX12_cutAll_298 ?_
      refine g_aload_n hC dX12_cutAll_301 rfl 0 rfl ?_
      refine g_iconst (v := 0) hC dX12_cutAll_302 (by decide) ?_
      refine g_putI (k := 8) hC cr12 hi_X12_cutAll_12 tyX12_ok nmX12 ht1 ht2 (by decide) kf_X12_cutAll_160 rfl rfl rfl rfl dX12_cutAll_303 ?_
      exact g_vret hC hR dX12_cutAll_306 h
    · refine g_aload_n hC dX12_cutAll_25 rfl 0 rfl ?_
      refine g_getR (cj := 14) (k := 1) hC cr12 hi_X12_cutAll_12 ht1 ht2 (by decide) kf_X12_cutAll_14 rfl rfl dX12_cutAll_26 h hf (fun a3 ea3 ka3 na3 h => ?_)
      refine g_iload_n hC dX12_cutAll_29 rfl 2 rfl ?_
      refine g_iald hC ka3 na3 dX12_cutAll_30 h hf (fun h => ?_)
      refine g_istore_n (lv' := [(3, .int (σ.1 a3 x2.toNatClampNeg)), (0, .ref (E.2.2.1 t)), (1, .int x1), (2, .int x2)]) hC dX12_cutAll_31 rfl (by decide) rfl ?_
      refine g_iload_n hC dX12_cutAll_32 rfl 0 rfl ?_
      refine g_bipush (v := 10) hC dX12_cutAll_33 (by decide) ?_
      refine g_icmp_eq (tgt := 44) hC dX12_cutAll_35 (by decide) h (fun c35 h => ?_) (fun c35 h => ?_)
      · exact g_sub [1, 2, 3] rfl (k_X12_cutAll_44 hC hO hR hf t ht1 ht2 x1 x2 (f_X12_cutAll_17 t n) ih σ h)
      · refine g_iload_n hC dX12_cutAll_38 rfl 0 rfl ?_
        refine g_bipush (v := 32) hC dX12_cutAll_39 (by decide) ?_
        refine g_icmp_ne (tgt := 50) hC dX12_cutAll_41 (by decide) h (fun c41 h => ?_) (fun c41 h => ?_)
        · refine g_iload_n hC dX12_cutAll_50 rfl 3 rfl ?_
          refine g_istore (lv' := [(4, .int x2), (3, .int (σ.1 a3 x2.toNatClampNeg)), (0, .ref (E.2.2.1 t)), (1, .int x1), (2, .int x2)]) hC dX12_cutAll_51 (by decide) rfl ?_
          refine g_lconst (v := 0) hC dX12_cutAll_53 (by decide) ?_
          refine g_lstore (lv' := [(5, .long 0), (4, .int x2), (3, .int (σ.1 a3 x2.toNatClampNeg)), (0, .ref (E.2.2.1 t)), (1, .int x1), (2, .int x2)]) hC dX12_cutAll_54 (by decide) rfl ?_
          refine g_aload_n hC dX12_cutAll_56 rfl 3 rfl ?_
          refine g_getR (cj := 14) (k := 5) hC cr12 hi_X12_cutAll_12 ht1 ht2 (by decide) kf_X12_cutAll_27 rfl rfl dX12_cutAll_57 h hf (fun a4 ea4 ka4 na4 h => ?_)
          refine g_iload_n hC dX12_cutAll_60 rfl 4 rfl ?_
          refine g_iload_n hC dX12_cutAll_61 rfl 5 rfl ?_
          refine g_iast hC ka4 na4 dX12_cutAll_62 h hf (fun h => ?_)
          refine g_iload_n hC dX12_cutAll_63 rfl 2 rfl ?_
          obtain ⟨q5, hq5, h⟩ := bd_of h hf
          refine g_cSI (As := [.int (σ.1 a3 x2.toNatClampNeg)]) hC hO (c_X12_isLetter E hC.2.2.2.2.2.2.1 (σ.1 a3 x2.toNatClampNeg) (sI σ a4 x1.toNatClampNeg x2) (nn_of hq5)) gX12_cutAll_X12_isLetter (xk_X12_isLetter _ (Nat.le_of_ble_eq_true rfl) (Nat.le_of_ble_eq_true rfl)) rfl (Nat.le_of_ble_eq_true rfl) dX12_cutAll_64 hq5 ?_
          refine g_if_eq (tgt := 152) hC dX12_cutAll_67 (by decide) h (fun c67 h => ?_) (fun c67 h => ?_)
          · refine g_iload_n hC dX12_cutAll_152 rfl 2 rfl ?_
            obtain ⟨q6, hq6, h⟩ := bd_of h hf
            refine g_cSI (As := [.int (σ.1 a3 x2.toNatClampNeg)]) hC hO (c_X12_isDigit E hC.2.2.2.2.2.2.1 (σ.1 a3 x2.toNatClampNeg) q5.2 (nn_of hq6)) gX12_cutAll_X12_isDigit (xk_X12_isDigit _ (Nat.le_of_ble_eq_true rfl) (Nat.le_of_ble_eq_true rfl)) rfl (Nat.le_of_ble_eq_true rfl) dX12_cutAll_153 hq6 ?_
            refine g_if_eq (tgt := 240) hC dX12_cutAll_156 (by decide) h (fun c156 h => ?_) (fun c156 h => ?_)
            · refine g_iload_n hC dX12_cutAll_240 rfl 2 rfl ?_
              refine g_i2l hC dX12_cutAll_241 ?_
              refine g_lstore (lv' := [(5, .long ((σ.1 a3 x2.toNatClampNeg).toInt64)), (4, .int x2), (3, .int (σ.1 a3 x2.toNatClampNeg)), (0, .ref (E.2.2.1 t)), (1, .int x1), (2, .int x2)]) hC dX12_cutAll_242 (by decide) rfl ?_
              refine g_aload_n hC dX12_cutAll_244 rfl 3 rfl ?_
              refine g_getR (cj := 14) (k := 4) hC cr12 hi_X12_cutAll_12 ht1 ht2 (by decide) kf_X12_cutAll_24 rfl rfl dX12_cutAll_245 h hf (fun a7 ea7 ka7 na7 h => ?_)
              refine g_iload_n hC dX12_cutAll_248 rfl 4 rfl ?_
              refine g_iload_n hC dX12_cutAll_249 rfl 2 rfl ?_
              obtain ⟨q8, hq8, h⟩ := bd_of h hf
              refine g_cSI (As := [.int (σ.1 a3 x2.toNatClampNeg)]) hC hO (c_X12_isSignOf E hC.2.2.2.2.2.2.1 (σ.1 a3 x2.toNatClampNeg) q6.2 (nn_of hq8)) gX12_cutAll_X12_isSignOf (xk_X12_isSignOf _ (Nat.le_of_ble_eq_true rfl) (Nat.le_of_ble_eq_true rfl)) rfl (Nat.le_of_ble_eq_true rfl) dX12_cutAll_250 hq8 ?_
              refine g_if_eq (tgt := 260) hC dX12_cutAll_253 (by decide) h (fun c253 h => ?_) (fun c253 h => ?_)
              · refine g_iconst (v := 4) hC dX12_cutAll_260 (by decide) ?_
                exact g_sub [3, 4, 5, 0] rfl (k_X12_cutAll_261 hC hO hR hf t ht1 ht2 x1 x2 ((σ.1 a3 x2.toNatClampNeg).toInt64) 4 x1 a7 ka7 na7 (f_X12_cutAll_17 t n) ih q8.2 h)
              · refine g_iconst (v := 3) hC dX12_cutAll_256 (by decide) ?_
                refine g_goto (tgt := 261) hC dX12_cutAll_257 (by decide) ?_
                exact g_sub [3, 4, 5, 0] rfl (k_X12_cutAll_261 hC hO hR hf t ht1 ht2 x1 x2 ((σ.1 a3 x2.toNatClampNeg).toInt64) 3 x1 a7 ka7 na7 (f_X12_cutAll_17 t n) ih q8.2 h)
            · exact g_sub [3, 4, 5, 1, 0] rfl (k_X12_cutAll_159 hC hO hR hf t ht1 ht2 x1 x2 (f_X12_cutAll_17 t n) ih FU x2 0 q6.2 h)
          · exact g_sub [3, 4, 5, 1, 0] rfl (k_X12_cutAll_70 hC hO hR hf t ht1 ht2 x1 x2 (f_X12_cutAll_17 t n) ih FU x2 0 q5.2 h)
        · exact g_sub [1, 2, 3] rfl (k_X12_cutAll_44 hC hO hR hf t ht1 ht2 x1 x2 (f_X12_cutAll_17 t n) ih σ h)
set_option maxHeartbeats 4000000 in
set_option maxRecDepth 100000 in
theorem k_X12_cutAll_0 {E : ET} {F : FT} {fo : Option HS} (hC : Cx E F 7 cX12_cutAll yX12_cutAll.cls wsX12_cutAll) (hO : Ro F rm_X12_cutAll) (hR : RV E F fo) (hf : fo ≠ none) (t : Nat) (ht1 : kd t = 12) (ht2 : t < NN) (σ : HS) (h : f_X12_cutAll t σ = fo) : G E F 0 [(0, .ref (E.2.2.1 t))] [] σ := by
    refine g_aload_n hC dX12_cutAll_0 rfl 0 rfl ?_
    refine g_aload_n hC dX12_cutAll_1 rfl 0 rfl ?_
    refine g_getI (k := 2) hC cr12 hi_X12_cutAll_12 ht1 ht2 (by decide) kf_X12_cutAll_11 rfl rfl dX12_cutAll_2 ?_
    refine g_putI (k := 3) hC cr12 hi_X12_cutAll_12 tyX12_ok nmX12 ht1 ht2 (by decide) kf_X12_cutAll_138 rfl rfl rfl rfl dX12_cutAll_5 ?_
    refine g_aload_n hC dX12_cutAll_8 rfl 0 rfl ?_
    refine g_iconst (v := 0) hC dX12_cutAll_9 (by decide) ?_
    refine g_putI (k := 2) hC cr12 hi_X12_cutAll_12 tyX12_ok nmX12 ht1 ht2 (by decide) kf_X12_cutAll_11 rfl rfl rfl rfl dX12_cutAll_10 ?_
    refine g_iconst (v := 0) hC dX12_cutAll_13 (by decide) ?_
    refine g_istore_n (lv' := [(1, .int 0), (0, .ref (E.2.2.1 t))]) hC dX12_cutAll_14 rfl (by decide) rfl ?_
    refine g_iconst (v := 0) hC dX12_cutAll_15 (by decide) ?_
    refine g_istore_n (lv' := [(2, .int 0), (1, .int 0), (0, .ref (E.2.2.1 t))]) hC dX12_cutAll_16 rfl (by decide) rfl ?_
    exact g_sub [2, 1, 0] rfl (k_X12_cutAll_17 hC hO hR hf t ht1 ht2 FU 0 0 (sI (sI σ t 3 (σ.1 t 2)) t 2 0) h)
theorem xk_X12_cutAll (R : Room) (h1 : 2 + 1 ≤ R.frames) (h2 : 102 ≤ R.locals) : xw R yX12_cutAll wsX12_cutAll (List.tail wsX12_cutAll) cX12_cutAll 7 none rm_X12_cutAll 0 := ⟨rfl, rfl, rfl, h1, h2, ⟨by decide, by decide⟩, by decide +kernel⟩
theorem c_X12_cutAll (E : ET) (hE : EO E) (t : Nat) (ht1 : kd t = 12) (ht2 : t < NN) (σ : HS) (hn : f_X12_cutAll t σ ≠ none) : CoV E yX12_cutAll wsX12_cutAll rm_X12_cutAll [.ref (E.2.2.1 t)] σ (f_X12_cutAll t σ) := CoV.of (lv := [(0, .ref (E.2.2.1 t))]) hE (by decide) rfl (Nat.le_of_ble_eq_true rfl) rfl (fun F hC hO hR => k_X12_cutAll_0 hC hO hR hn t ht1 ht2 σ rfl)
def rm_X12_wrong : Room := { frames := 0, cells := 0, slots := 0, locals := 0 }
theorem kf_X12_wrong_160 : Cond.fieldLink yX12_wrong.cls 160 "EveryMeasureModel" (TX12 8).2.1 (TX12 8).2.2.1 ∈ wsX12_wrong := by decide +kernel
theorem hi_X12_wrong_12 : ∀ w ∈ u_ws RX12 TX12 39, w ∈ wsX12_wrong := by decide +kernel
theorem kf_X12_wrong_27 : Cond.fieldLink yX12_wrong.cls 27 "EveryMeasureModel" (TX12 5).2.1 (TX12 5).2.2.1 ∈ wsX12_wrong := by decide +kernel
theorem kf_X12_wrong_157 : Cond.fieldLink yX12_wrong.cls 157 "EveryMeasureModel" (TX12 7).2.1 (TX12 7).2.2.1 ∈ wsX12_wrong := by decide +kernel
set_option maxHeartbeats 4000000 in
set_option maxRecDepth 100000 in
theorem k_X12_wrong_25 {E : ET} {F : FT} {fo : Option HS} (hC : Cx E F 2 cX12_wrong yX12_wrong.cls wsX12_wrong) (hO : Ro F rm_X12_wrong) (hR : RV E F fo) (hf : fo ≠ none) (σ : HS) (h : f_X12_wrong_25 σ = fo) : G E F 25 [] [] σ := by
    exact g_vret hC hR dX12_wrong_25 h
set_option maxHeartbeats 4000000 in
set_option maxRecDepth 100000 in
theorem k_X12_wrong_0 {E : ET} {F : FT} {fo : Option HS} (hC : Cx E F 2 cX12_wrong yX12_wrong.cls wsX12_wrong) (hO : Ro F rm_X12_wrong) (hR : RV E F fo) (hf : fo ≠ none) (t : Nat) (ht1 : kd t = 12) (ht2 : t < NN) (x1 : Int32) (σ : HS) (h : f_X12_wrong t x1 σ = fo) : G E F 0 [(0, .ref (E.2.2.1 t)), (1, .int x1)] [] σ := by
    refine g_aload_n hC dX12_wrong_0 rfl 0 rfl ?_
    refine g_getI (k := 8) hC cr12 hi_X12_wrong_12 ht1 ht2 (by decide) kf_X12_wrong_160 rfl rfl dX12_wrong_1 ?_
    refine g_if_ne (tgt := 25) hC dX12_wrong_4 (by decide) h (fun c4 h => ?_) (fun c4 h => ?_)
    · exact g_sub [] rfl (k_X12_wrong_25 hC hO hR hf σ h)
    · refine g_aload_n hC dX12_wrong_7 rfl 0 rfl ?_
      refine g_iload_n hC dX12_wrong_8 rfl 1 rfl ?_
      refine g_bipush (v := 16) hC dX12_wrong_9 (by decide) ?_
      refine g_aload_n hC dX12_wrong_11 rfl 0 rfl ?_
      refine g_getR (cj := 14) (k := 5) hC cr12 hi_X12_wrong_12 ht1 ht2 (by decide) kf_X12_wrong_27 rfl rfl dX12_wrong_12 h hf (fun a1 ea1 ka1 na1 h => ?_)
      refine g_aload_n hC dX12_wrong_15 rfl 0 rfl ?_
      refine g_getI (k := 7) hC cr12 hi_X12_wrong_12 ht1 ht2 (by decide) kf_X12_wrong_157 rfl rfl dX12_wrong_16 ?_
      refine g_iald hC ka1 na1 dX12_wrong_19 h hf (fun h => ?_)
      refine g_imul hC dX12_wrong_20 ?_
      refine g_iadd hC dX12_wrong_21 ?_
      refine g_putI (k := 8) hC cr12 hi_X12_wrong_12 tyX12_ok nmX12 ht1 ht2 (by decide) kf_X12_wrong_160 rfl rfl rfl rfl dX12_wrong_22 ?_
      exact g_sub [] rfl (k_X12_wrong_25 hC hO hR hf (sI σ t 8 (x1 + ((16 : Int32) * (σ.1 a1 (σ.1 t 7).toNatClampNeg)))) h)
theorem xk_X12_wrong (R : Room) (h1 : 0 + 1 ≤ R.frames) (h2 : 33 ≤ R.locals) : xw R yX12_wrong wsX12_wrong (List.tail wsX12_wrong) cX12_wrong 2 none rm_X12_wrong 1 := ⟨rfl, rfl, rfl, h1, h2, ⟨by decide, by decide⟩, by decide +kernel⟩
theorem c_X12_wrong (E : ET) (hE : EO E) (t : Nat) (ht1 : kd t = 12) (ht2 : t < NN) (x1 : Int32) (σ : HS) (hn : f_X12_wrong t x1 σ ≠ none) : CoV E yX12_wrong wsX12_wrong rm_X12_wrong [.ref (E.2.2.1 t), .int x1] σ (f_X12_wrong t x1 σ) := CoV.of (lv := [(0, .ref (E.2.2.1 t)), (1, .int x1)]) hE (by decide) rfl (Nat.le_of_ble_eq_true rfl) rfl (fun F hC hO hR => k_X12_wrong_0 hC hO hR hn t ht1 ht2 x1 σ rfl)
def rm_X12_isSign : Room := { frames := 0, cells := 0, slots := 0, locals := 0 }
theorem kf_X12_isSign_160 : Cond.fieldLink yX12_isSign.cls 160 "EveryMeasureModel" (TX12 8).2.1 (TX12 8).2.2.1 ∈ wsX12_isSign := by decide +kernel
theorem hi_X12_isSign_12 : ∀ w ∈ u_ws RX12 TX12 39, w ∈ wsX12_isSign := by decide +kernel
theorem kf_X12_isSign_24 : Cond.fieldLink yX12_isSign.cls 24 "EveryMeasureModel" (TX12 4).2.1 (TX12 4).2.2.1 ∈ wsX12_isSign := by decide +kernel
theorem kf_X12_isSign_157 : Cond.fieldLink yX12_isSign.cls 157 "EveryMeasureModel" (TX12 7).2.1 (TX12 7).2.2.1 ∈ wsX12_isSign := by decide +kernel
theorem kf_X12_isSign_30 : Cond.fieldLink yX12_isSign.cls 30 "EveryMeasureModel" (TX12 6).2.1 (TX12 6).2.2.1 ∈ wsX12_isSign := by decide +kernel
set_option maxHeartbeats 4000000 in
set_option maxRecDepth 100000 in
theorem k_X12_isSign_40 {E : ET} {F : FT} {fo : Option (Int32 × HS)} (hC : Cx E F 2 cX12_isSign yX12_isSign.cls wsX12_isSign) (hO : Ro F rm_X12_isSign) (hR : RI E F .boolean fo) (hf : fo ≠ none) (s0 : Int32) (σ : HS) (h : f_X12_isSign_40 s0 σ = fo) : G E F 40 [] [.int s0] σ := by
    obtain ⟨hz, h⟩ := zr_of h hf
    exact g_iret hC hR dX12_isSign_40 hz h
set_option maxHeartbeats 4000000 in
set_option maxRecDepth 100000 in
theorem k_X12_isSign_39 {E : ET} {F : FT} {fo : Option (Int32 × HS)} (hC : Cx E F 2 cX12_isSign yX12_isSign.cls wsX12_isSign) (hO : Ro F rm_X12_isSign) (hR : RI E F .boolean fo) (hf : fo ≠ none) (σ : HS) (h : f_X12_isSign_39 σ = fo) : G E F 39 [] [] σ := by
    refine g_iconst (v := 0) hC dX12_isSign_39 (by decide) ?_
    exact g_sub [] rfl (k_X12_isSign_40 hC hO hR hf 0 σ h)
set_option maxHeartbeats 4000000 in
set_option maxRecDepth 100000 in
theorem k_X12_isSign_0 {E : ET} {F : FT} {fo : Option (Int32 × HS)} (hC : Cx E F 2 cX12_isSign yX12_isSign.cls wsX12_isSign) (hO : Ro F rm_X12_isSign) (hR : RI E F .boolean fo) (hf : fo ≠ none) (t : Nat) (ht1 : kd t = 12) (ht2 : t < NN) (x1 : Int32) (σ : HS) (h : f_X12_isSign t x1 σ = fo) : G E F 0 [(0, .ref (E.2.2.1 t)), (1, .int x1)] [] σ := by
    refine g_aload_n hC dX12_isSign_0 rfl 0 rfl ?_
    refine g_getI (k := 8) hC cr12 hi_X12_isSign_12 ht1 ht2 (by decide) kf_X12_isSign_160 rfl rfl dX12_isSign_1 ?_
    refine g_if_ne (tgt := 39) hC dX12_isSign_4 (by decide) h (fun c4 h => ?_) (fun c4 h => ?_)
    · exact g_sub [] rfl (k_X12_isSign_39 hC hO hR hf σ h)
    · refine g_aload_n hC dX12_isSign_7 rfl 0 rfl ?_
      refine g_getR (cj := 14) (k := 4) hC cr12 hi_X12_isSign_12 ht1 ht2 (by decide) kf_X12_isSign_24 rfl rfl dX12_isSign_8 h hf (fun a1 ea1 ka1 na1 h => ?_)
      refine g_aload_n hC dX12_isSign_11 rfl 0 rfl ?_
      refine g_getI (k := 7) hC cr12 hi_X12_isSign_12 ht1 ht2 (by decide) kf_X12_isSign_157 rfl rfl dX12_isSign_12 ?_
      refine g_iald hC ka1 na1 dX12_isSign_15 h hf (fun h => ?_)
      refine g_iconst (v := 3) hC dX12_isSign_16 (by decide) ?_
      refine g_icmp_ne (tgt := 39) hC dX12_isSign_17 (by decide) h (fun c17 h => ?_) (fun c17 h => ?_)
      · exact g_sub [] rfl (k_X12_isSign_39 hC hO hR hf σ h)
      · refine g_aload_n hC dX12_isSign_20 rfl 0 rfl ?_
        refine g_getR (cj := 15) (k := 6) hC cr12 hi_X12_isSign_12 ht1 ht2 (by decide) kf_X12_isSign_30 rfl rfl dX12_isSign_21 h hf (fun a2 ea2 ka2 na2 h => ?_)
        refine g_aload_n hC dX12_isSign_24 rfl 0 rfl ?_
        refine g_getI (k := 7) hC cr12 hi_X12_isSign_12 ht1 ht2 (by decide) kf_X12_isSign_157 rfl rfl dX12_isSign_25 ?_
        refine g_lald hC ka2 na2 dX12_isSign_28 h hf (fun h => ?_)
        refine g_iload_n hC dX12_isSign_29 rfl 1 rfl ?_
        refine g_i2l hC dX12_isSign_30 ?_
        refine g_lc_ne (tgt := 39) hC dX12_isSign_31 dX12_isSign_32 (by decide) h (fun c31 h => ?_) (fun c31 h => ?_)
        · exact g_sub [] rfl (k_X12_isSign_39 hC hO hR hf σ h)
        · refine g_iconst (v := 1) hC dX12_isSign_35 (by decide) ?_
          refine g_goto (tgt := 40) hC dX12_isSign_36 (by decide) ?_
          exact g_sub [] rfl (k_X12_isSign_40 hC hO hR hf 1 σ h)
theorem xk_X12_isSign (R : Room) (h1 : 0 + 1 ≤ R.frames) (h2 : 33 ≤ R.locals) : xw R yX12_isSign wsX12_isSign (List.tail wsX12_isSign) cX12_isSign 2 (some .boolean) rm_X12_isSign 1 := ⟨rfl, rfl, rfl, h1, h2, ⟨by decide, by decide⟩, by decide +kernel⟩
theorem c_X12_isSign (E : ET) (hE : EO E) (t : Nat) (ht1 : kd t = 12) (ht2 : t < NN) (x1 : Int32) (σ : HS) (hn : f_X12_isSign t x1 σ ≠ none) : CoI E yX12_isSign wsX12_isSign rm_X12_isSign [.ref (E.2.2.1 t), .int x1] σ (f_X12_isSign t x1 σ) := CoI.of (lv := [(0, .ref (E.2.2.1 t)), (1, .int x1)]) hE (by decide) rfl (Nat.le_of_ble_eq_true rfl) rfl (fun F hC hO hR => k_X12_isSign_0 hC hO hR hn t ht1 ht2 x1 σ rfl)
def rm_X12_isWord : Room := { frames := 0, cells := 0, slots := 0, locals := 0 }
theorem kf_X12_isWord_160 : Cond.fieldLink yX12_isWord.cls 160 "EveryMeasureModel" (TX12 8).2.1 (TX12 8).2.2.1 ∈ wsX12_isWord := by decide +kernel
theorem hi_X12_isWord_12 : ∀ w ∈ u_ws RX12 TX12 39, w ∈ wsX12_isWord := by decide +kernel
theorem kf_X12_isWord_24 : Cond.fieldLink yX12_isWord.cls 24 "EveryMeasureModel" (TX12 4).2.1 (TX12 4).2.2.1 ∈ wsX12_isWord := by decide +kernel
theorem kf_X12_isWord_157 : Cond.fieldLink yX12_isWord.cls 157 "EveryMeasureModel" (TX12 7).2.1 (TX12 7).2.2.1 ∈ wsX12_isWord := by decide +kernel
theorem kf_X12_isWord_30 : Cond.fieldLink yX12_isWord.cls 30 "EveryMeasureModel" (TX12 6).2.1 (TX12 6).2.2.1 ∈ wsX12_isWord := by decide +kernel
theorem kf_X12_isWord_66 : Cond.fieldLink yX12_isWord.cls 66 "EveryMeasureModel" (TX12 9).2.1 (TX12 9).2.2.1 ∈ wsX12_isWord := by decide +kernel
set_option maxHeartbeats 4000000 in
set_option maxRecDepth 100000 in
theorem k_X12_isWord_44 {E : ET} {F : FT} {fo : Option (Int32 × HS)} (hC : Cx E F 2 cX12_isWord yX12_isWord.cls wsX12_isWord) (hO : Ro F rm_X12_isWord) (hR : RI E F .boolean fo) (hf : fo ≠ none) (s0 : Int32) (σ : HS) (h : f_X12_isWord_44 s0 σ = fo) : G E F 44 [] [.int s0] σ := by
    obtain ⟨hz, h⟩ := zr_of h hf
    exact g_iret hC hR dX12_isWord_44 hz h
set_option maxHeartbeats 4000000 in
set_option maxRecDepth 100000 in
theorem k_X12_isWord_43 {E : ET} {F : FT} {fo : Option (Int32 × HS)} (hC : Cx E F 2 cX12_isWord yX12_isWord.cls wsX12_isWord) (hO : Ro F rm_X12_isWord) (hR : RI E F .boolean fo) (hf : fo ≠ none) (σ : HS) (h : f_X12_isWord_43 σ = fo) : G E F 43 [] [] σ := by
    refine g_iconst (v := 0) hC dX12_isWord_43 (by decide) ?_
    exact g_sub [] rfl (k_X12_isWord_44 hC hO hR hf 0 σ h)
set_option maxHeartbeats 4000000 in
set_option maxRecDepth 100000 in
theorem k_X12_isWord_0 {E : ET} {F : FT} {fo : Option (Int32 × HS)} (hC : Cx E F 2 cX12_isWord yX12_isWord.cls wsX12_isWord) (hO : Ro F rm_X12_isWord) (hR : RI E F .boolean fo) (hf : fo ≠ none) (t : Nat) (ht1 : kd t = 12) (ht2 : t < NN) (x1 : Int32) (σ : HS) (h : f_X12_isWord t x1 σ = fo) : G E F 0 [(0, .ref (E.2.2.1 t)), (1, .int x1)] [] σ := by
    refine g_aload_n hC dX12_isWord_0 rfl 0 rfl ?_
    refine g_getI (k := 8) hC cr12 hi_X12_isWord_12 ht1 ht2 (by decide) kf_X12_isWord_160 rfl rfl dX12_isWord_1 ?_
    refine g_if_ne (tgt := 43) hC dX12_isWord_4 (by decide) h (fun c4 h => ?_) (fun c4 h => ?_)
    · exact g_sub [] rfl (k_X12_isWord_43 hC hO hR hf σ h)
    · refine g_aload_n hC dX12_isWord_7 rfl 0 rfl ?_
      refine g_getR (cj := 14) (k := 4) hC cr12 hi_X12_isWord_12 ht1 ht2 (by decide) kf_X12_isWord_24 rfl rfl dX12_isWord_8 h hf (fun a1 ea1 ka1 na1 h => ?_)
      refine g_aload_n hC dX12_isWord_11 rfl 0 rfl ?_
      refine g_getI (k := 7) hC cr12 hi_X12_isWord_12 ht1 ht2 (by decide) kf_X12_isWord_157 rfl rfl dX12_isWord_12 ?_
      refine g_iald hC ka1 na1 dX12_isWord_15 h hf (fun h => ?_)
      refine g_iconst (v := 1) hC dX12_isWord_16 (by decide) ?_
      refine g_icmp_ne (tgt := 43) hC dX12_isWord_17 (by decide) h (fun c17 h => ?_) (fun c17 h => ?_)
      · exact g_sub [] rfl (k_X12_isWord_43 hC hO hR hf σ h)
      · refine g_aload_n hC dX12_isWord_20 rfl 0 rfl ?_
        refine g_getR (cj := 15) (k := 6) hC cr12 hi_X12_isWord_12 ht1 ht2 (by decide) kf_X12_isWord_30 rfl rfl dX12_isWord_21 h hf (fun a2 ea2 ka2 na2 h => ?_)
        refine g_aload_n hC dX12_isWord_24 rfl 0 rfl ?_
        refine g_getI (k := 7) hC cr12 hi_X12_isWord_12 ht1 ht2 (by decide) kf_X12_isWord_157 rfl rfl dX12_isWord_25 ?_
        refine g_lald hC ka2 na2 dX12_isWord_28 h hf (fun h => ?_)
        refine g_aload_n hC dX12_isWord_29 rfl 0 rfl ?_
        refine g_getR (cj := 15) (k := 9) hC cr12 hi_X12_isWord_12 ht1 ht2 (by decide) kf_X12_isWord_66 rfl rfl dX12_isWord_30 h hf (fun a3 ea3 ka3 na3 h => ?_)
        refine g_iload_n hC dX12_isWord_33 rfl 1 rfl ?_
        refine g_lald hC ka3 na3 dX12_isWord_34 h hf (fun h => ?_)
        refine g_lc_ne (tgt := 43) hC dX12_isWord_35 dX12_isWord_36 (by decide) h (fun c35 h => ?_) (fun c35 h => ?_)
        · exact g_sub [] rfl (k_X12_isWord_43 hC hO hR hf σ h)
        · refine g_iconst (v := 1) hC dX12_isWord_39 (by decide) ?_
          refine g_goto (tgt := 44) hC dX12_isWord_40 (by decide) ?_
          exact g_sub [] rfl (k_X12_isWord_44 hC hO hR hf 1 σ h)
theorem xk_X12_isWord (R : Room) (h1 : 0 + 1 ≤ R.frames) (h2 : 33 ≤ R.locals) : xw R yX12_isWord wsX12_isWord (List.tail wsX12_isWord) cX12_isWord 2 (some .boolean) rm_X12_isWord 1 := ⟨rfl, rfl, rfl, h1, h2, ⟨by decide, by decide⟩, by decide +kernel⟩
theorem c_X12_isWord (E : ET) (hE : EO E) (t : Nat) (ht1 : kd t = 12) (ht2 : t < NN) (x1 : Int32) (σ : HS) (hn : f_X12_isWord t x1 σ ≠ none) : CoI E yX12_isWord wsX12_isWord rm_X12_isWord [.ref (E.2.2.1 t), .int x1] σ (f_X12_isWord t x1 σ) := CoI.of (lv := [(0, .ref (E.2.2.1 t)), (1, .int x1)]) hE (by decide) rfl (Nat.le_of_ble_eq_true rfl) rfl (fun F hC hO hR => k_X12_isWord_0 hC hO hR hn t ht1 ht2 x1 σ rfl)
def rm_X12_takeSign : Room := { frames := 1, cells := 0, slots := 0, locals := 33 }
theorem kf_X12_takeSign_157 : Cond.fieldLink yX12_takeSign.cls 157 "EveryMeasureModel" (TX12 7).2.1 (TX12 7).2.2.1 ∈ wsX12_takeSign := by decide +kernel
theorem hi_X12_takeSign_12 : ∀ w ∈ u_ws RX12 TX12 39, w ∈ wsX12_takeSign := by decide +kernel
set_option maxHeartbeats 4000000 in
set_option maxRecDepth 100000 in
theorem k_X12_takeSign_26 {E : ET} {F : FT} {fo : Option HS} (hC : Cx E F 2 cX12_takeSign yX12_takeSign.cls wsX12_takeSign) (hO : Ro F rm_X12_takeSign) (hR : RV E F fo) (hf : fo ≠ none) (σ : HS) (h : f_X12_takeSign_26 σ = fo) : G E F 26 [] [] σ := by
    exact g_vret hC hR dX12_takeSign_26 h
set_option maxHeartbeats 4000000 in
set_option maxRecDepth 100000 in
theorem k_X12_takeSign_0 {E : ET} {F : FT} {fo : Option HS} (hC : Cx E F 2 cX12_takeSign yX12_takeSign.cls wsX12_takeSign) (hO : Ro F rm_X12_takeSign) (hR : RV E F fo) (hf : fo ≠ none) (t : Nat) (ht1 : kd t = 12) (ht2 : t < NN) (x1 : Int32) (σ : HS) (h : f_X12_takeSign t x1 σ = fo) : G E F 0 [(0, .ref (E.2.2.1 t)), (1, .int x1)] [] σ := by
    refine g_aload_n hC dX12_takeSign_0 rfl 0 rfl ?_
    refine g_iload_n hC dX12_takeSign_1 rfl 1 rfl ?_
    obtain ⟨q1, hq1, h⟩ := bd_of h hf
    refine g_cVI (As := [.int x1]) hC hO (c_X12_isSign E hC.2.2.2.2.2.2.1 t ht1 ht2 x1 σ (nn_of hq1)) gX12_takeSign_X12_isSign (xk_X12_isSign _ (Nat.le_of_ble_eq_true rfl) (Nat.le_of_ble_eq_true rfl)) cr12 ht1 ht2 rfl (Nat.le_of_ble_eq_true rfl) dX12_takeSign_2 hq1 ?_
    refine g_if_eq (tgt := 21) hC dX12_takeSign_5 (by decide) h (fun c5 h => ?_) (fun c5 h => ?_)
    · refine g_aload_n hC dX12_takeSign_21 rfl 0 rfl ?_
      refine g_iconst (v := 1) hC dX12_takeSign_22 (by decide) ?_
      obtain ⟨q2, hq2, h⟩ := bd_of h hf
      refine g_cVV (As := [.int 1]) hC hO (c_X12_wrong E hC.2.2.2.2.2.2.1 t ht1 ht2 1 q1.2 (nn_of hq2)) gX12_takeSign_X12_wrong (xk_X12_wrong _ (Nat.le_of_ble_eq_true rfl) (Nat.le_of_ble_eq_true rfl)) cr12 ht1 ht2 rfl (Nat.le_of_ble_eq_true rfl) dX12_takeSign_23 hq2 ?_
      exact g_sub [] rfl (k_X12_takeSign_26 hC hO hR hf q2 h)
    · refine g_aload_n hC dX12_takeSign_8 rfl 0 rfl ?_
      refine g_dup hC dX12_takeSign_9 rfl ?_
      refine g_getI (k := 7) hC cr12 hi_X12_takeSign_12 ht1 ht2 (by decide) kf_X12_takeSign_157 rfl rfl dX12_takeSign_10 ?_
      refine g_iconst (v := 1) hC dX12_takeSign_13 (by decide) ?_
      refine g_iadd hC dX12_takeSign_14 ?_
      refine g_putI (k := 7) hC cr12 hi_X12_takeSign_12 tyX12_ok nmX12 ht1 ht2 (by decide) kf_X12_takeSign_157 rfl rfl rfl rfl dX12_takeSign_15 ?_
      refine g_goto (tgt := 26) hC dX12_takeSign_18 (by decide) ?_
      exact g_sub [] rfl (k_X12_takeSign_26 hC hO hR hf (sI q1.2 t 7 ((q1.2.1 t 7) + 1)) h)
theorem xk_X12_takeSign (R : Room) (h1 : 1 + 1 ≤ R.frames) (h2 : 66 ≤ R.locals) : xw R yX12_takeSign wsX12_takeSign (List.tail wsX12_takeSign) cX12_takeSign 2 none rm_X12_takeSign 1 := ⟨rfl, rfl, rfl, h1, h2, ⟨by decide, by decide⟩, by decide +kernel⟩
theorem c_X12_takeSign (E : ET) (hE : EO E) (t : Nat) (ht1 : kd t = 12) (ht2 : t < NN) (x1 : Int32) (σ : HS) (hn : f_X12_takeSign t x1 σ ≠ none) : CoV E yX12_takeSign wsX12_takeSign rm_X12_takeSign [.ref (E.2.2.1 t), .int x1] σ (f_X12_takeSign t x1 σ) := CoV.of (lv := [(0, .ref (E.2.2.1 t)), (1, .int x1)]) hE (by decide) rfl (Nat.le_of_ble_eq_true rfl) rfl (fun F hC hO hR => k_X12_takeSign_0 hC hO hR hn t ht1 ht2 x1 σ rfl)
def rm_X12_within : Room := { frames := 0, cells := 0, slots := 0, locals := 0 }
set_option maxHeartbeats 4000000 in
set_option maxRecDepth 100000 in
theorem k_X12_within_15 {E : ET} {F : FT} {fo : Option (Int32 × HS)} (hC : Cx E F 3 cX12_within yX12_within.cls wsX12_within) (hO : Ro F rm_X12_within) (hR : RI E F .boolean fo) (hf : fo ≠ none) (s0 : Int32) (σ : HS) (h : f_X12_within_15 s0 σ = fo) : G E F 15 [] [.int s0] σ := by
    obtain ⟨hz, h⟩ := zr_of h hf
    exact g_iret hC hR dX12_within_15 hz h
set_option maxHeartbeats 4000000 in
set_option maxRecDepth 100000 in
theorem k_X12_within_14 {E : ET} {F : FT} {fo : Option (Int32 × HS)} (hC : Cx E F 3 cX12_within yX12_within.cls wsX12_within) (hO : Ro F rm_X12_within) (hR : RI E F .boolean fo) (hf : fo ≠ none) (σ : HS) (h : f_X12_within_14 σ = fo) : G E F 14 [] [] σ := by
    refine g_iconst (v := 0) hC dX12_within_14 (by decide) ?_
    exact g_sub [] rfl (k_X12_within_15 hC hO hR hf 0 σ h)
set_option maxHeartbeats 4000000 in
set_option maxRecDepth 100000 in
theorem k_X12_within_0 {E : ET} {F : FT} {fo : Option (Int32 × HS)} (hC : Cx E F 3 cX12_within yX12_within.cls wsX12_within) (hO : Ro F rm_X12_within) (hR : RI E F .boolean fo) (hf : fo ≠ none) (x0 : Int32) (x1 : Int32) (x2 : Int32) (σ : HS) (h : f_X12_within x0 x1 x2 σ = fo) : G E F 0 [(0, .int x0), (1, .int x1), (2, .int x2)] [] σ := by
    refine g_iload_n hC dX12_within_0 rfl 0 rfl ?_
    refine g_iload_n hC dX12_within_1 rfl 1 rfl ?_
    refine g_icmp_lt (tgt := 14) hC dX12_within_2 (by decide) h (fun c2 h => ?_) (fun c2 h => ?_)
    · exact g_sub [] rfl (k_X12_within_14 hC hO hR hf σ h)
    · refine g_iload_n hC dX12_within_5 rfl 0 rfl ?_
      refine g_iload_n hC dX12_within_6 rfl 2 rfl ?_
      refine g_icmp_gt (tgt := 14) hC dX12_within_7 (by decide) h (fun c7 h => ?_) (fun c7 h => ?_)
      · exact g_sub [] rfl (k_X12_within_14 hC hO hR hf σ h)
      · refine g_iconst (v := 1) hC dX12_within_10 (by decide) ?_
        refine g_goto (tgt := 15) hC dX12_within_11 (by decide) ?_
        exact g_sub [] rfl (k_X12_within_15 hC hO hR hf 1 σ h)
theorem xk_X12_within (R : Room) (h1 : 0 + 1 ≤ R.frames) (h2 : 34 ≤ R.locals) : xw R yX12_within wsX12_within (List.tail wsX12_within) cX12_within 3 (some .boolean) rm_X12_within 3 := ⟨rfl, rfl, rfl, h1, h2, ⟨by decide, by decide⟩, by decide +kernel⟩
theorem c_X12_within (E : ET) (hE : EO E) (x0 : Int32) (x1 : Int32) (x2 : Int32) (σ : HS) (hn : f_X12_within x0 x1 x2 σ ≠ none) : CoI E yX12_within wsX12_within rm_X12_within [.int x0, .int x1, .int x2] σ (f_X12_within x0 x1 x2 σ) := CoI.of (lv := [(0, .int x0), (1, .int x1), (2, .int x2)]) hE (by decide) rfl (Nat.le_of_ble_eq_true rfl) rfl (fun F hC hO hR => k_X12_within_0 hC hO hR hn x0 x1 x2 σ rfl)
